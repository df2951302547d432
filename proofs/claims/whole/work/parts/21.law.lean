/-! printed by wip/whole/law.py: the law's loop, and the rows that tie it to the machine -/
theorem lo_Q_186 : Cond.constantLong "FairWallsLaw" 186 (4294967295) ∈ GT := gtb 1438 (by decide +kernel) (by decide +kernel)
theorem iw_Q : Cond.initialized "FairWallsLaw" ∈ GT := gtb 0 (by decide +kernel) (by decide +kernel)
theorem wh_Q_103 : WH "FairWallsLaw" 103 m_Q_append 3 := ⟨gtb 360 (by decide +kernel) (by decide +kernel), iw_Q, cw_Q_append, by decide +kernel, by decide +kernel, by decide +kernel, sw_Q_append⟩
theorem wv_Q_108 : WV "FairWallsLaw" 108 m_M_append 1 := ⟨⟨gtb 1071 (by decide +kernel) (by decide +kernel), iw_M_append, cw_M_append, rfl, by decide +kernel, by decide +kernel⟩, nw_M_append, vw_M_append⟩
theorem wv_Q_109 : WV "FairWallsLaw" 109 m_M_thrown 0 := ⟨⟨gtb 1067 (by decide +kernel) (by decide +kernel), iw_M_thrown, cw_M_thrown, rfl, by decide +kernel, by decide +kernel⟩, nw_M_thrown, vw_M_thrown⟩
theorem wv_Q_112 : WV "FairWallsLaw" 112 m_F_clearText 0 := ⟨⟨gtb 238 (by decide +kernel) (by decide +kernel), iw_F_clearText, cw_F_clearText, rfl, by decide +kernel, by decide +kernel⟩, nw_F_clearText, vw_F_clearText⟩
theorem wv_Q_115 : WV "FairWallsLaw" 115 m_M_clearText 0 := ⟨⟨gtb 1083 (by decide +kernel) (by decide +kernel), iw_M_clearText, cw_M_clearText, rfl, by decide +kernel, by decide +kernel⟩, nw_M_clearText, vw_M_clearText⟩
theorem wv_Q_116 : WV "FairWallsLaw" 116 m_F_errorPosition 0 := ⟨⟨gtb 246 (by decide +kernel) (by decide +kernel), iw_F_errorPosition, cw_F_errorPosition, rfl, by decide +kernel, by decide +kernel⟩, nw_F_errorPosition, vw_F_errorPosition⟩
theorem wv_Q_119 : WV "FairWallsLaw" 119 m_M_errorPosition 0 := ⟨⟨gtb 1087 (by decide +kernel) (by decide +kernel), iw_M_errorPosition, cw_M_errorPosition, rfl, by decide +kernel, by decide +kernel⟩, nw_M_errorPosition, vw_M_errorPosition⟩
theorem wh_Q_120 : WH "FairWallsLaw" 120 m_Q_load 2 := ⟨gtb 469 (by decide +kernel) (by decide +kernel), iw_Q, cw_Q_load, by decide +kernel, by decide +kernel, by decide +kernel, sw_Q_load⟩
theorem wv_Q_123 : WV "FairWallsLaw" 123 m_M_load 0 := ⟨⟨gtb 1234 (by decide +kernel) (by decide +kernel), iw_M_load, cw_M_load, rfl, by decide +kernel, by decide +kernel⟩, nw_M_load, vw_M_load⟩
theorem wh_Q_124 : WH "FairWallsLaw" 124 m_Q_about 3 := ⟨gtb 635 (by decide +kernel) (by decide +kernel), iw_Q, cw_Q_about, by decide +kernel, by decide +kernel, by decide +kernel, sw_Q_about⟩
theorem wv_Q_126 : WV "FairWallsLaw" 126 m_M_about 1 := ⟨⟨gtb 1241 (by decide +kernel) (by decide +kernel), iw_M_about, cw_M_about, rfl, by decide +kernel, by decide +kernel⟩, nw_M_about, vw_M_about⟩
theorem wh_Q_127 : WH "FairWallsLaw" 127 m_Q_wallOf 4 := ⟨gtb 695 (by decide +kernel) (by decide +kernel), iw_Q, cw_Q_wallOf, by decide +kernel, by decide +kernel, by decide +kernel, sw_Q_wallOf⟩
theorem wv_Q_130 : WV "FairWallsLaw" 130 m_M_wallOf 2 := ⟨⟨gtb 1270 (by decide +kernel) (by decide +kernel), iw_M_wallOf, cw_M_wallOf, rfl, by decide +kernel, by decide +kernel⟩, nw_M_wallOf, vw_M_wallOf⟩
theorem wh_Q_131 : WH "FairWallsLaw" 131 m_Q_metreOf 5 := ⟨gtb 746 (by decide +kernel) (by decide +kernel), iw_Q, cw_Q_metreOf, by decide +kernel, by decide +kernel, by decide +kernel, sw_Q_metreOf⟩
theorem wv_Q_134 : WV "FairWallsLaw" 134 m_M_metreOf 3 := ⟨⟨gtb 1277 (by decide +kernel) (by decide +kernel), iw_M_metreOf, cw_M_metreOf, rfl, by decide +kernel, by decide +kernel⟩, nw_M_metreOf, vw_M_metreOf⟩
theorem wh_Q_135 : WH "FairWallsLaw" 135 m_Q_dealerOf 4 := ⟨gtb 757 (by decide +kernel) (by decide +kernel), iw_Q, cw_Q_dealerOf, by decide +kernel, by decide +kernel, by decide +kernel, sw_Q_dealerOf⟩
theorem wv_Q_137 : WV "FairWallsLaw" 137 m_M_dealerOf 2 := ⟨⟨gtb 1282 (by decide +kernel) (by decide +kernel), iw_M_dealerOf, cw_M_dealerOf, rfl, by decide +kernel, by decide +kernel⟩, nw_M_dealerOf, vw_M_dealerOf⟩
theorem wh_Q_138 : WH "FairWallsLaw" 138 m_Q_plugOf 4 := ⟨gtb 774 (by decide +kernel) (by decide +kernel), iw_Q, cw_Q_plugOf, by decide +kernel, by decide +kernel, by decide +kernel, sw_Q_plugOf⟩
theorem wv_Q_140 : WV "FairWallsLaw" 140 m_M_plugOf 2 := ⟨⟨gtb 1287 (by decide +kernel) (by decide +kernel), iw_M_plugOf, cw_M_plugOf, rfl, by decide +kernel, by decide +kernel⟩, nw_M_plugOf, vw_M_plugOf⟩
theorem wh_Q_141 : WH "FairWallsLaw" 141 m_Q_setting 3 := ⟨gtb 786 (by decide +kernel) (by decide +kernel), iw_Q, cw_Q_setting, by decide +kernel, by decide +kernel, by decide +kernel, sw_Q_setting⟩
theorem wv_Q_143 : WV "FairWallsLaw" 143 m_M_setting 1 := ⟨⟨gtb 1291 (by decide +kernel) (by decide +kernel), iw_M_setting, cw_M_setting, rfl, by decide +kernel, by decide +kernel⟩, nw_M_setting, vw_M_setting⟩
theorem wh_Q_144 : WH "FairWallsLaw" 144 m_Q_free 4 := ⟨gtb 793 (by decide +kernel) (by decide +kernel), iw_Q, cw_Q_free, by decide +kernel, by decide +kernel, by decide +kernel, sw_Q_free⟩
theorem wv_Q_146 : WV "FairWallsLaw" 146 m_M_free 2 := ⟨⟨gtb 1295 (by decide +kernel) (by decide +kernel), iw_M_free, cw_M_free, rfl, by decide +kernel, by decide +kernel⟩, nw_M_free, vw_M_free⟩
theorem wh_Q_147 : WH "FairWallsLaw" 147 m_Q_wall 3 := ⟨gtb 805 (by decide +kernel) (by decide +kernel), iw_Q, cw_Q_wall, by decide +kernel, by decide +kernel, by decide +kernel, sw_Q_wall⟩
theorem wv_Q_149 : WV "FairWallsLaw" 149 m_M_wall 1 := ⟨⟨gtb 1302 (by decide +kernel) (by decide +kernel), iw_M_wall, cw_M_wall, rfl, by decide +kernel, by decide +kernel⟩, nw_M_wall, vw_M_wall⟩
theorem wh_Q_150 : WH "FairWallsLaw" 150 m_Q_outlet 5 := ⟨gtb 826 (by decide +kernel) (by decide +kernel), iw_Q, cw_Q_outlet, by decide +kernel, by decide +kernel, by decide +kernel, sw_Q_outlet⟩
theorem wv_Q_152 : WV "FairWallsLaw" 152 m_M_outlet 3 := ⟨⟨gtb 1315 (by decide +kernel) (by decide +kernel), iw_M_outlet, cw_M_outlet, rfl, by decide +kernel, by decide +kernel⟩, nw_M_outlet, vw_M_outlet⟩
theorem wh_Q_153 : WH "FairWallsLaw" 153 m_Q_dealer 5 := ⟨gtb 834 (by decide +kernel) (by decide +kernel), iw_Q, cw_Q_dealer, by decide +kernel, by decide +kernel, by decide +kernel, sw_Q_dealer⟩
theorem wv_Q_155 : WV "FairWallsLaw" 155 m_M_dealer 3 := ⟨⟨gtb 1319 (by decide +kernel) (by decide +kernel), iw_M_dealer, cw_M_dealer, rfl, by decide +kernel, by decide +kernel⟩, nw_M_dealer, vw_M_dealer⟩
theorem wh_Q_156 : WH "FairWallsLaw" 156 m_Q_place 5 := ⟨gtb 843 (by decide +kernel) (by decide +kernel), iw_Q, cw_Q_place, by decide +kernel, by decide +kernel, by decide +kernel, sw_Q_place⟩
theorem wv_Q_158 : WV "FairWallsLaw" 158 m_M_place 3 := ⟨⟨gtb 1327 (by decide +kernel) (by decide +kernel), iw_M_place, cw_M_place, rfl, by decide +kernel, by decide +kernel⟩, nw_M_place, vw_M_place⟩
theorem wh_Q_159 : WH "FairWallsLaw" 159 m_Q_leave 3 := ⟨gtb 855 (by decide +kernel) (by decide +kernel), iw_Q, cw_Q_leave, by decide +kernel, by decide +kernel, by decide +kernel, sw_Q_leave⟩
theorem wv_Q_161 : WV "FairWallsLaw" 161 m_M_leave 1 := ⟨⟨gtb 1331 (by decide +kernel) (by decide +kernel), iw_M_leave, cw_M_leave, rfl, by decide +kernel, by decide +kernel⟩, nw_M_leave, vw_M_leave⟩
theorem wh_Q_162 : WH "FairWallsLaw" 162 m_Q_swap 4 := ⟨gtb 864 (by decide +kernel) (by decide +kernel), iw_Q, cw_Q_swap, by decide +kernel, by decide +kernel, by decide +kernel, sw_Q_swap⟩
theorem wv_Q_164 : WV "FairWallsLaw" 164 m_M_swap 2 := ⟨⟨gtb 1335 (by decide +kernel) (by decide +kernel), iw_M_swap, cw_M_swap, rfl, by decide +kernel, by decide +kernel⟩, nw_M_swap, vw_M_swap⟩
theorem wh_Q_165 : WH "FairWallsLaw" 165 m_Q_days 3 := ⟨gtb 872 (by decide +kernel) (by decide +kernel), iw_Q, cw_Q_days, by decide +kernel, by decide +kernel, by decide +kernel, sw_Q_days⟩
theorem wv_Q_167 : WV "FairWallsLaw" 167 m_M_days 1 := ⟨⟨gtb 1342 (by decide +kernel) (by decide +kernel), iw_M_days, cw_M_days, rfl, by decide +kernel, by decide +kernel⟩, nw_M_days, vw_M_days⟩
theorem wh_Q_168 : WH "FairWallsLaw" 168 m_Q_set 4 := ⟨gtb 880 (by decide +kernel) (by decide +kernel), iw_Q, cw_Q_set, by decide +kernel, by decide +kernel, by decide +kernel, sw_Q_set⟩
theorem wv_Q_170 : WV "FairWallsLaw" 170 m_M_set 2 := ⟨⟨gtb 1347 (by decide +kernel) (by decide +kernel), iw_M_set, cw_M_set, rfl, by decide +kernel, by decide +kernel⟩, nw_M_set, vw_M_set⟩
theorem wh_Q_171 : WH "FairWallsLaw" 171 m_Q_undo 2 := ⟨gtb 889 (by decide +kernel) (by decide +kernel), iw_Q, cw_Q_undo, by decide +kernel, by decide +kernel, by decide +kernel, sw_Q_undo⟩
theorem wv_Q_173 : WV "FairWallsLaw" 173 m_M_undo 0 := ⟨⟨gtb 1351 (by decide +kernel) (by decide +kernel), iw_M_undo, cw_M_undo, rfl, by decide +kernel, by decide +kernel⟩, nw_M_undo, vw_M_undo⟩
theorem wh_Q_174 : WH "FairWallsLaw" 174 m_Q_rentIf 5 := ⟨gtb 910 (by decide +kernel) (by decide +kernel), iw_Q, cw_Q_rentIf, by decide +kernel, by decide +kernel, by decide +kernel, sw_Q_rentIf⟩
theorem wv_Q_176 : WV "FairWallsLaw" 176 m_M_rentIf 3 := ⟨⟨gtb 1355 (by decide +kernel) (by decide +kernel), iw_M_rentIf, cw_M_rentIf, rfl, by decide +kernel, by decide +kernel⟩, nw_M_rentIf, vw_M_rentIf⟩
theorem wh_Q_177 : WH "FairWallsLaw" 177 m_Q_cheapest 4 := ⟨gtb 923 (by decide +kernel) (by decide +kernel), iw_Q, cw_Q_cheapest, by decide +kernel, by decide +kernel, by decide +kernel, sw_Q_cheapest⟩
theorem wv_Q_179 : WV "FairWallsLaw" 179 m_M_cheapest 2 := ⟨⟨gtb 1363 (by decide +kernel) (by decide +kernel), iw_M_cheapest, cw_M_cheapest, rfl, by decide +kernel, by decide +kernel⟩, nw_M_cheapest, vw_M_cheapest⟩
theorem wh_Q_180 : WH "FairWallsLaw" 180 m_Q_bestSwap 3 := ⟨gtb 930 (by decide +kernel) (by decide +kernel), iw_Q, cw_Q_bestSwap, by decide +kernel, by decide +kernel, by decide +kernel, sw_Q_bestSwap⟩
theorem wv_Q_182 : WV "FairWallsLaw" 182 m_M_bestSwap 1 := ⟨⟨gtb 1367 (by decide +kernel) (by decide +kernel), iw_M_bestSwap, cw_M_bestSwap, rfl, by decide +kernel, by decide +kernel⟩, nw_M_bestSwap, vw_M_bestSwap⟩
theorem wh_Q_183 : WH "FairWallsLaw" 183 m_Q_why 4 := ⟨gtb 942 (by decide +kernel) (by decide +kernel), iw_Q, cw_Q_why, by decide +kernel, by decide +kernel, by decide +kernel, sw_Q_why⟩
theorem wv_Q_185 : WV "FairWallsLaw" 185 m_M_why 2 := ⟨⟨gtb 1371 (by decide +kernel) (by decide +kernel), iw_M_why, cw_M_why, rfl, by decide +kernel, by decide +kernel⟩, nw_M_why, vw_M_why⟩
theorem wh_Q_188 : WH "FairWallsLaw" 188 m_Q_runScript 4 := ⟨gtb 949 (by decide +kernel) (by decide +kernel), iw_Q, cw_Q_runScript, by decide +kernel, by decide +kernel, by decide +kernel, sw_Q_runScript⟩
theorem wv_Q_191 : WV "FairWallsLaw" 191 m_M_runScript 2 := ⟨⟨gtb 1375 (by decide +kernel) (by decide +kernel), iw_M_runScript, cw_M_runScript, rfl, by decide +kernel, by decide +kernel⟩, nw_M_runScript, vw_M_runScript⟩
theorem wh_Q_192 : WH "FairWallsLaw" 192 m_Q_simulate 4 := ⟨gtb 969 (by decide +kernel) (by decide +kernel), iw_Q, cw_Q_simulate, by decide +kernel, by decide +kernel, by decide +kernel, sw_Q_simulate⟩
theorem wv_Q_195 : WV "FairWallsLaw" 195 m_M_simulate 2 := ⟨⟨gtb 1420 (by decide +kernel) (by decide +kernel), iw_M_simulate, cw_M_simulate, rfl, by decide +kernel, by decide +kernel⟩, nw_M_simulate, vw_M_simulate⟩
theorem wh_Q_196 : WH "FairWallsLaw" 196 m_Q_save 3 := ⟨gtb 981 (by decide +kernel) (by decide +kernel), iw_Q, cw_Q_save, by decide +kernel, by decide +kernel, by decide +kernel, sw_Q_save⟩
theorem wv_Q_198 : WV "FairWallsLaw" 198 m_M_save 1 := ⟨⟨gtb 1430 (by decide +kernel) (by decide +kernel), iw_M_save, cw_M_save, rfl, by decide +kernel, by decide +kernel⟩, nw_M_save, vw_M_save⟩
theorem wh_Q_199 : WH "FairWallsLaw" 199 m_Q_restore 3 := ⟨gtb 994 (by decide +kernel) (by decide +kernel), iw_Q, cw_Q_restore, by decide +kernel, by decide +kernel, by decide +kernel, sw_Q_restore⟩
theorem wv_Q_201 : WV "FairWallsLaw" 201 m_M_restore 1 := ⟨⟨gtb 1434 (by decide +kernel) (by decide +kernel), iw_M_restore, cw_M_restore, rfl, by decide +kernel, by decide +kernel⟩, nw_M_restore, vw_M_restore⟩
def f_Q_law_1926 (L : Nat) (xs : Nat → Int32) (k23_ : Nat → Nat → Nat → Int32 → HP → Option (Unit)) (a1 : Nat) (a2 : Nat) (a3 : Nat) (x4 : Int32) (h : HP) : Option (Unit) :=
  k23_ a1 a2 a3 (x4 + (4 : Int32)) h
set_option maxHeartbeats 40000000 in
theorem x_Q_law_1926 {l : Launch} {D : va_G} {ad : Nat → Nat} {aC : Nat → ClassId} (hf : l.flags = flags0) (hI : Inj ad) {L : Nat} {xs : Nat → Int32} {k9 n9 : Nat} (hk9 : k9 + 4 ≤ 601024) (hn9 : n9 + 24 ≤ 7293034) {k23_ : Nat → Nat → Nat → Int32 → HP → Option (Unit)} (K23_ : ∀ {a1 : Nat} {a2 : Nat} {a3 : Nat} {x4 : Int32} {h : HP} {r : Unit}, knd a1 = 7 → knd a2 = 8 → knd a3 = 13 → alen a3 = 1 → k23_ a1 a2 a3 x4 h = some r → Go l D ad aC room_1 (QL ad L xs) m_Q_law 23 [some (.ref 217), some (.ref a1), some (.ref a2), some (.ref a3), some (.int x4), none, none] [] h (k9 + 4) (n9 + 24)) {a1 : Nat} {a2 : Nat} {a3 : Nat} {x4 : Int32} {h : HP} {r : Unit} (k1 : knd a1 = 7) (k2 : knd a2 = 8) (k3 : knd a3 = 13) (q3 : alen a3 = 1) (e : f_Q_law_1926 L xs k23_ a1 a2 a3 x4 h = some r) : Go l D ad aC room_1 (QL ad L xs) m_Q_law 1926 [some (.ref 217), some (.ref a1), some (.ref a2), some (.ref a3), some (.int x4), none, none] [] h (k9 + 4) (n9 + 24) := by
  unfold f_Q_law_1926 at e
  refine Go.run (pc' := 1929) [.iinc 4 (4)] (ls' := [some (.ref 217), some (.ref a1), some (.ref a2), some (.ref a3), some (.int (x4 + (4 : Int32))), none, none]) (st' := []) (by decide +kernel) rfl rfl ?_
  refine Go.goto (off := -1906) (tgt := 23) (by decide +kernel) (by decide) ?_
  exact K23_ k1 k2 k3 q3 e
def f_Q_law_217 (L : Nat) (xs : Nat → Int32) (k23_ : Nat → Nat → Nat → Int32 → HP → Option (Unit)) (a1 : Nat) (a2 : Nat) (a3 : Nat) (x4 : Int32) (h : HP) : Option (Unit) :=
  f_Q_law_1926 L xs k23_ a1 a2 a3 x4 h
set_option maxHeartbeats 40000000 in
theorem x_Q_law_217 {l : Launch} {D : va_G} {ad : Nat → Nat} {aC : Nat → ClassId} (hf : l.flags = flags0) (hI : Inj ad) {L : Nat} {xs : Nat → Int32} {k9 n9 : Nat} (hk9 : k9 + 4 ≤ 601024) (hn9 : n9 + 24 ≤ 7293034) {k23_ : Nat → Nat → Nat → Int32 → HP → Option (Unit)} (K23_ : ∀ {a1 : Nat} {a2 : Nat} {a3 : Nat} {x4 : Int32} {h : HP} {r : Unit}, knd a1 = 7 → knd a2 = 8 → knd a3 = 13 → alen a3 = 1 → k23_ a1 a2 a3 x4 h = some r → Go l D ad aC room_1 (QL ad L xs) m_Q_law 23 [some (.ref 217), some (.ref a1), some (.ref a2), some (.ref a3), some (.int x4), none, none] [] h (k9 + 4) (n9 + 24)) {a1 : Nat} {a2 : Nat} {a3 : Nat} {x4 : Int32} {h : HP} {r : Unit} (k1 : knd a1 = 7) (k2 : knd a2 = 8) (k3 : knd a3 = 13) (q3 : alen a3 = 1) (e : f_Q_law_217 L xs k23_ a1 a2 a3 x4 h = some r) : Go l D ad aC room_1 (QL ad L xs) m_Q_law 217 [some (.ref 217), some (.ref a1), some (.ref a2), some (.ref a3), some (.int x4), none, none] [] h (k9 + 4) (n9 + 24) := by
  unfold f_Q_law_217 at e
  refine Go.goto (off := 1709) (tgt := 1926) (by decide +kernel) (by decide) ?_
  exact x_Q_law_1926 hf hI (by omega) (by omega) K23_ k1 k2 k3 q3 e
def f_Q_law_287 (L : Nat) (xs : Nat → Int32) (k23_ : Nat → Nat → Nat → Int32 → HP → Option (Unit)) (a1 : Nat) (a2 : Nat) (a3 : Nat) (x4 : Int32) (h : HP) : Option (Unit) :=
  f_Q_law_1926 L xs k23_ a1 a2 a3 x4 h
set_option maxHeartbeats 40000000 in
theorem x_Q_law_287 {l : Launch} {D : va_G} {ad : Nat → Nat} {aC : Nat → ClassId} (hf : l.flags = flags0) (hI : Inj ad) {L : Nat} {xs : Nat → Int32} {k9 n9 : Nat} (hk9 : k9 + 4 ≤ 601024) (hn9 : n9 + 24 ≤ 7293034) {k23_ : Nat → Nat → Nat → Int32 → HP → Option (Unit)} (K23_ : ∀ {a1 : Nat} {a2 : Nat} {a3 : Nat} {x4 : Int32} {h : HP} {r : Unit}, knd a1 = 7 → knd a2 = 8 → knd a3 = 13 → alen a3 = 1 → k23_ a1 a2 a3 x4 h = some r → Go l D ad aC room_1 (QL ad L xs) m_Q_law 23 [some (.ref 217), some (.ref a1), some (.ref a2), some (.ref a3), some (.int x4), none, none] [] h (k9 + 4) (n9 + 24)) {a1 : Nat} {a2 : Nat} {a3 : Nat} {x4 : Int32} {h : HP} {r : Unit} (k1 : knd a1 = 7) (k2 : knd a2 = 8) (k3 : knd a3 = 13) (q3 : alen a3 = 1) (e : f_Q_law_287 L xs k23_ a1 a2 a3 x4 h = some r) : Go l D ad aC room_1 (QL ad L xs) m_Q_law 287 [some (.ref 217), some (.ref a1), some (.ref a2), some (.ref a3), some (.int x4), none, none] [] h (k9 + 4) (n9 + 24) := by
  unfold f_Q_law_287 at e
  refine Go.goto (off := 1639) (tgt := 1926) (by decide +kernel) (by decide) ?_
  exact x_Q_law_1926 hf hI (by omega) (by omega) K23_ k1 k2 k3 q3 e
def f_Q_law_343 (L : Nat) (xs : Nat → Int32) (k23_ : Nat → Nat → Nat → Int32 → HP → Option (Unit)) (a1 : Nat) (a2 : Nat) (a3 : Nat) (x4 : Int32) (h : HP) : Option (Unit) :=
  f_Q_law_1926 L xs k23_ a1 a2 a3 x4 h
set_option maxHeartbeats 40000000 in
theorem x_Q_law_343 {l : Launch} {D : va_G} {ad : Nat → Nat} {aC : Nat → ClassId} (hf : l.flags = flags0) (hI : Inj ad) {L : Nat} {xs : Nat → Int32} {k9 n9 : Nat} (hk9 : k9 + 4 ≤ 601024) (hn9 : n9 + 24 ≤ 7293034) {k23_ : Nat → Nat → Nat → Int32 → HP → Option (Unit)} (K23_ : ∀ {a1 : Nat} {a2 : Nat} {a3 : Nat} {x4 : Int32} {h : HP} {r : Unit}, knd a1 = 7 → knd a2 = 8 → knd a3 = 13 → alen a3 = 1 → k23_ a1 a2 a3 x4 h = some r → Go l D ad aC room_1 (QL ad L xs) m_Q_law 23 [some (.ref 217), some (.ref a1), some (.ref a2), some (.ref a3), some (.int x4), none, none] [] h (k9 + 4) (n9 + 24)) {a1 : Nat} {a2 : Nat} {a3 : Nat} {x4 : Int32} {h : HP} {r : Unit} (k1 : knd a1 = 7) (k2 : knd a2 = 8) (k3 : knd a3 = 13) (q3 : alen a3 = 1) (e : f_Q_law_343 L xs k23_ a1 a2 a3 x4 h = some r) : Go l D ad aC room_1 (QL ad L xs) m_Q_law 343 [some (.ref 217), some (.ref a1), some (.ref a2), some (.ref a3), some (.int x4), none, none] [] h (k9 + 4) (n9 + 24) := by
  unfold f_Q_law_343 at e
  refine Go.goto (off := 1583) (tgt := 1926) (by decide +kernel) (by decide) ?_
  exact x_Q_law_1926 hf hI (by omega) (by omega) K23_ k1 k2 k3 q3 e
def f_Q_law_411 (L : Nat) (xs : Nat → Int32) (k23_ : Nat → Nat → Nat → Int32 → HP → Option (Unit)) (a1 : Nat) (a2 : Nat) (a3 : Nat) (x4 : Int32) (h : HP) : Option (Unit) :=
  f_Q_law_1926 L xs k23_ a1 a2 a3 x4 h
set_option maxHeartbeats 40000000 in
theorem x_Q_law_411 {l : Launch} {D : va_G} {ad : Nat → Nat} {aC : Nat → ClassId} (hf : l.flags = flags0) (hI : Inj ad) {L : Nat} {xs : Nat → Int32} {k9 n9 : Nat} (hk9 : k9 + 4 ≤ 601024) (hn9 : n9 + 24 ≤ 7293034) {k23_ : Nat → Nat → Nat → Int32 → HP → Option (Unit)} (K23_ : ∀ {a1 : Nat} {a2 : Nat} {a3 : Nat} {x4 : Int32} {h : HP} {r : Unit}, knd a1 = 7 → knd a2 = 8 → knd a3 = 13 → alen a3 = 1 → k23_ a1 a2 a3 x4 h = some r → Go l D ad aC room_1 (QL ad L xs) m_Q_law 23 [some (.ref 217), some (.ref a1), some (.ref a2), some (.ref a3), some (.int x4), none, none] [] h (k9 + 4) (n9 + 24)) {a1 : Nat} {a2 : Nat} {a3 : Nat} {x4 : Int32} {h : HP} {r : Unit} (k1 : knd a1 = 7) (k2 : knd a2 = 8) (k3 : knd a3 = 13) (q3 : alen a3 = 1) (e : f_Q_law_411 L xs k23_ a1 a2 a3 x4 h = some r) : Go l D ad aC room_1 (QL ad L xs) m_Q_law 411 [some (.ref 217), some (.ref a1), some (.ref a2), some (.ref a3), some (.int x4), none, none] [] h (k9 + 4) (n9 + 24) := by
  unfold f_Q_law_411 at e
  refine Go.goto (off := 1515) (tgt := 1926) (by decide +kernel) (by decide) ?_
  exact x_Q_law_1926 hf hI (by omega) (by omega) K23_ k1 k2 k3 q3 e
def f_Q_law_491 (L : Nat) (xs : Nat → Int32) (k23_ : Nat → Nat → Nat → Int32 → HP → Option (Unit)) (a1 : Nat) (a2 : Nat) (a3 : Nat) (x4 : Int32) (h : HP) : Option (Unit) :=
  f_Q_law_1926 L xs k23_ a1 a2 a3 x4 h
set_option maxHeartbeats 40000000 in
theorem x_Q_law_491 {l : Launch} {D : va_G} {ad : Nat → Nat} {aC : Nat → ClassId} (hf : l.flags = flags0) (hI : Inj ad) {L : Nat} {xs : Nat → Int32} {k9 n9 : Nat} (hk9 : k9 + 4 ≤ 601024) (hn9 : n9 + 24 ≤ 7293034) {k23_ : Nat → Nat → Nat → Int32 → HP → Option (Unit)} (K23_ : ∀ {a1 : Nat} {a2 : Nat} {a3 : Nat} {x4 : Int32} {h : HP} {r : Unit}, knd a1 = 7 → knd a2 = 8 → knd a3 = 13 → alen a3 = 1 → k23_ a1 a2 a3 x4 h = some r → Go l D ad aC room_1 (QL ad L xs) m_Q_law 23 [some (.ref 217), some (.ref a1), some (.ref a2), some (.ref a3), some (.int x4), none, none] [] h (k9 + 4) (n9 + 24)) {a1 : Nat} {a2 : Nat} {a3 : Nat} {x4 : Int32} {h : HP} {r : Unit} (k1 : knd a1 = 7) (k2 : knd a2 = 8) (k3 : knd a3 = 13) (q3 : alen a3 = 1) (e : f_Q_law_491 L xs k23_ a1 a2 a3 x4 h = some r) : Go l D ad aC room_1 (QL ad L xs) m_Q_law 491 [some (.ref 217), some (.ref a1), some (.ref a2), some (.ref a3), some (.int x4), none, none] [] h (k9 + 4) (n9 + 24) := by
  unfold f_Q_law_491 at e
  refine Go.goto (off := 1435) (tgt := 1926) (by decide +kernel) (by decide) ?_
  exact x_Q_law_1926 hf hI (by omega) (by omega) K23_ k1 k2 k3 q3 e
def f_Q_law_559 (L : Nat) (xs : Nat → Int32) (k23_ : Nat → Nat → Nat → Int32 → HP → Option (Unit)) (a1 : Nat) (a2 : Nat) (a3 : Nat) (x4 : Int32) (h : HP) : Option (Unit) :=
  f_Q_law_1926 L xs k23_ a1 a2 a3 x4 h
set_option maxHeartbeats 40000000 in
theorem x_Q_law_559 {l : Launch} {D : va_G} {ad : Nat → Nat} {aC : Nat → ClassId} (hf : l.flags = flags0) (hI : Inj ad) {L : Nat} {xs : Nat → Int32} {k9 n9 : Nat} (hk9 : k9 + 4 ≤ 601024) (hn9 : n9 + 24 ≤ 7293034) {k23_ : Nat → Nat → Nat → Int32 → HP → Option (Unit)} (K23_ : ∀ {a1 : Nat} {a2 : Nat} {a3 : Nat} {x4 : Int32} {h : HP} {r : Unit}, knd a1 = 7 → knd a2 = 8 → knd a3 = 13 → alen a3 = 1 → k23_ a1 a2 a3 x4 h = some r → Go l D ad aC room_1 (QL ad L xs) m_Q_law 23 [some (.ref 217), some (.ref a1), some (.ref a2), some (.ref a3), some (.int x4), none, none] [] h (k9 + 4) (n9 + 24)) {a1 : Nat} {a2 : Nat} {a3 : Nat} {x4 : Int32} {h : HP} {r : Unit} (k1 : knd a1 = 7) (k2 : knd a2 = 8) (k3 : knd a3 = 13) (q3 : alen a3 = 1) (e : f_Q_law_559 L xs k23_ a1 a2 a3 x4 h = some r) : Go l D ad aC room_1 (QL ad L xs) m_Q_law 559 [some (.ref 217), some (.ref a1), some (.ref a2), some (.ref a3), some (.int x4), none, none] [] h (k9 + 4) (n9 + 24) := by
  unfold f_Q_law_559 at e
  refine Go.goto (off := 1367) (tgt := 1926) (by decide +kernel) (by decide) ?_
  exact x_Q_law_1926 hf hI (by omega) (by omega) K23_ k1 k2 k3 q3 e
def f_Q_law_627 (L : Nat) (xs : Nat → Int32) (k23_ : Nat → Nat → Nat → Int32 → HP → Option (Unit)) (a1 : Nat) (a2 : Nat) (a3 : Nat) (x4 : Int32) (h : HP) : Option (Unit) :=
  f_Q_law_1926 L xs k23_ a1 a2 a3 x4 h
set_option maxHeartbeats 40000000 in
theorem x_Q_law_627 {l : Launch} {D : va_G} {ad : Nat → Nat} {aC : Nat → ClassId} (hf : l.flags = flags0) (hI : Inj ad) {L : Nat} {xs : Nat → Int32} {k9 n9 : Nat} (hk9 : k9 + 4 ≤ 601024) (hn9 : n9 + 24 ≤ 7293034) {k23_ : Nat → Nat → Nat → Int32 → HP → Option (Unit)} (K23_ : ∀ {a1 : Nat} {a2 : Nat} {a3 : Nat} {x4 : Int32} {h : HP} {r : Unit}, knd a1 = 7 → knd a2 = 8 → knd a3 = 13 → alen a3 = 1 → k23_ a1 a2 a3 x4 h = some r → Go l D ad aC room_1 (QL ad L xs) m_Q_law 23 [some (.ref 217), some (.ref a1), some (.ref a2), some (.ref a3), some (.int x4), none, none] [] h (k9 + 4) (n9 + 24)) {a1 : Nat} {a2 : Nat} {a3 : Nat} {x4 : Int32} {h : HP} {r : Unit} (k1 : knd a1 = 7) (k2 : knd a2 = 8) (k3 : knd a3 = 13) (q3 : alen a3 = 1) (e : f_Q_law_627 L xs k23_ a1 a2 a3 x4 h = some r) : Go l D ad aC room_1 (QL ad L xs) m_Q_law 627 [some (.ref 217), some (.ref a1), some (.ref a2), some (.ref a3), some (.int x4), none, none] [] h (k9 + 4) (n9 + 24) := by
  unfold f_Q_law_627 at e
  refine Go.goto (off := 1299) (tgt := 1926) (by decide +kernel) (by decide) ?_
  exact x_Q_law_1926 hf hI (by omega) (by omega) K23_ k1 k2 k3 q3 e
def f_Q_law_683 (L : Nat) (xs : Nat → Int32) (k23_ : Nat → Nat → Nat → Int32 → HP → Option (Unit)) (a1 : Nat) (a2 : Nat) (a3 : Nat) (x4 : Int32) (h : HP) : Option (Unit) :=
  f_Q_law_1926 L xs k23_ a1 a2 a3 x4 h
set_option maxHeartbeats 40000000 in
theorem x_Q_law_683 {l : Launch} {D : va_G} {ad : Nat → Nat} {aC : Nat → ClassId} (hf : l.flags = flags0) (hI : Inj ad) {L : Nat} {xs : Nat → Int32} {k9 n9 : Nat} (hk9 : k9 + 4 ≤ 601024) (hn9 : n9 + 24 ≤ 7293034) {k23_ : Nat → Nat → Nat → Int32 → HP → Option (Unit)} (K23_ : ∀ {a1 : Nat} {a2 : Nat} {a3 : Nat} {x4 : Int32} {h : HP} {r : Unit}, knd a1 = 7 → knd a2 = 8 → knd a3 = 13 → alen a3 = 1 → k23_ a1 a2 a3 x4 h = some r → Go l D ad aC room_1 (QL ad L xs) m_Q_law 23 [some (.ref 217), some (.ref a1), some (.ref a2), some (.ref a3), some (.int x4), none, none] [] h (k9 + 4) (n9 + 24)) {a1 : Nat} {a2 : Nat} {a3 : Nat} {x4 : Int32} {h : HP} {r : Unit} (k1 : knd a1 = 7) (k2 : knd a2 = 8) (k3 : knd a3 = 13) (q3 : alen a3 = 1) (e : f_Q_law_683 L xs k23_ a1 a2 a3 x4 h = some r) : Go l D ad aC room_1 (QL ad L xs) m_Q_law 683 [some (.ref 217), some (.ref a1), some (.ref a2), some (.ref a3), some (.int x4), none, none] [] h (k9 + 4) (n9 + 24) := by
  unfold f_Q_law_683 at e
  refine Go.goto (off := 1243) (tgt := 1926) (by decide +kernel) (by decide) ?_
  exact x_Q_law_1926 hf hI (by omega) (by omega) K23_ k1 k2 k3 q3 e
def f_Q_law_751 (L : Nat) (xs : Nat → Int32) (k23_ : Nat → Nat → Nat → Int32 → HP → Option (Unit)) (a1 : Nat) (a2 : Nat) (a3 : Nat) (x4 : Int32) (h : HP) : Option (Unit) :=
  f_Q_law_1926 L xs k23_ a1 a2 a3 x4 h
set_option maxHeartbeats 40000000 in
theorem x_Q_law_751 {l : Launch} {D : va_G} {ad : Nat → Nat} {aC : Nat → ClassId} (hf : l.flags = flags0) (hI : Inj ad) {L : Nat} {xs : Nat → Int32} {k9 n9 : Nat} (hk9 : k9 + 4 ≤ 601024) (hn9 : n9 + 24 ≤ 7293034) {k23_ : Nat → Nat → Nat → Int32 → HP → Option (Unit)} (K23_ : ∀ {a1 : Nat} {a2 : Nat} {a3 : Nat} {x4 : Int32} {h : HP} {r : Unit}, knd a1 = 7 → knd a2 = 8 → knd a3 = 13 → alen a3 = 1 → k23_ a1 a2 a3 x4 h = some r → Go l D ad aC room_1 (QL ad L xs) m_Q_law 23 [some (.ref 217), some (.ref a1), some (.ref a2), some (.ref a3), some (.int x4), none, none] [] h (k9 + 4) (n9 + 24)) {a1 : Nat} {a2 : Nat} {a3 : Nat} {x4 : Int32} {h : HP} {r : Unit} (k1 : knd a1 = 7) (k2 : knd a2 = 8) (k3 : knd a3 = 13) (q3 : alen a3 = 1) (e : f_Q_law_751 L xs k23_ a1 a2 a3 x4 h = some r) : Go l D ad aC room_1 (QL ad L xs) m_Q_law 751 [some (.ref 217), some (.ref a1), some (.ref a2), some (.ref a3), some (.int x4), none, none] [] h (k9 + 4) (n9 + 24) := by
  unfold f_Q_law_751 at e
  refine Go.goto (off := 1175) (tgt := 1926) (by decide +kernel) (by decide) ?_
  exact x_Q_law_1926 hf hI (by omega) (by omega) K23_ k1 k2 k3 q3 e
def f_Q_law_807 (L : Nat) (xs : Nat → Int32) (k23_ : Nat → Nat → Nat → Int32 → HP → Option (Unit)) (a1 : Nat) (a2 : Nat) (a3 : Nat) (x4 : Int32) (h : HP) : Option (Unit) :=
  f_Q_law_1926 L xs k23_ a1 a2 a3 x4 h
set_option maxHeartbeats 40000000 in
theorem x_Q_law_807 {l : Launch} {D : va_G} {ad : Nat → Nat} {aC : Nat → ClassId} (hf : l.flags = flags0) (hI : Inj ad) {L : Nat} {xs : Nat → Int32} {k9 n9 : Nat} (hk9 : k9 + 4 ≤ 601024) (hn9 : n9 + 24 ≤ 7293034) {k23_ : Nat → Nat → Nat → Int32 → HP → Option (Unit)} (K23_ : ∀ {a1 : Nat} {a2 : Nat} {a3 : Nat} {x4 : Int32} {h : HP} {r : Unit}, knd a1 = 7 → knd a2 = 8 → knd a3 = 13 → alen a3 = 1 → k23_ a1 a2 a3 x4 h = some r → Go l D ad aC room_1 (QL ad L xs) m_Q_law 23 [some (.ref 217), some (.ref a1), some (.ref a2), some (.ref a3), some (.int x4), none, none] [] h (k9 + 4) (n9 + 24)) {a1 : Nat} {a2 : Nat} {a3 : Nat} {x4 : Int32} {h : HP} {r : Unit} (k1 : knd a1 = 7) (k2 : knd a2 = 8) (k3 : knd a3 = 13) (q3 : alen a3 = 1) (e : f_Q_law_807 L xs k23_ a1 a2 a3 x4 h = some r) : Go l D ad aC room_1 (QL ad L xs) m_Q_law 807 [some (.ref 217), some (.ref a1), some (.ref a2), some (.ref a3), some (.int x4), none, none] [] h (k9 + 4) (n9 + 24) := by
  unfold f_Q_law_807 at e
  refine Go.goto (off := 1119) (tgt := 1926) (by decide +kernel) (by decide) ?_
  exact x_Q_law_1926 hf hI (by omega) (by omega) K23_ k1 k2 k3 q3 e
def f_Q_law_887 (L : Nat) (xs : Nat → Int32) (k23_ : Nat → Nat → Nat → Int32 → HP → Option (Unit)) (a1 : Nat) (a2 : Nat) (a3 : Nat) (x4 : Int32) (h : HP) : Option (Unit) :=
  f_Q_law_1926 L xs k23_ a1 a2 a3 x4 h
set_option maxHeartbeats 40000000 in
theorem x_Q_law_887 {l : Launch} {D : va_G} {ad : Nat → Nat} {aC : Nat → ClassId} (hf : l.flags = flags0) (hI : Inj ad) {L : Nat} {xs : Nat → Int32} {k9 n9 : Nat} (hk9 : k9 + 4 ≤ 601024) (hn9 : n9 + 24 ≤ 7293034) {k23_ : Nat → Nat → Nat → Int32 → HP → Option (Unit)} (K23_ : ∀ {a1 : Nat} {a2 : Nat} {a3 : Nat} {x4 : Int32} {h : HP} {r : Unit}, knd a1 = 7 → knd a2 = 8 → knd a3 = 13 → alen a3 = 1 → k23_ a1 a2 a3 x4 h = some r → Go l D ad aC room_1 (QL ad L xs) m_Q_law 23 [some (.ref 217), some (.ref a1), some (.ref a2), some (.ref a3), some (.int x4), none, none] [] h (k9 + 4) (n9 + 24)) {a1 : Nat} {a2 : Nat} {a3 : Nat} {x4 : Int32} {h : HP} {r : Unit} (k1 : knd a1 = 7) (k2 : knd a2 = 8) (k3 : knd a3 = 13) (q3 : alen a3 = 1) (e : f_Q_law_887 L xs k23_ a1 a2 a3 x4 h = some r) : Go l D ad aC room_1 (QL ad L xs) m_Q_law 887 [some (.ref 217), some (.ref a1), some (.ref a2), some (.ref a3), some (.int x4), none, none] [] h (k9 + 4) (n9 + 24) := by
  unfold f_Q_law_887 at e
  refine Go.goto (off := 1039) (tgt := 1926) (by decide +kernel) (by decide) ?_
  exact x_Q_law_1926 hf hI (by omega) (by omega) K23_ k1 k2 k3 q3 e
def f_Q_law_967 (L : Nat) (xs : Nat → Int32) (k23_ : Nat → Nat → Nat → Int32 → HP → Option (Unit)) (a1 : Nat) (a2 : Nat) (a3 : Nat) (x4 : Int32) (h : HP) : Option (Unit) :=
  f_Q_law_1926 L xs k23_ a1 a2 a3 x4 h
set_option maxHeartbeats 40000000 in
theorem x_Q_law_967 {l : Launch} {D : va_G} {ad : Nat → Nat} {aC : Nat → ClassId} (hf : l.flags = flags0) (hI : Inj ad) {L : Nat} {xs : Nat → Int32} {k9 n9 : Nat} (hk9 : k9 + 4 ≤ 601024) (hn9 : n9 + 24 ≤ 7293034) {k23_ : Nat → Nat → Nat → Int32 → HP → Option (Unit)} (K23_ : ∀ {a1 : Nat} {a2 : Nat} {a3 : Nat} {x4 : Int32} {h : HP} {r : Unit}, knd a1 = 7 → knd a2 = 8 → knd a3 = 13 → alen a3 = 1 → k23_ a1 a2 a3 x4 h = some r → Go l D ad aC room_1 (QL ad L xs) m_Q_law 23 [some (.ref 217), some (.ref a1), some (.ref a2), some (.ref a3), some (.int x4), none, none] [] h (k9 + 4) (n9 + 24)) {a1 : Nat} {a2 : Nat} {a3 : Nat} {x4 : Int32} {h : HP} {r : Unit} (k1 : knd a1 = 7) (k2 : knd a2 = 8) (k3 : knd a3 = 13) (q3 : alen a3 = 1) (e : f_Q_law_967 L xs k23_ a1 a2 a3 x4 h = some r) : Go l D ad aC room_1 (QL ad L xs) m_Q_law 967 [some (.ref 217), some (.ref a1), some (.ref a2), some (.ref a3), some (.int x4), none, none] [] h (k9 + 4) (n9 + 24) := by
  unfold f_Q_law_967 at e
  refine Go.goto (off := 959) (tgt := 1926) (by decide +kernel) (by decide) ?_
  exact x_Q_law_1926 hf hI (by omega) (by omega) K23_ k1 k2 k3 q3 e
def f_Q_law_1047 (L : Nat) (xs : Nat → Int32) (k23_ : Nat → Nat → Nat → Int32 → HP → Option (Unit)) (a1 : Nat) (a2 : Nat) (a3 : Nat) (x4 : Int32) (h : HP) : Option (Unit) :=
  f_Q_law_1926 L xs k23_ a1 a2 a3 x4 h
set_option maxHeartbeats 40000000 in
theorem x_Q_law_1047 {l : Launch} {D : va_G} {ad : Nat → Nat} {aC : Nat → ClassId} (hf : l.flags = flags0) (hI : Inj ad) {L : Nat} {xs : Nat → Int32} {k9 n9 : Nat} (hk9 : k9 + 4 ≤ 601024) (hn9 : n9 + 24 ≤ 7293034) {k23_ : Nat → Nat → Nat → Int32 → HP → Option (Unit)} (K23_ : ∀ {a1 : Nat} {a2 : Nat} {a3 : Nat} {x4 : Int32} {h : HP} {r : Unit}, knd a1 = 7 → knd a2 = 8 → knd a3 = 13 → alen a3 = 1 → k23_ a1 a2 a3 x4 h = some r → Go l D ad aC room_1 (QL ad L xs) m_Q_law 23 [some (.ref 217), some (.ref a1), some (.ref a2), some (.ref a3), some (.int x4), none, none] [] h (k9 + 4) (n9 + 24)) {a1 : Nat} {a2 : Nat} {a3 : Nat} {x4 : Int32} {h : HP} {r : Unit} (k1 : knd a1 = 7) (k2 : knd a2 = 8) (k3 : knd a3 = 13) (q3 : alen a3 = 1) (e : f_Q_law_1047 L xs k23_ a1 a2 a3 x4 h = some r) : Go l D ad aC room_1 (QL ad L xs) m_Q_law 1047 [some (.ref 217), some (.ref a1), some (.ref a2), some (.ref a3), some (.int x4), none, none] [] h (k9 + 4) (n9 + 24) := by
  unfold f_Q_law_1047 at e
  refine Go.goto (off := 879) (tgt := 1926) (by decide +kernel) (by decide) ?_
  exact x_Q_law_1926 hf hI (by omega) (by omega) K23_ k1 k2 k3 q3 e
def f_Q_law_1103 (L : Nat) (xs : Nat → Int32) (k23_ : Nat → Nat → Nat → Int32 → HP → Option (Unit)) (a1 : Nat) (a2 : Nat) (a3 : Nat) (x4 : Int32) (h : HP) : Option (Unit) :=
  f_Q_law_1926 L xs k23_ a1 a2 a3 x4 h
set_option maxHeartbeats 40000000 in
theorem x_Q_law_1103 {l : Launch} {D : va_G} {ad : Nat → Nat} {aC : Nat → ClassId} (hf : l.flags = flags0) (hI : Inj ad) {L : Nat} {xs : Nat → Int32} {k9 n9 : Nat} (hk9 : k9 + 4 ≤ 601024) (hn9 : n9 + 24 ≤ 7293034) {k23_ : Nat → Nat → Nat → Int32 → HP → Option (Unit)} (K23_ : ∀ {a1 : Nat} {a2 : Nat} {a3 : Nat} {x4 : Int32} {h : HP} {r : Unit}, knd a1 = 7 → knd a2 = 8 → knd a3 = 13 → alen a3 = 1 → k23_ a1 a2 a3 x4 h = some r → Go l D ad aC room_1 (QL ad L xs) m_Q_law 23 [some (.ref 217), some (.ref a1), some (.ref a2), some (.ref a3), some (.int x4), none, none] [] h (k9 + 4) (n9 + 24)) {a1 : Nat} {a2 : Nat} {a3 : Nat} {x4 : Int32} {h : HP} {r : Unit} (k1 : knd a1 = 7) (k2 : knd a2 = 8) (k3 : knd a3 = 13) (q3 : alen a3 = 1) (e : f_Q_law_1103 L xs k23_ a1 a2 a3 x4 h = some r) : Go l D ad aC room_1 (QL ad L xs) m_Q_law 1103 [some (.ref 217), some (.ref a1), some (.ref a2), some (.ref a3), some (.int x4), none, none] [] h (k9 + 4) (n9 + 24) := by
  unfold f_Q_law_1103 at e
  refine Go.goto (off := 823) (tgt := 1926) (by decide +kernel) (by decide) ?_
  exact x_Q_law_1926 hf hI (by omega) (by omega) K23_ k1 k2 k3 q3 e
def f_Q_law_1171 (L : Nat) (xs : Nat → Int32) (k23_ : Nat → Nat → Nat → Int32 → HP → Option (Unit)) (a1 : Nat) (a2 : Nat) (a3 : Nat) (x4 : Int32) (h : HP) : Option (Unit) :=
  f_Q_law_1926 L xs k23_ a1 a2 a3 x4 h
set_option maxHeartbeats 40000000 in
theorem x_Q_law_1171 {l : Launch} {D : va_G} {ad : Nat → Nat} {aC : Nat → ClassId} (hf : l.flags = flags0) (hI : Inj ad) {L : Nat} {xs : Nat → Int32} {k9 n9 : Nat} (hk9 : k9 + 4 ≤ 601024) (hn9 : n9 + 24 ≤ 7293034) {k23_ : Nat → Nat → Nat → Int32 → HP → Option (Unit)} (K23_ : ∀ {a1 : Nat} {a2 : Nat} {a3 : Nat} {x4 : Int32} {h : HP} {r : Unit}, knd a1 = 7 → knd a2 = 8 → knd a3 = 13 → alen a3 = 1 → k23_ a1 a2 a3 x4 h = some r → Go l D ad aC room_1 (QL ad L xs) m_Q_law 23 [some (.ref 217), some (.ref a1), some (.ref a2), some (.ref a3), some (.int x4), none, none] [] h (k9 + 4) (n9 + 24)) {a1 : Nat} {a2 : Nat} {a3 : Nat} {x4 : Int32} {h : HP} {r : Unit} (k1 : knd a1 = 7) (k2 : knd a2 = 8) (k3 : knd a3 = 13) (q3 : alen a3 = 1) (e : f_Q_law_1171 L xs k23_ a1 a2 a3 x4 h = some r) : Go l D ad aC room_1 (QL ad L xs) m_Q_law 1171 [some (.ref 217), some (.ref a1), some (.ref a2), some (.ref a3), some (.int x4), none, none] [] h (k9 + 4) (n9 + 24) := by
  unfold f_Q_law_1171 at e
  refine Go.goto (off := 755) (tgt := 1926) (by decide +kernel) (by decide) ?_
  exact x_Q_law_1926 hf hI (by omega) (by omega) K23_ k1 k2 k3 q3 e
def f_Q_law_1227 (L : Nat) (xs : Nat → Int32) (k23_ : Nat → Nat → Nat → Int32 → HP → Option (Unit)) (a1 : Nat) (a2 : Nat) (a3 : Nat) (x4 : Int32) (h : HP) : Option (Unit) :=
  f_Q_law_1926 L xs k23_ a1 a2 a3 x4 h
set_option maxHeartbeats 40000000 in
theorem x_Q_law_1227 {l : Launch} {D : va_G} {ad : Nat → Nat} {aC : Nat → ClassId} (hf : l.flags = flags0) (hI : Inj ad) {L : Nat} {xs : Nat → Int32} {k9 n9 : Nat} (hk9 : k9 + 4 ≤ 601024) (hn9 : n9 + 24 ≤ 7293034) {k23_ : Nat → Nat → Nat → Int32 → HP → Option (Unit)} (K23_ : ∀ {a1 : Nat} {a2 : Nat} {a3 : Nat} {x4 : Int32} {h : HP} {r : Unit}, knd a1 = 7 → knd a2 = 8 → knd a3 = 13 → alen a3 = 1 → k23_ a1 a2 a3 x4 h = some r → Go l D ad aC room_1 (QL ad L xs) m_Q_law 23 [some (.ref 217), some (.ref a1), some (.ref a2), some (.ref a3), some (.int x4), none, none] [] h (k9 + 4) (n9 + 24)) {a1 : Nat} {a2 : Nat} {a3 : Nat} {x4 : Int32} {h : HP} {r : Unit} (k1 : knd a1 = 7) (k2 : knd a2 = 8) (k3 : knd a3 = 13) (q3 : alen a3 = 1) (e : f_Q_law_1227 L xs k23_ a1 a2 a3 x4 h = some r) : Go l D ad aC room_1 (QL ad L xs) m_Q_law 1227 [some (.ref 217), some (.ref a1), some (.ref a2), some (.ref a3), some (.int x4), none, none] [] h (k9 + 4) (n9 + 24) := by
  unfold f_Q_law_1227 at e
  refine Go.goto (off := 699) (tgt := 1926) (by decide +kernel) (by decide) ?_
  exact x_Q_law_1926 hf hI (by omega) (by omega) K23_ k1 k2 k3 q3 e
def f_Q_law_1295 (L : Nat) (xs : Nat → Int32) (k23_ : Nat → Nat → Nat → Int32 → HP → Option (Unit)) (a1 : Nat) (a2 : Nat) (a3 : Nat) (x4 : Int32) (h : HP) : Option (Unit) :=
  f_Q_law_1926 L xs k23_ a1 a2 a3 x4 h
set_option maxHeartbeats 40000000 in
theorem x_Q_law_1295 {l : Launch} {D : va_G} {ad : Nat → Nat} {aC : Nat → ClassId} (hf : l.flags = flags0) (hI : Inj ad) {L : Nat} {xs : Nat → Int32} {k9 n9 : Nat} (hk9 : k9 + 4 ≤ 601024) (hn9 : n9 + 24 ≤ 7293034) {k23_ : Nat → Nat → Nat → Int32 → HP → Option (Unit)} (K23_ : ∀ {a1 : Nat} {a2 : Nat} {a3 : Nat} {x4 : Int32} {h : HP} {r : Unit}, knd a1 = 7 → knd a2 = 8 → knd a3 = 13 → alen a3 = 1 → k23_ a1 a2 a3 x4 h = some r → Go l D ad aC room_1 (QL ad L xs) m_Q_law 23 [some (.ref 217), some (.ref a1), some (.ref a2), some (.ref a3), some (.int x4), none, none] [] h (k9 + 4) (n9 + 24)) {a1 : Nat} {a2 : Nat} {a3 : Nat} {x4 : Int32} {h : HP} {r : Unit} (k1 : knd a1 = 7) (k2 : knd a2 = 8) (k3 : knd a3 = 13) (q3 : alen a3 = 1) (e : f_Q_law_1295 L xs k23_ a1 a2 a3 x4 h = some r) : Go l D ad aC room_1 (QL ad L xs) m_Q_law 1295 [some (.ref 217), some (.ref a1), some (.ref a2), some (.ref a3), some (.int x4), none, none] [] h (k9 + 4) (n9 + 24) := by
  unfold f_Q_law_1295 at e
  refine Go.goto (off := 631) (tgt := 1926) (by decide +kernel) (by decide) ?_
  exact x_Q_law_1926 hf hI (by omega) (by omega) K23_ k1 k2 k3 q3 e
def f_Q_law_1339 (L : Nat) (xs : Nat → Int32) (k23_ : Nat → Nat → Nat → Int32 → HP → Option (Unit)) (a1 : Nat) (a2 : Nat) (a3 : Nat) (x4 : Int32) (h : HP) : Option (Unit) :=
  f_Q_law_1926 L xs k23_ a1 a2 a3 x4 h
set_option maxHeartbeats 40000000 in
theorem x_Q_law_1339 {l : Launch} {D : va_G} {ad : Nat → Nat} {aC : Nat → ClassId} (hf : l.flags = flags0) (hI : Inj ad) {L : Nat} {xs : Nat → Int32} {k9 n9 : Nat} (hk9 : k9 + 4 ≤ 601024) (hn9 : n9 + 24 ≤ 7293034) {k23_ : Nat → Nat → Nat → Int32 → HP → Option (Unit)} (K23_ : ∀ {a1 : Nat} {a2 : Nat} {a3 : Nat} {x4 : Int32} {h : HP} {r : Unit}, knd a1 = 7 → knd a2 = 8 → knd a3 = 13 → alen a3 = 1 → k23_ a1 a2 a3 x4 h = some r → Go l D ad aC room_1 (QL ad L xs) m_Q_law 23 [some (.ref 217), some (.ref a1), some (.ref a2), some (.ref a3), some (.int x4), none, none] [] h (k9 + 4) (n9 + 24)) {a1 : Nat} {a2 : Nat} {a3 : Nat} {x4 : Int32} {h : HP} {r : Unit} (k1 : knd a1 = 7) (k2 : knd a2 = 8) (k3 : knd a3 = 13) (q3 : alen a3 = 1) (e : f_Q_law_1339 L xs k23_ a1 a2 a3 x4 h = some r) : Go l D ad aC room_1 (QL ad L xs) m_Q_law 1339 [some (.ref 217), some (.ref a1), some (.ref a2), some (.ref a3), some (.int x4), none, none] [] h (k9 + 4) (n9 + 24) := by
  unfold f_Q_law_1339 at e
  refine Go.goto (off := 587) (tgt := 1926) (by decide +kernel) (by decide) ?_
  exact x_Q_law_1926 hf hI (by omega) (by omega) K23_ k1 k2 k3 q3 e
def f_Q_law_1419 (L : Nat) (xs : Nat → Int32) (k23_ : Nat → Nat → Nat → Int32 → HP → Option (Unit)) (a1 : Nat) (a2 : Nat) (a3 : Nat) (x4 : Int32) (h : HP) : Option (Unit) :=
  f_Q_law_1926 L xs k23_ a1 a2 a3 x4 h
set_option maxHeartbeats 40000000 in
theorem x_Q_law_1419 {l : Launch} {D : va_G} {ad : Nat → Nat} {aC : Nat → ClassId} (hf : l.flags = flags0) (hI : Inj ad) {L : Nat} {xs : Nat → Int32} {k9 n9 : Nat} (hk9 : k9 + 4 ≤ 601024) (hn9 : n9 + 24 ≤ 7293034) {k23_ : Nat → Nat → Nat → Int32 → HP → Option (Unit)} (K23_ : ∀ {a1 : Nat} {a2 : Nat} {a3 : Nat} {x4 : Int32} {h : HP} {r : Unit}, knd a1 = 7 → knd a2 = 8 → knd a3 = 13 → alen a3 = 1 → k23_ a1 a2 a3 x4 h = some r → Go l D ad aC room_1 (QL ad L xs) m_Q_law 23 [some (.ref 217), some (.ref a1), some (.ref a2), some (.ref a3), some (.int x4), none, none] [] h (k9 + 4) (n9 + 24)) {a1 : Nat} {a2 : Nat} {a3 : Nat} {x4 : Int32} {h : HP} {r : Unit} (k1 : knd a1 = 7) (k2 : knd a2 = 8) (k3 : knd a3 = 13) (q3 : alen a3 = 1) (e : f_Q_law_1419 L xs k23_ a1 a2 a3 x4 h = some r) : Go l D ad aC room_1 (QL ad L xs) m_Q_law 1419 [some (.ref 217), some (.ref a1), some (.ref a2), some (.ref a3), some (.int x4), none, none] [] h (k9 + 4) (n9 + 24) := by
  unfold f_Q_law_1419 at e
  refine Go.goto (off := 507) (tgt := 1926) (by decide +kernel) (by decide) ?_
  exact x_Q_law_1926 hf hI (by omega) (by omega) K23_ k1 k2 k3 q3 e
def f_Q_law_1487 (L : Nat) (xs : Nat → Int32) (k23_ : Nat → Nat → Nat → Int32 → HP → Option (Unit)) (a1 : Nat) (a2 : Nat) (a3 : Nat) (x4 : Int32) (h : HP) : Option (Unit) :=
  f_Q_law_1926 L xs k23_ a1 a2 a3 x4 h
set_option maxHeartbeats 40000000 in
theorem x_Q_law_1487 {l : Launch} {D : va_G} {ad : Nat → Nat} {aC : Nat → ClassId} (hf : l.flags = flags0) (hI : Inj ad) {L : Nat} {xs : Nat → Int32} {k9 n9 : Nat} (hk9 : k9 + 4 ≤ 601024) (hn9 : n9 + 24 ≤ 7293034) {k23_ : Nat → Nat → Nat → Int32 → HP → Option (Unit)} (K23_ : ∀ {a1 : Nat} {a2 : Nat} {a3 : Nat} {x4 : Int32} {h : HP} {r : Unit}, knd a1 = 7 → knd a2 = 8 → knd a3 = 13 → alen a3 = 1 → k23_ a1 a2 a3 x4 h = some r → Go l D ad aC room_1 (QL ad L xs) m_Q_law 23 [some (.ref 217), some (.ref a1), some (.ref a2), some (.ref a3), some (.int x4), none, none] [] h (k9 + 4) (n9 + 24)) {a1 : Nat} {a2 : Nat} {a3 : Nat} {x4 : Int32} {h : HP} {r : Unit} (k1 : knd a1 = 7) (k2 : knd a2 = 8) (k3 : knd a3 = 13) (q3 : alen a3 = 1) (e : f_Q_law_1487 L xs k23_ a1 a2 a3 x4 h = some r) : Go l D ad aC room_1 (QL ad L xs) m_Q_law 1487 [some (.ref 217), some (.ref a1), some (.ref a2), some (.ref a3), some (.int x4), none, none] [] h (k9 + 4) (n9 + 24) := by
  unfold f_Q_law_1487 at e
  refine Go.goto (off := 439) (tgt := 1926) (by decide +kernel) (by decide) ?_
  exact x_Q_law_1926 hf hI (by omega) (by omega) K23_ k1 k2 k3 q3 e
def f_Q_law_1543 (L : Nat) (xs : Nat → Int32) (k23_ : Nat → Nat → Nat → Int32 → HP → Option (Unit)) (a1 : Nat) (a2 : Nat) (a3 : Nat) (x4 : Int32) (h : HP) : Option (Unit) :=
  f_Q_law_1926 L xs k23_ a1 a2 a3 x4 h
set_option maxHeartbeats 40000000 in
theorem x_Q_law_1543 {l : Launch} {D : va_G} {ad : Nat → Nat} {aC : Nat → ClassId} (hf : l.flags = flags0) (hI : Inj ad) {L : Nat} {xs : Nat → Int32} {k9 n9 : Nat} (hk9 : k9 + 4 ≤ 601024) (hn9 : n9 + 24 ≤ 7293034) {k23_ : Nat → Nat → Nat → Int32 → HP → Option (Unit)} (K23_ : ∀ {a1 : Nat} {a2 : Nat} {a3 : Nat} {x4 : Int32} {h : HP} {r : Unit}, knd a1 = 7 → knd a2 = 8 → knd a3 = 13 → alen a3 = 1 → k23_ a1 a2 a3 x4 h = some r → Go l D ad aC room_1 (QL ad L xs) m_Q_law 23 [some (.ref 217), some (.ref a1), some (.ref a2), some (.ref a3), some (.int x4), none, none] [] h (k9 + 4) (n9 + 24)) {a1 : Nat} {a2 : Nat} {a3 : Nat} {x4 : Int32} {h : HP} {r : Unit} (k1 : knd a1 = 7) (k2 : knd a2 = 8) (k3 : knd a3 = 13) (q3 : alen a3 = 1) (e : f_Q_law_1543 L xs k23_ a1 a2 a3 x4 h = some r) : Go l D ad aC room_1 (QL ad L xs) m_Q_law 1543 [some (.ref 217), some (.ref a1), some (.ref a2), some (.ref a3), some (.int x4), none, none] [] h (k9 + 4) (n9 + 24) := by
  unfold f_Q_law_1543 at e
  refine Go.goto (off := 383) (tgt := 1926) (by decide +kernel) (by decide) ?_
  exact x_Q_law_1926 hf hI (by omega) (by omega) K23_ k1 k2 k3 q3 e
def f_Q_law_1611 (L : Nat) (xs : Nat → Int32) (k23_ : Nat → Nat → Nat → Int32 → HP → Option (Unit)) (a1 : Nat) (a2 : Nat) (a3 : Nat) (x4 : Int32) (h : HP) : Option (Unit) :=
  f_Q_law_1926 L xs k23_ a1 a2 a3 x4 h
set_option maxHeartbeats 40000000 in
theorem x_Q_law_1611 {l : Launch} {D : va_G} {ad : Nat → Nat} {aC : Nat → ClassId} (hf : l.flags = flags0) (hI : Inj ad) {L : Nat} {xs : Nat → Int32} {k9 n9 : Nat} (hk9 : k9 + 4 ≤ 601024) (hn9 : n9 + 24 ≤ 7293034) {k23_ : Nat → Nat → Nat → Int32 → HP → Option (Unit)} (K23_ : ∀ {a1 : Nat} {a2 : Nat} {a3 : Nat} {x4 : Int32} {h : HP} {r : Unit}, knd a1 = 7 → knd a2 = 8 → knd a3 = 13 → alen a3 = 1 → k23_ a1 a2 a3 x4 h = some r → Go l D ad aC room_1 (QL ad L xs) m_Q_law 23 [some (.ref 217), some (.ref a1), some (.ref a2), some (.ref a3), some (.int x4), none, none] [] h (k9 + 4) (n9 + 24)) {a1 : Nat} {a2 : Nat} {a3 : Nat} {x4 : Int32} {h : HP} {r : Unit} (k1 : knd a1 = 7) (k2 : knd a2 = 8) (k3 : knd a3 = 13) (q3 : alen a3 = 1) (e : f_Q_law_1611 L xs k23_ a1 a2 a3 x4 h = some r) : Go l D ad aC room_1 (QL ad L xs) m_Q_law 1611 [some (.ref 217), some (.ref a1), some (.ref a2), some (.ref a3), some (.int x4), none, none] [] h (k9 + 4) (n9 + 24) := by
  unfold f_Q_law_1611 at e
  refine Go.goto (off := 315) (tgt := 1926) (by decide +kernel) (by decide) ?_
  exact x_Q_law_1926 hf hI (by omega) (by omega) K23_ k1 k2 k3 q3 e
def f_Q_law_1711 (L : Nat) (xs : Nat → Int32) (k23_ : Nat → Nat → Nat → Int32 → HP → Option (Unit)) (a1 : Nat) (a2 : Nat) (a3 : Nat) (x4 : Int32) (h : HP) : Option (Unit) :=
  f_Q_law_1926 L xs k23_ a1 a2 a3 x4 h
set_option maxHeartbeats 40000000 in
theorem x_Q_law_1711 {l : Launch} {D : va_G} {ad : Nat → Nat} {aC : Nat → ClassId} (hf : l.flags = flags0) (hI : Inj ad) {L : Nat} {xs : Nat → Int32} {k9 n9 : Nat} (hk9 : k9 + 4 ≤ 601024) (hn9 : n9 + 24 ≤ 7293034) {k23_ : Nat → Nat → Nat → Int32 → HP → Option (Unit)} (K23_ : ∀ {a1 : Nat} {a2 : Nat} {a3 : Nat} {x4 : Int32} {h : HP} {r : Unit}, knd a1 = 7 → knd a2 = 8 → knd a3 = 13 → alen a3 = 1 → k23_ a1 a2 a3 x4 h = some r → Go l D ad aC room_1 (QL ad L xs) m_Q_law 23 [some (.ref 217), some (.ref a1), some (.ref a2), some (.ref a3), some (.int x4), none, none] [] h (k9 + 4) (n9 + 24)) {a1 : Nat} {a2 : Nat} {a3 : Nat} {x4 : Int32} {h : HP} {r : Unit} (k1 : knd a1 = 7) (k2 : knd a2 = 8) (k3 : knd a3 = 13) (q3 : alen a3 = 1) (e : f_Q_law_1711 L xs k23_ a1 a2 a3 x4 h = some r) : Go l D ad aC room_1 (QL ad L xs) m_Q_law 1711 [some (.ref 217), some (.ref a1), some (.ref a2), some (.ref a3), some (.int x4), none, none] [] h (k9 + 4) (n9 + 24) := by
  unfold f_Q_law_1711 at e
  refine Go.goto (off := 215) (tgt := 1926) (by decide +kernel) (by decide) ?_
  exact x_Q_law_1926 hf hI (by omega) (by omega) K23_ k1 k2 k3 q3 e
def f_Q_law_1811 (L : Nat) (xs : Nat → Int32) (k23_ : Nat → Nat → Nat → Int32 → HP → Option (Unit)) (a1 : Nat) (a2 : Nat) (a3 : Nat) (x4 : Int32) (h : HP) : Option (Unit) :=
  f_Q_law_1926 L xs k23_ a1 a2 a3 x4 h
set_option maxHeartbeats 40000000 in
theorem x_Q_law_1811 {l : Launch} {D : va_G} {ad : Nat → Nat} {aC : Nat → ClassId} (hf : l.flags = flags0) (hI : Inj ad) {L : Nat} {xs : Nat → Int32} {k9 n9 : Nat} (hk9 : k9 + 4 ≤ 601024) (hn9 : n9 + 24 ≤ 7293034) {k23_ : Nat → Nat → Nat → Int32 → HP → Option (Unit)} (K23_ : ∀ {a1 : Nat} {a2 : Nat} {a3 : Nat} {x4 : Int32} {h : HP} {r : Unit}, knd a1 = 7 → knd a2 = 8 → knd a3 = 13 → alen a3 = 1 → k23_ a1 a2 a3 x4 h = some r → Go l D ad aC room_1 (QL ad L xs) m_Q_law 23 [some (.ref 217), some (.ref a1), some (.ref a2), some (.ref a3), some (.int x4), none, none] [] h (k9 + 4) (n9 + 24)) {a1 : Nat} {a2 : Nat} {a3 : Nat} {x4 : Int32} {h : HP} {r : Unit} (k1 : knd a1 = 7) (k2 : knd a2 = 8) (k3 : knd a3 = 13) (q3 : alen a3 = 1) (e : f_Q_law_1811 L xs k23_ a1 a2 a3 x4 h = some r) : Go l D ad aC room_1 (QL ad L xs) m_Q_law 1811 [some (.ref 217), some (.ref a1), some (.ref a2), some (.ref a3), some (.int x4), none, none] [] h (k9 + 4) (n9 + 24) := by
  unfold f_Q_law_1811 at e
  refine Go.goto (off := 115) (tgt := 1926) (by decide +kernel) (by decide) ?_
  exact x_Q_law_1926 hf hI (by omega) (by omega) K23_ k1 k2 k3 q3 e
def f_Q_law_1867 (L : Nat) (xs : Nat → Int32) (k23_ : Nat → Nat → Nat → Int32 → HP → Option (Unit)) (a1 : Nat) (a2 : Nat) (a3 : Nat) (x4 : Int32) (h : HP) : Option (Unit) :=
  f_Q_law_1926 L xs k23_ a1 a2 a3 x4 h
set_option maxHeartbeats 40000000 in
theorem x_Q_law_1867 {l : Launch} {D : va_G} {ad : Nat → Nat} {aC : Nat → ClassId} (hf : l.flags = flags0) (hI : Inj ad) {L : Nat} {xs : Nat → Int32} {k9 n9 : Nat} (hk9 : k9 + 4 ≤ 601024) (hn9 : n9 + 24 ≤ 7293034) {k23_ : Nat → Nat → Nat → Int32 → HP → Option (Unit)} (K23_ : ∀ {a1 : Nat} {a2 : Nat} {a3 : Nat} {x4 : Int32} {h : HP} {r : Unit}, knd a1 = 7 → knd a2 = 8 → knd a3 = 13 → alen a3 = 1 → k23_ a1 a2 a3 x4 h = some r → Go l D ad aC room_1 (QL ad L xs) m_Q_law 23 [some (.ref 217), some (.ref a1), some (.ref a2), some (.ref a3), some (.int x4), none, none] [] h (k9 + 4) (n9 + 24)) {a1 : Nat} {a2 : Nat} {a3 : Nat} {x4 : Int32} {h : HP} {r : Unit} (k1 : knd a1 = 7) (k2 : knd a2 = 8) (k3 : knd a3 = 13) (q3 : alen a3 = 1) (e : f_Q_law_1867 L xs k23_ a1 a2 a3 x4 h = some r) : Go l D ad aC room_1 (QL ad L xs) m_Q_law 1867 [some (.ref 217), some (.ref a1), some (.ref a2), some (.ref a3), some (.int x4), none, none] [] h (k9 + 4) (n9 + 24) := by
  unfold f_Q_law_1867 at e
  refine Go.goto (off := 59) (tgt := 1926) (by decide +kernel) (by decide) ?_
  exact x_Q_law_1926 hf hI (by omega) (by omega) K23_ k1 k2 k3 q3 e
def f_Q_law_1923 (L : Nat) (xs : Nat → Int32) (k23_ : Nat → Nat → Nat → Int32 → HP → Option (Unit)) (a1 : Nat) (a2 : Nat) (a3 : Nat) (x4 : Int32) (h : HP) : Option (Unit) :=
  f_Q_law_1926 L xs k23_ a1 a2 a3 x4 h
set_option maxHeartbeats 40000000 in
theorem x_Q_law_1923 {l : Launch} {D : va_G} {ad : Nat → Nat} {aC : Nat → ClassId} (hf : l.flags = flags0) (hI : Inj ad) {L : Nat} {xs : Nat → Int32} {k9 n9 : Nat} (hk9 : k9 + 4 ≤ 601024) (hn9 : n9 + 24 ≤ 7293034) {k23_ : Nat → Nat → Nat → Int32 → HP → Option (Unit)} (K23_ : ∀ {a1 : Nat} {a2 : Nat} {a3 : Nat} {x4 : Int32} {h : HP} {r : Unit}, knd a1 = 7 → knd a2 = 8 → knd a3 = 13 → alen a3 = 1 → k23_ a1 a2 a3 x4 h = some r → Go l D ad aC room_1 (QL ad L xs) m_Q_law 23 [some (.ref 217), some (.ref a1), some (.ref a2), some (.ref a3), some (.int x4), none, none] [] h (k9 + 4) (n9 + 24)) {a1 : Nat} {a2 : Nat} {a3 : Nat} {x4 : Int32} {h : HP} {r : Unit} (k1 : knd a1 = 7) (k2 : knd a2 = 8) (k3 : knd a3 = 13) (q3 : alen a3 = 1) (e : f_Q_law_1923 L xs k23_ a1 a2 a3 x4 h = some r) : Go l D ad aC room_1 (QL ad L xs) m_Q_law 1923 [some (.ref 217), some (.ref a1), some (.ref a2), some (.ref a3), some (.int x4), none, none] [] h (k9 + 4) (n9 + 24) := by
  unfold f_Q_law_1923 at e
  refine Go.goto (off := 3) (tgt := 1926) (by decide +kernel) (by decide) ?_
  exact x_Q_law_1926 hf hI (by omega) (by omega) K23_ k1 k2 k3 q3 e
def f_Q_law_23 (L : Nat) (xs : Nat → Int32)  : Nat → Nat → Nat → Nat → Int32 → HP → Option (Unit)
  | 0, _, _, _, _, _ => none
  | n + 1, a1, a2, a3, x4, h =>
    if ((nI L) - (4 : Int32)) < x4 then
      some ()
    else
      if ib x4 L = true then
      if ((xs x4.toNatClampNeg) &&& (31 : Int32)) = 0 then
        if ib (x4 + (1 : Int32)) L = true then
        (f_Q_append h a1 (xs (x4 + (1 : Int32)).toNatClampNeg) a3).bind fun v5 =>
        if ib (x4 + (1 : Int32)) L = true then
        (f_M_append v5.2 a2 (xs (x4 + (1 : Int32)).toNatClampNeg)).bind fun v8 =>
        (f_M_thrown v8.2 a2).bind fun v10 =>
        if v10 = v5.1 then
          if v5.1 = 0 then
            if ib (0 : Int32) 1 = true then
            if (lg_cmp ((v8.2 a3 (0 : Int32).toNatClampNeg).toInt64) v8.1.toInt64) = 0 then
              f_Q_law_217 L xs (f_Q_law_23 L xs n) a1 a2 a3 x4 v8.2
            else
              none
            else none
          else
            f_Q_law_217 L xs (f_Q_law_23 L xs n) a1 a2 a3 x4 v8.2
        else
          none
        else none
        else none
      else
        if ((xs x4.toNatClampNeg) &&& (31 : Int32)) = 1 then
          (f_F_clearText h a1).bind fun v17 =>
          (f_M_clearText v17.2 a2).bind fun v19 =>
          if v17.1 = v19.1 then
            f_Q_law_1926 L xs (f_Q_law_23 L xs n) a1 a2 a3 x4 v19.2
          else
            none
        else
          if ((xs x4.toNatClampNeg) &&& (31 : Int32)) = 2 then
            (f_F_errorPosition h a1).bind fun v23 =>
            (f_M_errorPosition v23.2 a2).bind fun v25 =>
            if v23.1 = v25.1 then
              f_Q_law_1926 L xs (f_Q_law_23 L xs n) a1 a2 a3 x4 v25.2
            else
              none
          else
            if ((xs x4.toNatClampNeg) &&& (31 : Int32)) = 3 then
              (f_Q_load h a1 a3).bind fun v29 =>
              (f_M_load v29.2 a2).bind fun v31 =>
              (f_M_thrown v31.2 a2).bind fun v33 =>
              if v33 = v29.1 then
                if v29.1 = 0 then
                  if ib (0 : Int32) 1 = true then
                  if (lg_cmp ((v31.2 a3 (0 : Int32).toNatClampNeg).toInt64) v31.1.toInt64) = 0 then
                    f_Q_law_287 L xs (f_Q_law_23 L xs n) a1 a2 a3 x4 v31.2
                  else
                    none
                  else none
                else
                  f_Q_law_287 L xs (f_Q_law_23 L xs n) a1 a2 a3 x4 v31.2
              else
                none
            else
              if ((xs x4.toNatClampNeg) &&& (31 : Int32)) = 4 then
                if ib (x4 + (1 : Int32)) L = true then
                (f_Q_about h a1 (xs (x4 + (1 : Int32)).toNatClampNeg) a3).bind fun v41 =>
                if ib (x4 + (1 : Int32)) L = true then
                (f_M_about v41.2 a2 (xs (x4 + (1 : Int32)).toNatClampNeg)).bind fun v44 =>
                (f_M_thrown v44.2 a2).bind fun v46 =>
                if v46 = v41.1 then
                  if v41.1 = 0 then
                    if ib (0 : Int32) 1 = true then
                    if (lg_cmp ((v44.2 a3 (0 : Int32).toNatClampNeg).toInt64) v44.1.toInt64) = 0 then
                      f_Q_law_343 L xs (f_Q_law_23 L xs n) a1 a2 a3 x4 v44.2
                    else
                      none
                    else none
                  else
                    f_Q_law_343 L xs (f_Q_law_23 L xs n) a1 a2 a3 x4 v44.2
                else
                  none
                else none
                else none
              else
                if ((xs x4.toNatClampNeg) &&& (31 : Int32)) = 5 then
                  if ib (x4 + (1 : Int32)) L = true then
                  if ib (x4 + (2 : Int32)) L = true then
                  (f_Q_wallOf h a1 (xs (x4 + (1 : Int32)).toNatClampNeg) (xs (x4 + (2 : Int32)).toNatClampNeg) a3).bind fun v55 =>
                  if ib (x4 + (1 : Int32)) L = true then
                  if ib (x4 + (2 : Int32)) L = true then
                  (f_M_wallOf v55.2 a2 (xs (x4 + (1 : Int32)).toNatClampNeg) (xs (x4 + (2 : Int32)).toNatClampNeg)).bind fun v59 =>
                  (f_M_thrown v59.2 a2).bind fun v61 =>
                  if v61 = v55.1 then
                    if v55.1 = 0 then
                      if ib (0 : Int32) 1 = true then
                      if (lg_cmp ((v59.2 a3 (0 : Int32).toNatClampNeg).toInt64) v59.1.toInt64) = 0 then
                        f_Q_law_411 L xs (f_Q_law_23 L xs n) a1 a2 a3 x4 v59.2
                      else
                        none
                      else none
                    else
                      f_Q_law_411 L xs (f_Q_law_23 L xs n) a1 a2 a3 x4 v59.2
                  else
                    none
                  else none
                  else none
                  else none
                  else none
                else
                  if ((xs x4.toNatClampNeg) &&& (31 : Int32)) = 6 then
                    if ib (x4 + (1 : Int32)) L = true then
                    if ib (x4 + (2 : Int32)) L = true then
                    if ib (x4 + (3 : Int32)) L = true then
                    (f_Q_metreOf h a1 (xs (x4 + (1 : Int32)).toNatClampNeg) (xs (x4 + (2 : Int32)).toNatClampNeg) (xs (x4 + (3 : Int32)).toNatClampNeg) a3).bind fun v71 =>
                    if ib (x4 + (1 : Int32)) L = true then
                    if ib (x4 + (2 : Int32)) L = true then
                    if ib (x4 + (3 : Int32)) L = true then
                    (f_M_metreOf v71.2 a2 (xs (x4 + (1 : Int32)).toNatClampNeg) (xs (x4 + (2 : Int32)).toNatClampNeg) (xs (x4 + (3 : Int32)).toNatClampNeg)).bind fun v76 =>
                    (f_M_thrown v76.2 a2).bind fun v78 =>
                    if v78 = v71.1 then
                      if v71.1 = 0 then
                        if ib (0 : Int32) 1 = true then
                        if (lg_cmp ((v76.2 a3 (0 : Int32).toNatClampNeg).toInt64) v76.1.toInt64) = 0 then
                          f_Q_law_491 L xs (f_Q_law_23 L xs n) a1 a2 a3 x4 v76.2
                        else
                          none
                        else none
                      else
                        f_Q_law_491 L xs (f_Q_law_23 L xs n) a1 a2 a3 x4 v76.2
                    else
                      none
                    else none
                    else none
                    else none
                    else none
                    else none
                    else none
                  else
                    if ((xs x4.toNatClampNeg) &&& (31 : Int32)) = 7 then
                      if ib (x4 + (1 : Int32)) L = true then
                      if ib (x4 + (2 : Int32)) L = true then
                      (f_Q_dealerOf h a1 (xs (x4 + (1 : Int32)).toNatClampNeg) (xs (x4 + (2 : Int32)).toNatClampNeg) a3).bind fun v87 =>
                      if ib (x4 + (1 : Int32)) L = true then
                      if ib (x4 + (2 : Int32)) L = true then
                      (f_M_dealerOf v87.2 a2 (xs (x4 + (1 : Int32)).toNatClampNeg) (xs (x4 + (2 : Int32)).toNatClampNeg)).bind fun v91 =>
                      (f_M_thrown v91.2 a2).bind fun v93 =>
                      if v93 = v87.1 then
                        if v87.1 = 0 then
                          if ib (0 : Int32) 1 = true then
                          if (lg_cmp ((v91.2 a3 (0 : Int32).toNatClampNeg).toInt64) v91.1.toInt64) = 0 then
                            f_Q_law_559 L xs (f_Q_law_23 L xs n) a1 a2 a3 x4 v91.2
                          else
                            none
                          else none
                        else
                          f_Q_law_559 L xs (f_Q_law_23 L xs n) a1 a2 a3 x4 v91.2
                      else
                        none
                      else none
                      else none
                      else none
                      else none
                    else
                      if ((xs x4.toNatClampNeg) &&& (31 : Int32)) = 8 then
                        if ib (x4 + (1 : Int32)) L = true then
                        if ib (x4 + (2 : Int32)) L = true then
                        (f_Q_plugOf h a1 (xs (x4 + (1 : Int32)).toNatClampNeg) (xs (x4 + (2 : Int32)).toNatClampNeg) a3).bind fun v102 =>
                        if ib (x4 + (1 : Int32)) L = true then
                        if ib (x4 + (2 : Int32)) L = true then
                        (f_M_plugOf v102.2 a2 (xs (x4 + (1 : Int32)).toNatClampNeg) (xs (x4 + (2 : Int32)).toNatClampNeg)).bind fun v106 =>
                        (f_M_thrown v106.2 a2).bind fun v108 =>
                        if v108 = v102.1 then
                          if v102.1 = 0 then
                            if ib (0 : Int32) 1 = true then
                            if (lg_cmp ((v106.2 a3 (0 : Int32).toNatClampNeg).toInt64) v106.1.toInt64) = 0 then
                              f_Q_law_627 L xs (f_Q_law_23 L xs n) a1 a2 a3 x4 v106.2
                            else
                              none
                            else none
                          else
                            f_Q_law_627 L xs (f_Q_law_23 L xs n) a1 a2 a3 x4 v106.2
                        else
                          none
                        else none
                        else none
                        else none
                        else none
                      else
                        if ((xs x4.toNatClampNeg) &&& (31 : Int32)) = 9 then
                          if ib (x4 + (1 : Int32)) L = true then
                          (f_Q_setting h a1 (xs (x4 + (1 : Int32)).toNatClampNeg) a3).bind fun v116 =>
                          if ib (x4 + (1 : Int32)) L = true then
                          (f_M_setting v116.2 a2 (xs (x4 + (1 : Int32)).toNatClampNeg)).bind fun v119 =>
                          (f_M_thrown v119.2 a2).bind fun v121 =>
                          if v121 = v116.1 then
                            if v116.1 = 0 then
                              if ib (0 : Int32) 1 = true then
                              if (lg_cmp ((v119.2 a3 (0 : Int32).toNatClampNeg).toInt64) v119.1.toInt64) = 0 then
                                f_Q_law_683 L xs (f_Q_law_23 L xs n) a1 a2 a3 x4 v119.2
                              else
                                none
                              else none
                            else
                              f_Q_law_683 L xs (f_Q_law_23 L xs n) a1 a2 a3 x4 v119.2
                          else
                            none
                          else none
                          else none
                        else
                          if ((xs x4.toNatClampNeg) &&& (31 : Int32)) = 10 then
                            if ib (x4 + (1 : Int32)) L = true then
                            if ib (x4 + (2 : Int32)) L = true then
                            (f_Q_free h a1 (xs (x4 + (1 : Int32)).toNatClampNeg) (xs (x4 + (2 : Int32)).toNatClampNeg) a3).bind fun v130 =>
                            if ib (x4 + (1 : Int32)) L = true then
                            if ib (x4 + (2 : Int32)) L = true then
                            (f_M_free v130.2 a2 (xs (x4 + (1 : Int32)).toNatClampNeg) (xs (x4 + (2 : Int32)).toNatClampNeg)).bind fun v134 =>
                            (f_M_thrown v134.2 a2).bind fun v136 =>
                            if v136 = v130.1 then
                              if v130.1 = 0 then
                                if ib (0 : Int32) 1 = true then
                                if (lg_cmp ((v134.2 a3 (0 : Int32).toNatClampNeg).toInt64) v134.1.toInt64) = 0 then
                                  f_Q_law_751 L xs (f_Q_law_23 L xs n) a1 a2 a3 x4 v134.2
                                else
                                  none
                                else none
                              else
                                f_Q_law_751 L xs (f_Q_law_23 L xs n) a1 a2 a3 x4 v134.2
                            else
                              none
                            else none
                            else none
                            else none
                            else none
                          else
                            if ((xs x4.toNatClampNeg) &&& (31 : Int32)) = 11 then
                              if ib (x4 + (1 : Int32)) L = true then
                              (f_Q_wall h a1 (xs (x4 + (1 : Int32)).toNatClampNeg) a3).bind fun v144 =>
                              if ib (x4 + (1 : Int32)) L = true then
                              (f_M_wall v144.2 a2 (xs (x4 + (1 : Int32)).toNatClampNeg)).bind fun v147 =>
                              (f_M_thrown v147.2 a2).bind fun v149 =>
                              if v149 = v144.1 then
                                if v144.1 = 0 then
                                  if ib (0 : Int32) 1 = true then
                                  if (lg_cmp ((v147.2 a3 (0 : Int32).toNatClampNeg).toInt64) v147.1.toInt64) = 0 then
                                    f_Q_law_807 L xs (f_Q_law_23 L xs n) a1 a2 a3 x4 v147.2
                                  else
                                    none
                                  else none
                                else
                                  f_Q_law_807 L xs (f_Q_law_23 L xs n) a1 a2 a3 x4 v147.2
                              else
                                none
                              else none
                              else none
                            else
                              if ((xs x4.toNatClampNeg) &&& (31 : Int32)) = 12 then
                                if ib (x4 + (1 : Int32)) L = true then
                                if ib (x4 + (2 : Int32)) L = true then
                                if ib (x4 + (3 : Int32)) L = true then
                                (f_Q_outlet h a1 (xs (x4 + (1 : Int32)).toNatClampNeg) (xs (x4 + (2 : Int32)).toNatClampNeg) (xs (x4 + (3 : Int32)).toNatClampNeg) a3).bind fun v159 =>
                                if ib (x4 + (1 : Int32)) L = true then
                                if ib (x4 + (2 : Int32)) L = true then
                                if ib (x4 + (3 : Int32)) L = true then
                                (f_M_outlet v159.2 a2 (xs (x4 + (1 : Int32)).toNatClampNeg) (xs (x4 + (2 : Int32)).toNatClampNeg) (xs (x4 + (3 : Int32)).toNatClampNeg)).bind fun v164 =>
                                (f_M_thrown v164.2 a2).bind fun v166 =>
                                if v166 = v159.1 then
                                  if v159.1 = 0 then
                                    if ib (0 : Int32) 1 = true then
                                    if (lg_cmp ((v164.2 a3 (0 : Int32).toNatClampNeg).toInt64) v164.1.toInt64) = 0 then
                                      f_Q_law_887 L xs (f_Q_law_23 L xs n) a1 a2 a3 x4 v164.2
                                    else
                                      none
                                    else none
                                  else
                                    f_Q_law_887 L xs (f_Q_law_23 L xs n) a1 a2 a3 x4 v164.2
                                else
                                  none
                                else none
                                else none
                                else none
                                else none
                                else none
                                else none
                              else
                                if ((xs x4.toNatClampNeg) &&& (31 : Int32)) = 13 then
                                  if ib (x4 + (1 : Int32)) L = true then
                                  if ib (x4 + (2 : Int32)) L = true then
                                  if ib (x4 + (3 : Int32)) L = true then
                                  (f_Q_dealer h a1 (xs (x4 + (1 : Int32)).toNatClampNeg) (xs (x4 + (2 : Int32)).toNatClampNeg) (xs (x4 + (3 : Int32)).toNatClampNeg) a3).bind fun v176 =>
                                  if ib (x4 + (1 : Int32)) L = true then
                                  if ib (x4 + (2 : Int32)) L = true then
                                  if ib (x4 + (3 : Int32)) L = true then
                                  (f_M_dealer v176.2 a2 (xs (x4 + (1 : Int32)).toNatClampNeg) (xs (x4 + (2 : Int32)).toNatClampNeg) (xs (x4 + (3 : Int32)).toNatClampNeg)).bind fun v181 =>
                                  (f_M_thrown v181.2 a2).bind fun v183 =>
                                  if v183 = v176.1 then
                                    if v176.1 = 0 then
                                      if ib (0 : Int32) 1 = true then
                                      if (lg_cmp ((v181.2 a3 (0 : Int32).toNatClampNeg).toInt64) v181.1.toInt64) = 0 then
                                        f_Q_law_967 L xs (f_Q_law_23 L xs n) a1 a2 a3 x4 v181.2
                                      else
                                        none
                                      else none
                                    else
                                      f_Q_law_967 L xs (f_Q_law_23 L xs n) a1 a2 a3 x4 v181.2
                                  else
                                    none
                                  else none
                                  else none
                                  else none
                                  else none
                                  else none
                                  else none
                                else
                                  if ((xs x4.toNatClampNeg) &&& (31 : Int32)) = 14 then
                                    if ib (x4 + (1 : Int32)) L = true then
                                    if ib (x4 + (2 : Int32)) L = true then
                                    if ib (x4 + (3 : Int32)) L = true then
                                    (f_Q_place h a1 (xs (x4 + (1 : Int32)).toNatClampNeg) (xs (x4 + (2 : Int32)).toNatClampNeg) (xs (x4 + (3 : Int32)).toNatClampNeg) a3).bind fun v193 =>
                                    if ib (x4 + (1 : Int32)) L = true then
                                    if ib (x4 + (2 : Int32)) L = true then
                                    if ib (x4 + (3 : Int32)) L = true then
                                    (f_M_place v193.2 a2 (xs (x4 + (1 : Int32)).toNatClampNeg) (xs (x4 + (2 : Int32)).toNatClampNeg) (xs (x4 + (3 : Int32)).toNatClampNeg)).bind fun v198 =>
                                    (f_M_thrown v198.2 a2).bind fun v200 =>
                                    if v200 = v193.1 then
                                      if v193.1 = 0 then
                                        if ib (0 : Int32) 1 = true then
                                        if (lg_cmp ((v198.2 a3 (0 : Int32).toNatClampNeg).toInt64) v198.1.toInt64) = 0 then
                                          f_Q_law_1047 L xs (f_Q_law_23 L xs n) a1 a2 a3 x4 v198.2
                                        else
                                          none
                                        else none
                                      else
                                        f_Q_law_1047 L xs (f_Q_law_23 L xs n) a1 a2 a3 x4 v198.2
                                    else
                                      none
                                    else none
                                    else none
                                    else none
                                    else none
                                    else none
                                    else none
                                  else
                                    if ((xs x4.toNatClampNeg) &&& (31 : Int32)) = 15 then
                                      if ib (x4 + (1 : Int32)) L = true then
                                      (f_Q_leave h a1 (xs (x4 + (1 : Int32)).toNatClampNeg) a3).bind fun v208 =>
                                      if ib (x4 + (1 : Int32)) L = true then
                                      (f_M_leave v208.2 a2 (xs (x4 + (1 : Int32)).toNatClampNeg)).bind fun v211 =>
                                      (f_M_thrown v211.2 a2).bind fun v213 =>
                                      if v213 = v208.1 then
                                        if v208.1 = 0 then
                                          if ib (0 : Int32) 1 = true then
                                          if (lg_cmp ((v211.2 a3 (0 : Int32).toNatClampNeg).toInt64) v211.1.toInt64) = 0 then
                                            f_Q_law_1103 L xs (f_Q_law_23 L xs n) a1 a2 a3 x4 v211.2
                                          else
                                            none
                                          else none
                                        else
                                          f_Q_law_1103 L xs (f_Q_law_23 L xs n) a1 a2 a3 x4 v211.2
                                      else
                                        none
                                      else none
                                      else none
                                    else
                                      if ((xs x4.toNatClampNeg) &&& (31 : Int32)) = 16 then
                                        if ib (x4 + (1 : Int32)) L = true then
                                        if ib (x4 + (2 : Int32)) L = true then
                                        (f_Q_swap h a1 (xs (x4 + (1 : Int32)).toNatClampNeg) (xs (x4 + (2 : Int32)).toNatClampNeg) a3).bind fun v222 =>
                                        if ib (x4 + (1 : Int32)) L = true then
                                        if ib (x4 + (2 : Int32)) L = true then
                                        (f_M_swap v222.2 a2 (xs (x4 + (1 : Int32)).toNatClampNeg) (xs (x4 + (2 : Int32)).toNatClampNeg)).bind fun v226 =>
                                        (f_M_thrown v226.2 a2).bind fun v228 =>
                                        if v228 = v222.1 then
                                          if v222.1 = 0 then
                                            if ib (0 : Int32) 1 = true then
                                            if (lg_cmp ((v226.2 a3 (0 : Int32).toNatClampNeg).toInt64) v226.1.toInt64) = 0 then
                                              f_Q_law_1171 L xs (f_Q_law_23 L xs n) a1 a2 a3 x4 v226.2
                                            else
                                              none
                                            else none
                                          else
                                            f_Q_law_1171 L xs (f_Q_law_23 L xs n) a1 a2 a3 x4 v226.2
                                        else
                                          none
                                        else none
                                        else none
                                        else none
                                        else none
                                      else
                                        if ((xs x4.toNatClampNeg) &&& (31 : Int32)) = 17 then
                                          if ib (x4 + (1 : Int32)) L = true then
                                          (f_Q_days h a1 (xs (x4 + (1 : Int32)).toNatClampNeg) a3).bind fun v236 =>
                                          if ib (x4 + (1 : Int32)) L = true then
                                          (f_M_days v236.2 a2 (xs (x4 + (1 : Int32)).toNatClampNeg)).bind fun v239 =>
                                          (f_M_thrown v239.2 a2).bind fun v241 =>
                                          if v241 = v236.1 then
                                            if v236.1 = 0 then
                                              if ib (0 : Int32) 1 = true then
                                              if (lg_cmp ((v239.2 a3 (0 : Int32).toNatClampNeg).toInt64) v239.1.toInt64) = 0 then
                                                f_Q_law_1227 L xs (f_Q_law_23 L xs n) a1 a2 a3 x4 v239.2
                                              else
                                                none
                                              else none
                                            else
                                              f_Q_law_1227 L xs (f_Q_law_23 L xs n) a1 a2 a3 x4 v239.2
                                          else
                                            none
                                          else none
                                          else none
                                        else
                                          if ((xs x4.toNatClampNeg) &&& (31 : Int32)) = 18 then
                                            if ib (x4 + (1 : Int32)) L = true then
                                            if ib (x4 + (2 : Int32)) L = true then
                                            (f_Q_set h a1 (xs (x4 + (1 : Int32)).toNatClampNeg) (xs (x4 + (2 : Int32)).toNatClampNeg) a3).bind fun v250 =>
                                            if ib (x4 + (1 : Int32)) L = true then
                                            if ib (x4 + (2 : Int32)) L = true then
                                            (f_M_set v250.2 a2 (xs (x4 + (1 : Int32)).toNatClampNeg) (xs (x4 + (2 : Int32)).toNatClampNeg)).bind fun v254 =>
                                            (f_M_thrown v254.2 a2).bind fun v256 =>
                                            if v256 = v250.1 then
                                              if v250.1 = 0 then
                                                if ib (0 : Int32) 1 = true then
                                                if (lg_cmp ((v254.2 a3 (0 : Int32).toNatClampNeg).toInt64) v254.1.toInt64) = 0 then
                                                  f_Q_law_1295 L xs (f_Q_law_23 L xs n) a1 a2 a3 x4 v254.2
                                                else
                                                  none
                                                else none
                                              else
                                                f_Q_law_1295 L xs (f_Q_law_23 L xs n) a1 a2 a3 x4 v254.2
                                            else
                                              none
                                            else none
                                            else none
                                            else none
                                            else none
                                          else
                                            if ((xs x4.toNatClampNeg) &&& (31 : Int32)) = 19 then
                                              (f_Q_undo h a1 a3).bind fun v263 =>
                                              (f_M_undo v263.2 a2).bind fun v265 =>
                                              (f_M_thrown v265.2 a2).bind fun v267 =>
                                              if v267 = v263.1 then
                                                if v263.1 = 0 then
                                                  if ib (0 : Int32) 1 = true then
                                                  if (lg_cmp ((v265.2 a3 (0 : Int32).toNatClampNeg).toInt64) v265.1.toInt64) = 0 then
                                                    f_Q_law_1339 L xs (f_Q_law_23 L xs n) a1 a2 a3 x4 v265.2
                                                  else
                                                    none
                                                  else none
                                                else
                                                  f_Q_law_1339 L xs (f_Q_law_23 L xs n) a1 a2 a3 x4 v265.2
                                              else
                                                none
                                            else
                                              if ((xs x4.toNatClampNeg) &&& (31 : Int32)) = 20 then
                                                if ib (x4 + (1 : Int32)) L = true then
                                                if ib (x4 + (2 : Int32)) L = true then
                                                if ib (x4 + (3 : Int32)) L = true then
                                                (f_Q_rentIf h a1 (xs (x4 + (1 : Int32)).toNatClampNeg) (xs (x4 + (2 : Int32)).toNatClampNeg) (xs (x4 + (3 : Int32)).toNatClampNeg) a3).bind fun v277 =>
                                                if ib (x4 + (1 : Int32)) L = true then
                                                if ib (x4 + (2 : Int32)) L = true then
                                                if ib (x4 + (3 : Int32)) L = true then
                                                (f_M_rentIf v277.2 a2 (xs (x4 + (1 : Int32)).toNatClampNeg) (xs (x4 + (2 : Int32)).toNatClampNeg) (xs (x4 + (3 : Int32)).toNatClampNeg)).bind fun v282 =>
                                                (f_M_thrown v282.2 a2).bind fun v284 =>
                                                if v284 = v277.1 then
                                                  if v277.1 = 0 then
                                                    if ib (0 : Int32) 1 = true then
                                                    if (lg_cmp ((v282.2 a3 (0 : Int32).toNatClampNeg).toInt64) v282.1.toInt64) = 0 then
                                                      f_Q_law_1419 L xs (f_Q_law_23 L xs n) a1 a2 a3 x4 v282.2
                                                    else
                                                      none
                                                    else none
                                                  else
                                                    f_Q_law_1419 L xs (f_Q_law_23 L xs n) a1 a2 a3 x4 v282.2
                                                else
                                                  none
                                                else none
                                                else none
                                                else none
                                                else none
                                                else none
                                                else none
                                              else
                                                if ((xs x4.toNatClampNeg) &&& (31 : Int32)) = 21 then
                                                  if ib (x4 + (1 : Int32)) L = true then
                                                  if ib (x4 + (2 : Int32)) L = true then
                                                  (f_Q_cheapest h a1 (xs (x4 + (1 : Int32)).toNatClampNeg) (xs (x4 + (2 : Int32)).toNatClampNeg) a3).bind fun v293 =>
                                                  if ib (x4 + (1 : Int32)) L = true then
                                                  if ib (x4 + (2 : Int32)) L = true then
                                                  (f_M_cheapest v293.2 a2 (xs (x4 + (1 : Int32)).toNatClampNeg) (xs (x4 + (2 : Int32)).toNatClampNeg)).bind fun v297 =>
                                                  (f_M_thrown v297.2 a2).bind fun v299 =>
                                                  if v299 = v293.1 then
                                                    if v293.1 = 0 then
                                                      if ib (0 : Int32) 1 = true then
                                                      if (lg_cmp ((v297.2 a3 (0 : Int32).toNatClampNeg).toInt64) v297.1.toInt64) = 0 then
                                                        f_Q_law_1487 L xs (f_Q_law_23 L xs n) a1 a2 a3 x4 v297.2
                                                      else
                                                        none
                                                      else none
                                                    else
                                                      f_Q_law_1487 L xs (f_Q_law_23 L xs n) a1 a2 a3 x4 v297.2
                                                  else
                                                    none
                                                  else none
                                                  else none
                                                  else none
                                                  else none
                                                else
                                                  if ((xs x4.toNatClampNeg) &&& (31 : Int32)) = 22 then
                                                    if ib (x4 + (1 : Int32)) L = true then
                                                    (f_Q_bestSwap h a1 (xs (x4 + (1 : Int32)).toNatClampNeg) a3).bind fun v307 =>
                                                    if ib (x4 + (1 : Int32)) L = true then
                                                    (f_M_bestSwap v307.2 a2 (xs (x4 + (1 : Int32)).toNatClampNeg)).bind fun v310 =>
                                                    (f_M_thrown v310.2 a2).bind fun v312 =>
                                                    if v312 = v307.1 then
                                                      if v307.1 = 0 then
                                                        if ib (0 : Int32) 1 = true then
                                                        if (lg_cmp ((v310.2 a3 (0 : Int32).toNatClampNeg).toInt64) v310.1.toInt64) = 0 then
                                                          f_Q_law_1543 L xs (f_Q_law_23 L xs n) a1 a2 a3 x4 v310.2
                                                        else
                                                          none
                                                        else none
                                                      else
                                                        f_Q_law_1543 L xs (f_Q_law_23 L xs n) a1 a2 a3 x4 v310.2
                                                    else
                                                      none
                                                    else none
                                                    else none
                                                  else
                                                    if ((xs x4.toNatClampNeg) &&& (31 : Int32)) = 23 then
                                                      if ib (x4 + (1 : Int32)) L = true then
                                                      if ib (x4 + (2 : Int32)) L = true then
                                                      (f_Q_why h a1 (xs (x4 + (1 : Int32)).toNatClampNeg) (xs (x4 + (2 : Int32)).toNatClampNeg) a3).bind fun v321 =>
                                                      if ib (x4 + (1 : Int32)) L = true then
                                                      if ib (x4 + (2 : Int32)) L = true then
                                                      (f_M_why v321.2 a2 (xs (x4 + (1 : Int32)).toNatClampNeg) (xs (x4 + (2 : Int32)).toNatClampNeg)).bind fun v325 =>
                                                      (f_M_thrown v325.2 a2).bind fun v327 =>
                                                      if v327 = v321.1 then
                                                        if v321.1 = 0 then
                                                          if ib (0 : Int32) 1 = true then
                                                          if (lg_cmp ((v325.2 a3 (0 : Int32).toNatClampNeg).toInt64) v325.1.toInt64) = 0 then
                                                            f_Q_law_1611 L xs (f_Q_law_23 L xs n) a1 a2 a3 x4 v325.2
                                                          else
                                                            none
                                                          else none
                                                        else
                                                          f_Q_law_1611 L xs (f_Q_law_23 L xs n) a1 a2 a3 x4 v325.2
                                                      else
                                                        none
                                                      else none
                                                      else none
                                                      else none
                                                      else none
                                                    else
                                                      if ((xs x4.toNatClampNeg) &&& (31 : Int32)) = 24 then
                                                        if ib (x4 + (1 : Int32)) L = true then
                                                        if ib (x4 + (2 : Int32)) L = true then
                                                        if ib (x4 + (3 : Int32)) L = true then
                                                        (f_Q_runScript h a1 (xs (x4 + (1 : Int32)).toNatClampNeg) ((((xs (x4 + (2 : Int32)).toNatClampNeg).toInt64) <<< ((32 : Int32).toInt64 &&& 63)) ||| (((xs (x4 + (3 : Int32)).toNatClampNeg).toInt64) &&& (4294967295 : Int64))) a3).bind fun v337 =>
                                                        if ib (x4 + (1 : Int32)) L = true then
                                                        if ib (x4 + (2 : Int32)) L = true then
                                                        if ib (x4 + (3 : Int32)) L = true then
                                                        (f_M_runScript v337.2 a2 (xs (x4 + (1 : Int32)).toNatClampNeg) ((((xs (x4 + (2 : Int32)).toNatClampNeg).toInt64) <<< ((32 : Int32).toInt64 &&& 63)) ||| (((xs (x4 + (3 : Int32)).toNatClampNeg).toInt64) &&& (4294967295 : Int64)))).bind fun v342 =>
                                                        (f_M_thrown v342.2 a2).bind fun v344 =>
                                                        if v344 = v337.1 then
                                                          if v337.1 = 0 then
                                                            if ib (0 : Int32) 1 = true then
                                                            if (lg_cmp ((v342.2 a3 (0 : Int32).toNatClampNeg).toInt64) v342.1.toInt64) = 0 then
                                                              f_Q_law_1711 L xs (f_Q_law_23 L xs n) a1 a2 a3 x4 v342.2
                                                            else
                                                              none
                                                            else none
                                                          else
                                                            f_Q_law_1711 L xs (f_Q_law_23 L xs n) a1 a2 a3 x4 v342.2
                                                        else
                                                          none
                                                        else none
                                                        else none
                                                        else none
                                                        else none
                                                        else none
                                                        else none
                                                      else
                                                        if ((xs x4.toNatClampNeg) &&& (31 : Int32)) = 25 then
                                                          if ib (x4 + (1 : Int32)) L = true then
                                                          if ib (x4 + (2 : Int32)) L = true then
                                                          if ib (x4 + (3 : Int32)) L = true then
                                                          (f_Q_simulate h a1 ((((xs (x4 + (1 : Int32)).toNatClampNeg).toInt64) <<< ((32 : Int32).toInt64 &&& 63)) ||| (((xs (x4 + (2 : Int32)).toNatClampNeg).toInt64) &&& (4294967295 : Int64))) (xs (x4 + (3 : Int32)).toNatClampNeg) a3).bind fun v354 =>
                                                          if ib (x4 + (1 : Int32)) L = true then
                                                          if ib (x4 + (2 : Int32)) L = true then
                                                          if ib (x4 + (3 : Int32)) L = true then
                                                          (f_M_simulate v354.2 a2 ((((xs (x4 + (1 : Int32)).toNatClampNeg).toInt64) <<< ((32 : Int32).toInt64 &&& 63)) ||| (((xs (x4 + (2 : Int32)).toNatClampNeg).toInt64) &&& (4294967295 : Int64))) (xs (x4 + (3 : Int32)).toNatClampNeg)).bind fun v359 =>
                                                          (f_M_thrown v359.2 a2).bind fun v361 =>
                                                          if v361 = v354.1 then
                                                            if v354.1 = 0 then
                                                              if ib (0 : Int32) 1 = true then
                                                              if (lg_cmp ((v359.2 a3 (0 : Int32).toNatClampNeg).toInt64) v359.1.toInt64) = 0 then
                                                                f_Q_law_1811 L xs (f_Q_law_23 L xs n) a1 a2 a3 x4 v359.2
                                                              else
                                                                none
                                                              else none
                                                            else
                                                              f_Q_law_1811 L xs (f_Q_law_23 L xs n) a1 a2 a3 x4 v359.2
                                                          else
                                                            none
                                                          else none
                                                          else none
                                                          else none
                                                          else none
                                                          else none
                                                          else none
                                                        else
                                                          if ((xs x4.toNatClampNeg) &&& (31 : Int32)) = 26 then
                                                            if ib (x4 + (1 : Int32)) L = true then
                                                            (f_Q_save h a1 (xs (x4 + (1 : Int32)).toNatClampNeg) a3).bind fun v369 =>
                                                            if ib (x4 + (1 : Int32)) L = true then
                                                            (f_M_save v369.2 a2 (xs (x4 + (1 : Int32)).toNatClampNeg)).bind fun v372 =>
                                                            (f_M_thrown v372.2 a2).bind fun v374 =>
                                                            if v374 = v369.1 then
                                                              if v369.1 = 0 then
                                                                if ib (0 : Int32) 1 = true then
                                                                if (lg_cmp ((v372.2 a3 (0 : Int32).toNatClampNeg).toInt64) v372.1.toInt64) = 0 then
                                                                  f_Q_law_1867 L xs (f_Q_law_23 L xs n) a1 a2 a3 x4 v372.2
                                                                else
                                                                  none
                                                                else none
                                                              else
                                                                f_Q_law_1867 L xs (f_Q_law_23 L xs n) a1 a2 a3 x4 v372.2
                                                            else
                                                              none
                                                            else none
                                                            else none
                                                          else
                                                            if ((xs x4.toNatClampNeg) &&& (31 : Int32)) = 27 then
                                                              if ib (x4 + (1 : Int32)) L = true then
                                                              (f_Q_restore h a1 (xs (x4 + (1 : Int32)).toNatClampNeg) a3).bind fun v382 =>
                                                              if ib (x4 + (1 : Int32)) L = true then
                                                              (f_M_restore v382.2 a2 (xs (x4 + (1 : Int32)).toNatClampNeg)).bind fun v385 =>
                                                              (f_M_thrown v385.2 a2).bind fun v387 =>
                                                              if v387 = v382.1 then
                                                                if v382.1 = 0 then
                                                                  if ib (0 : Int32) 1 = true then
                                                                  if (lg_cmp ((v385.2 a3 (0 : Int32).toNatClampNeg).toInt64) v385.1.toInt64) = 0 then
                                                                    f_Q_law_1923 L xs (f_Q_law_23 L xs n) a1 a2 a3 x4 v385.2
                                                                  else
                                                                    none
                                                                  else none
                                                                else
                                                                  f_Q_law_1923 L xs (f_Q_law_23 L xs n) a1 a2 a3 x4 v385.2
                                                              else
                                                                none
                                                              else none
                                                              else none
                                                            else
                                                              f_Q_law_1926 L xs (f_Q_law_23 L xs n) a1 a2 a3 x4 h
      else none
set_option maxHeartbeats 40000000 in
theorem x_Q_law_23 {l : Launch} {D : va_G} {ad : Nat → Nat} {aC : Nat → ClassId} (hf : l.flags = flags0) (hI : Inj ad) {L : Nat} {xs : Nat → Int32} : ∀ (n : Nat) {k9 n9 : Nat} {a1 : Nat} {a2 : Nat} {a3 : Nat} {x4 : Int32} {h : HP} {r : Unit}, k9 + 4 * n ≤ 601024 → n9 + 24 * n ≤ 7293034 → knd a1 = 7 → knd a2 = 8 → knd a3 = 13 → alen a3 = 1 → f_Q_law_23 L xs n a1 a2 a3 x4 h = some r → Go l D ad aC room_1 (QL ad L xs) m_Q_law 23 [some (.ref 217), some (.ref a1), some (.ref a2), some (.ref a3), some (.int x4), none, none] [] h k9 n9 := by
  intro n
  induction n with
  | zero => intro k9 n9 a1 a2 a3 x4 h r hk9 hn9 k1 k2 k3 q3 e; exact no_none e
  | succ n ih =>
    intro k9 n9 a1 a2 a3 x4 h r hk9 hn9 k1 k2 k3 q3 e
    rw [f_Q_law_23] at e
    refine Go.run (pc' := 26) [.iload 4, .aload_n 0] (ls' := [some (.ref 217), some (.ref a1), some (.ref a2), some (.ref a3), some (.int x4), none, none]) (st' := [.ref 217, .int x4]) (by decide +kernel) rfl rfl ?_
    refine goSlen (by decide +kernel) ?_
    refine Go.run (pc' := 29) [.iconst 4, .isub] (ls' := [some (.ref 217), some (.ref a1), some (.ref a2), some (.ref a3), some (.int x4), none, none]) (st' := [.int ((nI L) - (4 : Int32)), .int x4]) (by decide +kernel) rfl rfl ?_
    refine Go.ic_gt (off := 1903) (tgt := 1932) (by decide +kernel) (by decide) (fun c1 => ?_) (fun c1 => ?_)
    · replace e := ite_t c1 e
      refine Go.run (pc' := 1933) [.iconst 1] (ls' := [some (.ref 217), some (.ref a1), some (.ref a2), some (.ref a3), some (.int x4), none, none]) (st' := [.int (1 : Int32)]) (by decide +kernel) rfl rfl ?_
      exact goLawRet (by omega) (by omega) (by decide +kernel)
    · replace e := ite_f c1 e
      refine Go.run (pc' := 35) [.aload_n 0, .iload 4] (ls' := [some (.ref 217), some (.ref a1), some (.ref a2), some (.ref a3), some (.int x4), none, none]) (st' := [.int x4, .ref 217]) (by decide +kernel) rfl rfl ?_
      obtain ⟨g2, e⟩ := gd_inv e
      refine goSld g2 (by decide +kernel) ?_
      refine Go.run (pc' := 39) [.bipush (31), .iand] (ls' := [some (.ref 217), some (.ref a1), some (.ref a2), some (.ref a3), some (.int x4), none, none]) (st' := [.int ((xs x4.toNatClampNeg) &&& (31 : Int32))]) (by decide +kernel) rfl rfl ?_
      rcases Decidable.em (((xs x4.toNatClampNeg) &&& (31 : Int32)) = 0) with c3 | c3
      · replace e := ite_t c3 e
        refine Go.tsIn (dflt := 1887) (lo := 0) (hi := 27) (offs := #[125, 181, 194, 207, 251, 307, 375, 455, 523, 591, 647, 715, 771, 851, 931, 1011, 1067, 1135, 1191, 1259, 1303, 1383, 1451, 1507, 1575, 1675, 1775, 1831]) (len := 125) (off := 125) (tgt := 164) 0 (by decide +kernel) (by rw [c3]; decide) (by decide) (by decide) (by decide) (by decide) ?_
        refine Go.run (pc' := 170) [.aload_n 1, .aload_n 0, .iload 4, .iconst 1, .iadd] (ls' := [some (.ref 217), some (.ref a1), some (.ref a2), some (.ref a3), some (.int x4), none, none]) (st' := [.int (x4 + (1 : Int32)), .ref 217, .ref a1]) (by decide +kernel) rfl rfl ?_
        obtain ⟨g4, e⟩ := gd_inv e
        refine goSld g4 (by decide +kernel) ?_
        refine Go.run (pc' := 172) [.aload_n 3] (ls' := [some (.ref 217), some (.ref a1), some (.ref a2), some (.ref a3), some (.int x4), none, none]) (st' := [.ref a3, .int (xs (x4 + (1 : Int32)).toNatClampNeg), .ref a1]) (by decide +kernel) rfl rfl ?_
        obtain ⟨v5, e6, e⟩ := bd_inv e
        refine Go.callH (M2 := m_Q_append) (as := [.ref a1, .int (xs (x4 + (1 : Int32)).toNatClampNeg), .ref a3]) (rest := []) (v := some (.int v5.1)) (h1 := v5.2) (x_Q_append hf hI k1 k3 e6) wh_Q_103 (by decide +kernel) rfl rfl ⟨⟨Nat.le_of_ble_eq_true rfl, Nat.le_of_ble_eq_true rfl⟩, ⟨(by show k9 + 2 ≤ 601024; omega), (by show n9 + 12 ≤ 7293034; omega)⟩⟩ (Nat.le_of_ble_eq_true rfl) ?_
        show Go l D ad aC room_1 _ m_Q_law 175 [some (.ref 217), some (.ref a1), some (.ref a2), some (.ref a3), some (.int x4), none, none] [.int v5.1] v5.2 (k9 + 2) (n9 + 12)
        refine Go.run (pc' := 183) [.istore 5, .aload_n 2, .aload_n 0, .iload 4, .iconst 1, .iadd] (ls' := [some (.ref 217), some (.ref a1), some (.ref a2), some (.ref a3), some (.int x4), some (.int v5.1), none]) (st' := [.int (x4 + (1 : Int32)), .ref 217, .ref a2]) (by decide +kernel) rfl rfl ?_
        obtain ⟨g7, e⟩ := gd_inv e
        refine goSld g7 (by decide +kernel) ?_
        obtain ⟨v8, e9, e⟩ := bd_inv e
        refine Go.callV (M2 := m_M_append) (a := a2) (as := [.int (xs (x4 + (1 : Int32)).toNatClampNeg)]) (rest := []) (v := some (.int v8.1)) (h1 := v8.2) (x_M_append hf hI k2 e9) wv_Q_108 k2 kc_8 (by decide +kernel) rfl rfl ⟨⟨Nat.le_of_ble_eq_true rfl, Nat.le_of_ble_eq_true rfl⟩, ⟨(by show k9 + 2 + 0 ≤ 601024; omega), (by show n9 + 12 + 0 ≤ 7293034; omega)⟩⟩ (Nat.le_of_ble_eq_true rfl) ?_
        show Go l D ad aC room_1 _ m_Q_law 187 [some (.ref 217), some (.ref a1), some (.ref a2), some (.ref a3), some (.int x4), some (.int v5.1), none] [.int v8.1] v8.2 (k9 + 2) (n9 + 12)
        refine Go.run (pc' := 190) [.istore 6, .aload_n 2] (ls' := [some (.ref 217), some (.ref a1), some (.ref a2), some (.ref a3), some (.int x4), some (.int v5.1), some (.int v8.1)]) (st' := [.ref a2]) (by decide +kernel) rfl rfl ?_
        obtain ⟨v10, e11, e⟩ := bd_inv e
        refine Go.callV (M2 := m_M_thrown) (a := a2) (as := []) (rest := []) (v := some (.int v10)) (h1 := v8.2) (x_M_thrown hf hI k2 e11) wv_Q_109 k2 kc_8 (by decide +kernel) rfl rfl ⟨⟨Nat.le_of_ble_eq_true rfl, Nat.le_of_ble_eq_true rfl⟩, ⟨(by show k9 + 2 + 0 ≤ 601024; omega), (by show n9 + 12 + 0 ≤ 7293034; omega)⟩⟩ (Nat.le_of_ble_eq_true rfl) ?_
        show Go l D ad aC room_1 _ m_Q_law 193 [some (.ref 217), some (.ref a1), some (.ref a2), some (.ref a3), some (.int x4), some (.int v5.1), some (.int v8.1)] [.int v10] v8.2 (k9 + 2) (n9 + 12)
        refine Go.run (pc' := 195) [.iload 5] (ls' := [some (.ref 217), some (.ref a1), some (.ref a2), some (.ref a3), some (.int x4), some (.int v5.1), some (.int v8.1)]) (st' := [.int v5.1, .int v10]) (by decide +kernel) rfl rfl ?_
        refine Go.ic_eq (off := 5) (tgt := 200) (by decide +kernel) (by decide) (fun c12 => ?_) (fun c12 => ?_)
        · replace e := ite_t c12 e
          refine Go.run (pc' := 202) [.iload 5] (ls' := [some (.ref 217), some (.ref a1), some (.ref a2), some (.ref a3), some (.int x4), some (.int v5.1), some (.int v8.1)]) (st' := [.int v5.1]) (by decide +kernel) rfl rfl ?_
          refine Go.if_ne (off := 15) (tgt := 217) (by decide +kernel) (by decide) (fun c13 => ?_) (fun c13 => ?_)
          · replace e := ite_f c13 e
            refine Go.wid (k' := k9 + 4) (n' := n9 + 24) (by omega) (by omega) ?_
            refine Go.wk' (wks (wks (wks (wks (wks (wkn (wkn wk0))))))) ?_
            exact x_Q_law_217 hf hI (by omega) (by omega) (fun kk1 kk2 kk3 qq3 e => ih (by omega) (by omega) kk1 kk2 kk3 qq3 e) k1 k2 k3 q3 e
          · replace e := ite_t c13 e
            refine Go.run (pc' := 207) [.aload_n 3, .iconst 0] (ls' := [some (.ref 217), some (.ref a1), some (.ref a2), some (.ref a3), some (.int x4), some (.int v5.1), some (.int v8.1)]) (st' := [.int (0 : Int32), .ref a3]) (by decide +kernel) rfl rfl ?_
            obtain ⟨g14, e⟩ := gd_inv e
            refine Go.lald k3 q3 g14 (by decide +kernel) ?_
            refine Go.run (pc' := 212) [.iload 6, .i2l, .lcmp] (ls' := [some (.ref 217), some (.ref a1), some (.ref a2), some (.ref a3), some (.int x4), some (.int v5.1), some (.int v8.1)]) (st' := [.int (lg_cmp ((v8.2 a3 (0 : Int32).toNatClampNeg).toInt64) v8.1.toInt64)]) (by decide +kernel) rfl rfl ?_
            refine Go.if_eq (off := 5) (tgt := 217) (by decide +kernel) (by decide) (fun c15 => ?_) (fun c15 => ?_)
            · replace e := ite_t c15 e
              refine Go.wid (k' := k9 + 4) (n' := n9 + 24) (by omega) (by omega) ?_
              refine Go.wk' (wks (wks (wks (wks (wks (wkn (wkn wk0))))))) ?_
              exact x_Q_law_217 hf hI (by omega) (by omega) (fun kk1 kk2 kk3 qq3 e => ih (by omega) (by omega) kk1 kk2 kk3 qq3 e) k1 k2 k3 q3 e
            · replace e := ite_f c15 e
              refine Go.run (pc' := 216) [.iconst 0] (ls' := [some (.ref 217), some (.ref a1), some (.ref a2), some (.ref a3), some (.int x4), some (.int v5.1), some (.int v8.1)]) (st' := [.int (0 : Int32)]) (by decide +kernel) rfl rfl ?_
              exact no_none e
        · replace e := ite_f c12 e
          refine Go.run (pc' := 199) [.iconst 0] (ls' := [some (.ref 217), some (.ref a1), some (.ref a2), some (.ref a3), some (.int x4), some (.int v5.1), some (.int v8.1)]) (st' := [.int (0 : Int32)]) (by decide +kernel) rfl rfl ?_
          exact no_none e
      replace e := ite_f c3 e
      rcases Decidable.em (((xs x4.toNatClampNeg) &&& (31 : Int32)) = 1) with c16 | c16
      · replace e := ite_t c16 e
        refine Go.tsIn (dflt := 1887) (lo := 0) (hi := 27) (offs := #[125, 181, 194, 207, 251, 307, 375, 455, 523, 591, 647, 715, 771, 851, 931, 1011, 1067, 1135, 1191, 1259, 1303, 1383, 1451, 1507, 1575, 1675, 1775, 1831]) (len := 125) (off := 181) (tgt := 220) 1 (by decide +kernel) (by rw [c16]; decide) (by decide) (by decide) (by decide) (by decide) ?_
        refine Go.run (pc' := 221) [.aload_n 1] (ls' := [some (.ref 217), some (.ref a1), some (.ref a2), some (.ref a3), some (.int x4), none, none]) (st' := [.ref a1]) (by decide +kernel) rfl rfl ?_
        obtain ⟨v17, e18, e⟩ := bd_inv e
        refine Go.callV (M2 := m_F_clearText) (a := a1) (as := []) (rest := []) (v := some (.int v17.1)) (h1 := v17.2) (x_F_clearText hf hI k1 e18) wv_Q_112 k1 kc_7 (by decide +kernel) rfl rfl ⟨⟨Nat.le_of_ble_eq_true rfl, Nat.le_of_ble_eq_true rfl⟩, ⟨(by show k9 + 0 ≤ 601024; omega), (by show n9 + 0 ≤ 7293034; omega)⟩⟩ (Nat.le_of_ble_eq_true rfl) ?_
        show Go l D ad aC room_1 _ m_Q_law 224 [some (.ref 217), some (.ref a1), some (.ref a2), some (.ref a3), some (.int x4), none, none] [.int v17.1] v17.2 k9 n9
        refine Go.run (pc' := 225) [.aload_n 2] (ls' := [some (.ref 217), some (.ref a1), some (.ref a2), some (.ref a3), some (.int x4), none, none]) (st' := [.ref a2, .int v17.1]) (by decide +kernel) rfl rfl ?_
        obtain ⟨v19, e20, e⟩ := bd_inv e
        refine Go.callV (M2 := m_M_clearText) (a := a2) (as := []) (rest := [.int v17.1]) (v := some (.int v19.1)) (h1 := v19.2) (x_M_clearText hf hI k2 e20) wv_Q_115 k2 kc_8 (by decide +kernel) rfl rfl ⟨⟨Nat.le_of_ble_eq_true rfl, Nat.le_of_ble_eq_true rfl⟩, ⟨(by show k9 + 0 ≤ 601024; omega), (by show n9 + 0 ≤ 7293034; omega)⟩⟩ (Nat.le_of_ble_eq_true rfl) ?_
        show Go l D ad aC room_1 _ m_Q_law 228 [some (.ref 217), some (.ref a1), some (.ref a2), some (.ref a3), some (.int x4), none, none] [.int v19.1, .int v17.1] v19.2 k9 n9
        refine Go.ic_eq (off := 1698) (tgt := 1926) (by decide +kernel) (by decide) (fun c21 => ?_) (fun c21 => ?_)
        · replace e := ite_t c21 e
          refine Go.wid (k' := k9 + 4) (n' := n9 + 24) (by omega) (by omega) ?_
          exact x_Q_law_1926 hf hI (by omega) (by omega) (fun kk1 kk2 kk3 qq3 e => ih (by omega) (by omega) kk1 kk2 kk3 qq3 e) k1 k2 k3 q3 e
        · replace e := ite_f c21 e
          refine Go.run (pc' := 232) [.iconst 0] (ls' := [some (.ref 217), some (.ref a1), some (.ref a2), some (.ref a3), some (.int x4), none, none]) (st' := [.int (0 : Int32)]) (by decide +kernel) rfl rfl ?_
          exact no_none e
      replace e := ite_f c16 e
      rcases Decidable.em (((xs x4.toNatClampNeg) &&& (31 : Int32)) = 2) with c22 | c22
      · replace e := ite_t c22 e
        refine Go.tsIn (dflt := 1887) (lo := 0) (hi := 27) (offs := #[125, 181, 194, 207, 251, 307, 375, 455, 523, 591, 647, 715, 771, 851, 931, 1011, 1067, 1135, 1191, 1259, 1303, 1383, 1451, 1507, 1575, 1675, 1775, 1831]) (len := 125) (off := 194) (tgt := 233) 2 (by decide +kernel) (by rw [c22]; decide) (by decide) (by decide) (by decide) (by decide) ?_
        refine Go.run (pc' := 234) [.aload_n 1] (ls' := [some (.ref 217), some (.ref a1), some (.ref a2), some (.ref a3), some (.int x4), none, none]) (st' := [.ref a1]) (by decide +kernel) rfl rfl ?_
        obtain ⟨v23, e24, e⟩ := bd_inv e
        refine Go.callV (M2 := m_F_errorPosition) (a := a1) (as := []) (rest := []) (v := some (.int v23.1)) (h1 := v23.2) (x_F_errorPosition hf hI k1 e24) wv_Q_116 k1 kc_7 (by decide +kernel) rfl rfl ⟨⟨Nat.le_of_ble_eq_true rfl, Nat.le_of_ble_eq_true rfl⟩, ⟨(by show k9 + 0 ≤ 601024; omega), (by show n9 + 0 ≤ 7293034; omega)⟩⟩ (Nat.le_of_ble_eq_true rfl) ?_
        show Go l D ad aC room_1 _ m_Q_law 237 [some (.ref 217), some (.ref a1), some (.ref a2), some (.ref a3), some (.int x4), none, none] [.int v23.1] v23.2 k9 n9
        refine Go.run (pc' := 238) [.aload_n 2] (ls' := [some (.ref 217), some (.ref a1), some (.ref a2), some (.ref a3), some (.int x4), none, none]) (st' := [.ref a2, .int v23.1]) (by decide +kernel) rfl rfl ?_
        obtain ⟨v25, e26, e⟩ := bd_inv e
        refine Go.callV (M2 := m_M_errorPosition) (a := a2) (as := []) (rest := [.int v23.1]) (v := some (.int v25.1)) (h1 := v25.2) (x_M_errorPosition hf hI k2 e26) wv_Q_119 k2 kc_8 (by decide +kernel) rfl rfl ⟨⟨Nat.le_of_ble_eq_true rfl, Nat.le_of_ble_eq_true rfl⟩, ⟨(by show k9 + 0 ≤ 601024; omega), (by show n9 + 0 ≤ 7293034; omega)⟩⟩ (Nat.le_of_ble_eq_true rfl) ?_
        show Go l D ad aC room_1 _ m_Q_law 241 [some (.ref 217), some (.ref a1), some (.ref a2), some (.ref a3), some (.int x4), none, none] [.int v25.1, .int v23.1] v25.2 k9 n9
        refine Go.ic_eq (off := 1685) (tgt := 1926) (by decide +kernel) (by decide) (fun c27 => ?_) (fun c27 => ?_)
        · replace e := ite_t c27 e
          refine Go.wid (k' := k9 + 4) (n' := n9 + 24) (by omega) (by omega) ?_
          exact x_Q_law_1926 hf hI (by omega) (by omega) (fun kk1 kk2 kk3 qq3 e => ih (by omega) (by omega) kk1 kk2 kk3 qq3 e) k1 k2 k3 q3 e
        · replace e := ite_f c27 e
          refine Go.run (pc' := 245) [.iconst 0] (ls' := [some (.ref 217), some (.ref a1), some (.ref a2), some (.ref a3), some (.int x4), none, none]) (st' := [.int (0 : Int32)]) (by decide +kernel) rfl rfl ?_
          exact no_none e
      replace e := ite_f c22 e
      rcases Decidable.em (((xs x4.toNatClampNeg) &&& (31 : Int32)) = 3) with c28 | c28
      · replace e := ite_t c28 e
        refine Go.tsIn (dflt := 1887) (lo := 0) (hi := 27) (offs := #[125, 181, 194, 207, 251, 307, 375, 455, 523, 591, 647, 715, 771, 851, 931, 1011, 1067, 1135, 1191, 1259, 1303, 1383, 1451, 1507, 1575, 1675, 1775, 1831]) (len := 125) (off := 207) (tgt := 246) 3 (by decide +kernel) (by rw [c28]; decide) (by decide) (by decide) (by decide) (by decide) ?_
        refine Go.run (pc' := 248) [.aload_n 1, .aload_n 3] (ls' := [some (.ref 217), some (.ref a1), some (.ref a2), some (.ref a3), some (.int x4), none, none]) (st' := [.ref a3, .ref a1]) (by decide +kernel) rfl rfl ?_
        obtain ⟨v29, e30, e⟩ := bd_inv e
        refine Go.callH (M2 := m_Q_load) (as := [.ref a1, .ref a3]) (rest := []) (v := some (.int v29.1)) (h1 := v29.2) (x_Q_load hf hI k1 k3 e30) wh_Q_120 (by decide +kernel) rfl rfl ⟨⟨Nat.le_of_ble_eq_true rfl, Nat.le_of_ble_eq_true rfl⟩, ⟨(by show k9 + 1 ≤ 601024; omega), (by show n9 + 6 ≤ 7293034; omega)⟩⟩ (Nat.le_of_ble_eq_true rfl) ?_
        show Go l D ad aC room_1 _ m_Q_law 251 [some (.ref 217), some (.ref a1), some (.ref a2), some (.ref a3), some (.int x4), none, none] [.int v29.1] v29.2 (k9 + 1) (n9 + 6)
        refine Go.run (pc' := 254) [.istore 5, .aload_n 2] (ls' := [some (.ref 217), some (.ref a1), some (.ref a2), some (.ref a3), some (.int x4), some (.int v29.1), none]) (st' := [.ref a2]) (by decide +kernel) rfl rfl ?_
        obtain ⟨v31, e32, e⟩ := bd_inv e
        refine Go.callV (M2 := m_M_load) (a := a2) (as := []) (rest := []) (v := some (.int v31.1)) (h1 := v31.2) (x_M_load hf hI k2 e32) wv_Q_123 k2 kc_8 (by decide +kernel) rfl rfl ⟨⟨Nat.le_of_ble_eq_true rfl, Nat.le_of_ble_eq_true rfl⟩, ⟨(by show k9 + 1 + 0 ≤ 601024; omega), (by show n9 + 6 + 0 ≤ 7293034; omega)⟩⟩ (Nat.le_of_ble_eq_true rfl) ?_
        show Go l D ad aC room_1 _ m_Q_law 257 [some (.ref 217), some (.ref a1), some (.ref a2), some (.ref a3), some (.int x4), some (.int v29.1), none] [.int v31.1] v31.2 (k9 + 1) (n9 + 6)
        refine Go.run (pc' := 260) [.istore 6, .aload_n 2] (ls' := [some (.ref 217), some (.ref a1), some (.ref a2), some (.ref a3), some (.int x4), some (.int v29.1), some (.int v31.1)]) (st' := [.ref a2]) (by decide +kernel) rfl rfl ?_
        obtain ⟨v33, e34, e⟩ := bd_inv e
        refine Go.callV (M2 := m_M_thrown) (a := a2) (as := []) (rest := []) (v := some (.int v33)) (h1 := v31.2) (x_M_thrown hf hI k2 e34) wv_Q_109 k2 kc_8 (by decide +kernel) rfl rfl ⟨⟨Nat.le_of_ble_eq_true rfl, Nat.le_of_ble_eq_true rfl⟩, ⟨(by show k9 + 1 + 0 ≤ 601024; omega), (by show n9 + 6 + 0 ≤ 7293034; omega)⟩⟩ (Nat.le_of_ble_eq_true rfl) ?_
        show Go l D ad aC room_1 _ m_Q_law 263 [some (.ref 217), some (.ref a1), some (.ref a2), some (.ref a3), some (.int x4), some (.int v29.1), some (.int v31.1)] [.int v33] v31.2 (k9 + 1) (n9 + 6)
        refine Go.run (pc' := 265) [.iload 5] (ls' := [some (.ref 217), some (.ref a1), some (.ref a2), some (.ref a3), some (.int x4), some (.int v29.1), some (.int v31.1)]) (st' := [.int v29.1, .int v33]) (by decide +kernel) rfl rfl ?_
        refine Go.ic_eq (off := 5) (tgt := 270) (by decide +kernel) (by decide) (fun c35 => ?_) (fun c35 => ?_)
        · replace e := ite_t c35 e
          refine Go.run (pc' := 272) [.iload 5] (ls' := [some (.ref 217), some (.ref a1), some (.ref a2), some (.ref a3), some (.int x4), some (.int v29.1), some (.int v31.1)]) (st' := [.int v29.1]) (by decide +kernel) rfl rfl ?_
          refine Go.if_ne (off := 15) (tgt := 287) (by decide +kernel) (by decide) (fun c36 => ?_) (fun c36 => ?_)
          · replace e := ite_f c36 e
            refine Go.wid (k' := k9 + 4) (n' := n9 + 24) (by omega) (by omega) ?_
            refine Go.wk' (wks (wks (wks (wks (wks (wkn (wkn wk0))))))) ?_
            exact x_Q_law_287 hf hI (by omega) (by omega) (fun kk1 kk2 kk3 qq3 e => ih (by omega) (by omega) kk1 kk2 kk3 qq3 e) k1 k2 k3 q3 e
          · replace e := ite_t c36 e
            refine Go.run (pc' := 277) [.aload_n 3, .iconst 0] (ls' := [some (.ref 217), some (.ref a1), some (.ref a2), some (.ref a3), some (.int x4), some (.int v29.1), some (.int v31.1)]) (st' := [.int (0 : Int32), .ref a3]) (by decide +kernel) rfl rfl ?_
            obtain ⟨g37, e⟩ := gd_inv e
            refine Go.lald k3 q3 g37 (by decide +kernel) ?_
            refine Go.run (pc' := 282) [.iload 6, .i2l, .lcmp] (ls' := [some (.ref 217), some (.ref a1), some (.ref a2), some (.ref a3), some (.int x4), some (.int v29.1), some (.int v31.1)]) (st' := [.int (lg_cmp ((v31.2 a3 (0 : Int32).toNatClampNeg).toInt64) v31.1.toInt64)]) (by decide +kernel) rfl rfl ?_
            refine Go.if_eq (off := 5) (tgt := 287) (by decide +kernel) (by decide) (fun c38 => ?_) (fun c38 => ?_)
            · replace e := ite_t c38 e
              refine Go.wid (k' := k9 + 4) (n' := n9 + 24) (by omega) (by omega) ?_
              refine Go.wk' (wks (wks (wks (wks (wks (wkn (wkn wk0))))))) ?_
              exact x_Q_law_287 hf hI (by omega) (by omega) (fun kk1 kk2 kk3 qq3 e => ih (by omega) (by omega) kk1 kk2 kk3 qq3 e) k1 k2 k3 q3 e
            · replace e := ite_f c38 e
              refine Go.run (pc' := 286) [.iconst 0] (ls' := [some (.ref 217), some (.ref a1), some (.ref a2), some (.ref a3), some (.int x4), some (.int v29.1), some (.int v31.1)]) (st' := [.int (0 : Int32)]) (by decide +kernel) rfl rfl ?_
              exact no_none e
        · replace e := ite_f c35 e
          refine Go.run (pc' := 269) [.iconst 0] (ls' := [some (.ref 217), some (.ref a1), some (.ref a2), some (.ref a3), some (.int x4), some (.int v29.1), some (.int v31.1)]) (st' := [.int (0 : Int32)]) (by decide +kernel) rfl rfl ?_
          exact no_none e
      replace e := ite_f c28 e
      rcases Decidable.em (((xs x4.toNatClampNeg) &&& (31 : Int32)) = 4) with c39 | c39
      · replace e := ite_t c39 e
        refine Go.tsIn (dflt := 1887) (lo := 0) (hi := 27) (offs := #[125, 181, 194, 207, 251, 307, 375, 455, 523, 591, 647, 715, 771, 851, 931, 1011, 1067, 1135, 1191, 1259, 1303, 1383, 1451, 1507, 1575, 1675, 1775, 1831]) (len := 125) (off := 251) (tgt := 290) 4 (by decide +kernel) (by rw [c39]; decide) (by decide) (by decide) (by decide) (by decide) ?_
        refine Go.run (pc' := 296) [.aload_n 1, .aload_n 0, .iload 4, .iconst 1, .iadd] (ls' := [some (.ref 217), some (.ref a1), some (.ref a2), some (.ref a3), some (.int x4), none, none]) (st' := [.int (x4 + (1 : Int32)), .ref 217, .ref a1]) (by decide +kernel) rfl rfl ?_
        obtain ⟨g40, e⟩ := gd_inv e
        refine goSld g40 (by decide +kernel) ?_
        refine Go.run (pc' := 298) [.aload_n 3] (ls' := [some (.ref 217), some (.ref a1), some (.ref a2), some (.ref a3), some (.int x4), none, none]) (st' := [.ref a3, .int (xs (x4 + (1 : Int32)).toNatClampNeg), .ref a1]) (by decide +kernel) rfl rfl ?_
        obtain ⟨v41, e42, e⟩ := bd_inv e
        refine Go.callH (M2 := m_Q_about) (as := [.ref a1, .int (xs (x4 + (1 : Int32)).toNatClampNeg), .ref a3]) (rest := []) (v := some (.int v41.1)) (h1 := v41.2) (x_Q_about hf hI k1 k3 e42) wh_Q_124 (by decide +kernel) rfl rfl ⟨⟨Nat.le_of_ble_eq_true rfl, Nat.le_of_ble_eq_true rfl⟩, ⟨(by show k9 + 1 ≤ 601024; omega), (by show n9 + 6 ≤ 7293034; omega)⟩⟩ (Nat.le_of_ble_eq_true rfl) ?_
        show Go l D ad aC room_1 _ m_Q_law 301 [some (.ref 217), some (.ref a1), some (.ref a2), some (.ref a3), some (.int x4), none, none] [.int v41.1] v41.2 (k9 + 1) (n9 + 6)
        refine Go.run (pc' := 309) [.istore 5, .aload_n 2, .aload_n 0, .iload 4, .iconst 1, .iadd] (ls' := [some (.ref 217), some (.ref a1), some (.ref a2), some (.ref a3), some (.int x4), some (.int v41.1), none]) (st' := [.int (x4 + (1 : Int32)), .ref 217, .ref a2]) (by decide +kernel) rfl rfl ?_
        obtain ⟨g43, e⟩ := gd_inv e
        refine goSld g43 (by decide +kernel) ?_
        obtain ⟨v44, e45, e⟩ := bd_inv e
        refine Go.callV (M2 := m_M_about) (a := a2) (as := [.int (xs (x4 + (1 : Int32)).toNatClampNeg)]) (rest := []) (v := some (.int v44.1)) (h1 := v44.2) (x_M_about hf hI k2 e45) wv_Q_126 k2 kc_8 (by decide +kernel) rfl rfl ⟨⟨Nat.le_of_ble_eq_true rfl, Nat.le_of_ble_eq_true rfl⟩, ⟨(by show k9 + 1 + 0 ≤ 601024; omega), (by show n9 + 6 + 0 ≤ 7293034; omega)⟩⟩ (Nat.le_of_ble_eq_true rfl) ?_
        show Go l D ad aC room_1 _ m_Q_law 313 [some (.ref 217), some (.ref a1), some (.ref a2), some (.ref a3), some (.int x4), some (.int v41.1), none] [.int v44.1] v44.2 (k9 + 1) (n9 + 6)
        refine Go.run (pc' := 316) [.istore 6, .aload_n 2] (ls' := [some (.ref 217), some (.ref a1), some (.ref a2), some (.ref a3), some (.int x4), some (.int v41.1), some (.int v44.1)]) (st' := [.ref a2]) (by decide +kernel) rfl rfl ?_
        obtain ⟨v46, e47, e⟩ := bd_inv e
        refine Go.callV (M2 := m_M_thrown) (a := a2) (as := []) (rest := []) (v := some (.int v46)) (h1 := v44.2) (x_M_thrown hf hI k2 e47) wv_Q_109 k2 kc_8 (by decide +kernel) rfl rfl ⟨⟨Nat.le_of_ble_eq_true rfl, Nat.le_of_ble_eq_true rfl⟩, ⟨(by show k9 + 1 + 0 ≤ 601024; omega), (by show n9 + 6 + 0 ≤ 7293034; omega)⟩⟩ (Nat.le_of_ble_eq_true rfl) ?_
        show Go l D ad aC room_1 _ m_Q_law 319 [some (.ref 217), some (.ref a1), some (.ref a2), some (.ref a3), some (.int x4), some (.int v41.1), some (.int v44.1)] [.int v46] v44.2 (k9 + 1) (n9 + 6)
        refine Go.run (pc' := 321) [.iload 5] (ls' := [some (.ref 217), some (.ref a1), some (.ref a2), some (.ref a3), some (.int x4), some (.int v41.1), some (.int v44.1)]) (st' := [.int v41.1, .int v46]) (by decide +kernel) rfl rfl ?_
        refine Go.ic_eq (off := 5) (tgt := 326) (by decide +kernel) (by decide) (fun c48 => ?_) (fun c48 => ?_)
        · replace e := ite_t c48 e
          refine Go.run (pc' := 328) [.iload 5] (ls' := [some (.ref 217), some (.ref a1), some (.ref a2), some (.ref a3), some (.int x4), some (.int v41.1), some (.int v44.1)]) (st' := [.int v41.1]) (by decide +kernel) rfl rfl ?_
          refine Go.if_ne (off := 15) (tgt := 343) (by decide +kernel) (by decide) (fun c49 => ?_) (fun c49 => ?_)
          · replace e := ite_f c49 e
            refine Go.wid (k' := k9 + 4) (n' := n9 + 24) (by omega) (by omega) ?_
            refine Go.wk' (wks (wks (wks (wks (wks (wkn (wkn wk0))))))) ?_
            exact x_Q_law_343 hf hI (by omega) (by omega) (fun kk1 kk2 kk3 qq3 e => ih (by omega) (by omega) kk1 kk2 kk3 qq3 e) k1 k2 k3 q3 e
          · replace e := ite_t c49 e
            refine Go.run (pc' := 333) [.aload_n 3, .iconst 0] (ls' := [some (.ref 217), some (.ref a1), some (.ref a2), some (.ref a3), some (.int x4), some (.int v41.1), some (.int v44.1)]) (st' := [.int (0 : Int32), .ref a3]) (by decide +kernel) rfl rfl ?_
            obtain ⟨g50, e⟩ := gd_inv e
            refine Go.lald k3 q3 g50 (by decide +kernel) ?_
            refine Go.run (pc' := 338) [.iload 6, .i2l, .lcmp] (ls' := [some (.ref 217), some (.ref a1), some (.ref a2), some (.ref a3), some (.int x4), some (.int v41.1), some (.int v44.1)]) (st' := [.int (lg_cmp ((v44.2 a3 (0 : Int32).toNatClampNeg).toInt64) v44.1.toInt64)]) (by decide +kernel) rfl rfl ?_
            refine Go.if_eq (off := 5) (tgt := 343) (by decide +kernel) (by decide) (fun c51 => ?_) (fun c51 => ?_)
            · replace e := ite_t c51 e
              refine Go.wid (k' := k9 + 4) (n' := n9 + 24) (by omega) (by omega) ?_
              refine Go.wk' (wks (wks (wks (wks (wks (wkn (wkn wk0))))))) ?_
              exact x_Q_law_343 hf hI (by omega) (by omega) (fun kk1 kk2 kk3 qq3 e => ih (by omega) (by omega) kk1 kk2 kk3 qq3 e) k1 k2 k3 q3 e
            · replace e := ite_f c51 e
              refine Go.run (pc' := 342) [.iconst 0] (ls' := [some (.ref 217), some (.ref a1), some (.ref a2), some (.ref a3), some (.int x4), some (.int v41.1), some (.int v44.1)]) (st' := [.int (0 : Int32)]) (by decide +kernel) rfl rfl ?_
              exact no_none e
        · replace e := ite_f c48 e
          refine Go.run (pc' := 325) [.iconst 0] (ls' := [some (.ref 217), some (.ref a1), some (.ref a2), some (.ref a3), some (.int x4), some (.int v41.1), some (.int v44.1)]) (st' := [.int (0 : Int32)]) (by decide +kernel) rfl rfl ?_
          exact no_none e
      replace e := ite_f c39 e
      rcases Decidable.em (((xs x4.toNatClampNeg) &&& (31 : Int32)) = 5) with c52 | c52
      · replace e := ite_t c52 e
        refine Go.tsIn (dflt := 1887) (lo := 0) (hi := 27) (offs := #[125, 181, 194, 207, 251, 307, 375, 455, 523, 591, 647, 715, 771, 851, 931, 1011, 1067, 1135, 1191, 1259, 1303, 1383, 1451, 1507, 1575, 1675, 1775, 1831]) (len := 125) (off := 307) (tgt := 346) 5 (by decide +kernel) (by rw [c52]; decide) (by decide) (by decide) (by decide) (by decide) ?_
        refine Go.run (pc' := 352) [.aload_n 1, .aload_n 0, .iload 4, .iconst 1, .iadd] (ls' := [some (.ref 217), some (.ref a1), some (.ref a2), some (.ref a3), some (.int x4), none, none]) (st' := [.int (x4 + (1 : Int32)), .ref 217, .ref a1]) (by decide +kernel) rfl rfl ?_
        obtain ⟨g53, e⟩ := gd_inv e
        refine goSld g53 (by decide +kernel) ?_
        refine Go.run (pc' := 358) [.aload_n 0, .iload 4, .iconst 2, .iadd] (ls' := [some (.ref 217), some (.ref a1), some (.ref a2), some (.ref a3), some (.int x4), none, none]) (st' := [.int (x4 + (2 : Int32)), .ref 217, .int (xs (x4 + (1 : Int32)).toNatClampNeg), .ref a1]) (by decide +kernel) rfl rfl ?_
        obtain ⟨g54, e⟩ := gd_inv e
        refine goSld g54 (by decide +kernel) ?_
        refine Go.run (pc' := 360) [.aload_n 3] (ls' := [some (.ref 217), some (.ref a1), some (.ref a2), some (.ref a3), some (.int x4), none, none]) (st' := [.ref a3, .int (xs (x4 + (2 : Int32)).toNatClampNeg), .int (xs (x4 + (1 : Int32)).toNatClampNeg), .ref a1]) (by decide +kernel) rfl rfl ?_
        obtain ⟨v55, e56, e⟩ := bd_inv e
        refine Go.callH (M2 := m_Q_wallOf) (as := [.ref a1, .int (xs (x4 + (1 : Int32)).toNatClampNeg), .int (xs (x4 + (2 : Int32)).toNatClampNeg), .ref a3]) (rest := []) (v := some (.int v55.1)) (h1 := v55.2) (x_Q_wallOf hf hI k1 k3 e56) wh_Q_127 (by decide +kernel) rfl rfl ⟨⟨Nat.le_of_ble_eq_true rfl, Nat.le_of_ble_eq_true rfl⟩, ⟨(by show k9 + 2 ≤ 601024; omega), (by show n9 + 12 ≤ 7293034; omega)⟩⟩ (Nat.le_of_ble_eq_true rfl) ?_
        show Go l D ad aC room_1 _ m_Q_law 363 [some (.ref 217), some (.ref a1), some (.ref a2), some (.ref a3), some (.int x4), none, none] [.int v55.1] v55.2 (k9 + 2) (n9 + 12)
        refine Go.run (pc' := 371) [.istore 5, .aload_n 2, .aload_n 0, .iload 4, .iconst 1, .iadd] (ls' := [some (.ref 217), some (.ref a1), some (.ref a2), some (.ref a3), some (.int x4), some (.int v55.1), none]) (st' := [.int (x4 + (1 : Int32)), .ref 217, .ref a2]) (by decide +kernel) rfl rfl ?_
        obtain ⟨g57, e⟩ := gd_inv e
        refine goSld g57 (by decide +kernel) ?_
        refine Go.run (pc' := 377) [.aload_n 0, .iload 4, .iconst 2, .iadd] (ls' := [some (.ref 217), some (.ref a1), some (.ref a2), some (.ref a3), some (.int x4), some (.int v55.1), none]) (st' := [.int (x4 + (2 : Int32)), .ref 217, .int (xs (x4 + (1 : Int32)).toNatClampNeg), .ref a2]) (by decide +kernel) rfl rfl ?_
        obtain ⟨g58, e⟩ := gd_inv e
        refine goSld g58 (by decide +kernel) ?_
        obtain ⟨v59, e60, e⟩ := bd_inv e
        refine Go.callV (M2 := m_M_wallOf) (a := a2) (as := [.int (xs (x4 + (1 : Int32)).toNatClampNeg), .int (xs (x4 + (2 : Int32)).toNatClampNeg)]) (rest := []) (v := some (.int v59.1)) (h1 := v59.2) (x_M_wallOf hf hI k2 e60) wv_Q_130 k2 kc_8 (by decide +kernel) rfl rfl ⟨⟨Nat.le_of_ble_eq_true rfl, Nat.le_of_ble_eq_true rfl⟩, ⟨(by show k9 + 2 + 0 ≤ 601024; omega), (by show n9 + 12 + 0 ≤ 7293034; omega)⟩⟩ (Nat.le_of_ble_eq_true rfl) ?_
        show Go l D ad aC room_1 _ m_Q_law 381 [some (.ref 217), some (.ref a1), some (.ref a2), some (.ref a3), some (.int x4), some (.int v55.1), none] [.int v59.1] v59.2 (k9 + 2) (n9 + 12)
        refine Go.run (pc' := 384) [.istore 6, .aload_n 2] (ls' := [some (.ref 217), some (.ref a1), some (.ref a2), some (.ref a3), some (.int x4), some (.int v55.1), some (.int v59.1)]) (st' := [.ref a2]) (by decide +kernel) rfl rfl ?_
        obtain ⟨v61, e62, e⟩ := bd_inv e
        refine Go.callV (M2 := m_M_thrown) (a := a2) (as := []) (rest := []) (v := some (.int v61)) (h1 := v59.2) (x_M_thrown hf hI k2 e62) wv_Q_109 k2 kc_8 (by decide +kernel) rfl rfl ⟨⟨Nat.le_of_ble_eq_true rfl, Nat.le_of_ble_eq_true rfl⟩, ⟨(by show k9 + 2 + 0 ≤ 601024; omega), (by show n9 + 12 + 0 ≤ 7293034; omega)⟩⟩ (Nat.le_of_ble_eq_true rfl) ?_
        show Go l D ad aC room_1 _ m_Q_law 387 [some (.ref 217), some (.ref a1), some (.ref a2), some (.ref a3), some (.int x4), some (.int v55.1), some (.int v59.1)] [.int v61] v59.2 (k9 + 2) (n9 + 12)
        refine Go.run (pc' := 389) [.iload 5] (ls' := [some (.ref 217), some (.ref a1), some (.ref a2), some (.ref a3), some (.int x4), some (.int v55.1), some (.int v59.1)]) (st' := [.int v55.1, .int v61]) (by decide +kernel) rfl rfl ?_
        refine Go.ic_eq (off := 5) (tgt := 394) (by decide +kernel) (by decide) (fun c63 => ?_) (fun c63 => ?_)
        · replace e := ite_t c63 e
          refine Go.run (pc' := 396) [.iload 5] (ls' := [some (.ref 217), some (.ref a1), some (.ref a2), some (.ref a3), some (.int x4), some (.int v55.1), some (.int v59.1)]) (st' := [.int v55.1]) (by decide +kernel) rfl rfl ?_
          refine Go.if_ne (off := 15) (tgt := 411) (by decide +kernel) (by decide) (fun c64 => ?_) (fun c64 => ?_)
          · replace e := ite_f c64 e
            refine Go.wid (k' := k9 + 4) (n' := n9 + 24) (by omega) (by omega) ?_
            refine Go.wk' (wks (wks (wks (wks (wks (wkn (wkn wk0))))))) ?_
            exact x_Q_law_411 hf hI (by omega) (by omega) (fun kk1 kk2 kk3 qq3 e => ih (by omega) (by omega) kk1 kk2 kk3 qq3 e) k1 k2 k3 q3 e
          · replace e := ite_t c64 e
            refine Go.run (pc' := 401) [.aload_n 3, .iconst 0] (ls' := [some (.ref 217), some (.ref a1), some (.ref a2), some (.ref a3), some (.int x4), some (.int v55.1), some (.int v59.1)]) (st' := [.int (0 : Int32), .ref a3]) (by decide +kernel) rfl rfl ?_
            obtain ⟨g65, e⟩ := gd_inv e
            refine Go.lald k3 q3 g65 (by decide +kernel) ?_
            refine Go.run (pc' := 406) [.iload 6, .i2l, .lcmp] (ls' := [some (.ref 217), some (.ref a1), some (.ref a2), some (.ref a3), some (.int x4), some (.int v55.1), some (.int v59.1)]) (st' := [.int (lg_cmp ((v59.2 a3 (0 : Int32).toNatClampNeg).toInt64) v59.1.toInt64)]) (by decide +kernel) rfl rfl ?_
            refine Go.if_eq (off := 5) (tgt := 411) (by decide +kernel) (by decide) (fun c66 => ?_) (fun c66 => ?_)
            · replace e := ite_t c66 e
              refine Go.wid (k' := k9 + 4) (n' := n9 + 24) (by omega) (by omega) ?_
              refine Go.wk' (wks (wks (wks (wks (wks (wkn (wkn wk0))))))) ?_
              exact x_Q_law_411 hf hI (by omega) (by omega) (fun kk1 kk2 kk3 qq3 e => ih (by omega) (by omega) kk1 kk2 kk3 qq3 e) k1 k2 k3 q3 e
            · replace e := ite_f c66 e
              refine Go.run (pc' := 410) [.iconst 0] (ls' := [some (.ref 217), some (.ref a1), some (.ref a2), some (.ref a3), some (.int x4), some (.int v55.1), some (.int v59.1)]) (st' := [.int (0 : Int32)]) (by decide +kernel) rfl rfl ?_
              exact no_none e
        · replace e := ite_f c63 e
          refine Go.run (pc' := 393) [.iconst 0] (ls' := [some (.ref 217), some (.ref a1), some (.ref a2), some (.ref a3), some (.int x4), some (.int v55.1), some (.int v59.1)]) (st' := [.int (0 : Int32)]) (by decide +kernel) rfl rfl ?_
          exact no_none e
      replace e := ite_f c52 e
      rcases Decidable.em (((xs x4.toNatClampNeg) &&& (31 : Int32)) = 6) with c67 | c67
      · replace e := ite_t c67 e
        refine Go.tsIn (dflt := 1887) (lo := 0) (hi := 27) (offs := #[125, 181, 194, 207, 251, 307, 375, 455, 523, 591, 647, 715, 771, 851, 931, 1011, 1067, 1135, 1191, 1259, 1303, 1383, 1451, 1507, 1575, 1675, 1775, 1831]) (len := 125) (off := 375) (tgt := 414) 6 (by decide +kernel) (by rw [c67]; decide) (by decide) (by decide) (by decide) (by decide) ?_
        refine Go.run (pc' := 420) [.aload_n 1, .aload_n 0, .iload 4, .iconst 1, .iadd] (ls' := [some (.ref 217), some (.ref a1), some (.ref a2), some (.ref a3), some (.int x4), none, none]) (st' := [.int (x4 + (1 : Int32)), .ref 217, .ref a1]) (by decide +kernel) rfl rfl ?_
        obtain ⟨g68, e⟩ := gd_inv e
        refine goSld g68 (by decide +kernel) ?_
        refine Go.run (pc' := 426) [.aload_n 0, .iload 4, .iconst 2, .iadd] (ls' := [some (.ref 217), some (.ref a1), some (.ref a2), some (.ref a3), some (.int x4), none, none]) (st' := [.int (x4 + (2 : Int32)), .ref 217, .int (xs (x4 + (1 : Int32)).toNatClampNeg), .ref a1]) (by decide +kernel) rfl rfl ?_
        obtain ⟨g69, e⟩ := gd_inv e
        refine goSld g69 (by decide +kernel) ?_
        refine Go.run (pc' := 432) [.aload_n 0, .iload 4, .iconst 3, .iadd] (ls' := [some (.ref 217), some (.ref a1), some (.ref a2), some (.ref a3), some (.int x4), none, none]) (st' := [.int (x4 + (3 : Int32)), .ref 217, .int (xs (x4 + (2 : Int32)).toNatClampNeg), .int (xs (x4 + (1 : Int32)).toNatClampNeg), .ref a1]) (by decide +kernel) rfl rfl ?_
        obtain ⟨g70, e⟩ := gd_inv e
        refine goSld g70 (by decide +kernel) ?_
        refine Go.run (pc' := 434) [.aload_n 3] (ls' := [some (.ref 217), some (.ref a1), some (.ref a2), some (.ref a3), some (.int x4), none, none]) (st' := [.ref a3, .int (xs (x4 + (3 : Int32)).toNatClampNeg), .int (xs (x4 + (2 : Int32)).toNatClampNeg), .int (xs (x4 + (1 : Int32)).toNatClampNeg), .ref a1]) (by decide +kernel) rfl rfl ?_
        obtain ⟨v71, e72, e⟩ := bd_inv e
        refine Go.callH (M2 := m_Q_metreOf) (as := [.ref a1, .int (xs (x4 + (1 : Int32)).toNatClampNeg), .int (xs (x4 + (2 : Int32)).toNatClampNeg), .int (xs (x4 + (3 : Int32)).toNatClampNeg), .ref a3]) (rest := []) (v := some (.int v71.1)) (h1 := v71.2) (x_Q_metreOf hf hI k1 k3 e72) wh_Q_131 (by decide +kernel) rfl rfl ⟨⟨Nat.le_of_ble_eq_true rfl, Nat.le_of_ble_eq_true rfl⟩, ⟨(by show k9 + 2 ≤ 601024; omega), (by show n9 + 12 ≤ 7293034; omega)⟩⟩ (Nat.le_of_ble_eq_true rfl) ?_
        show Go l D ad aC room_1 _ m_Q_law 437 [some (.ref 217), some (.ref a1), some (.ref a2), some (.ref a3), some (.int x4), none, none] [.int v71.1] v71.2 (k9 + 2) (n9 + 12)
        refine Go.run (pc' := 445) [.istore 5, .aload_n 2, .aload_n 0, .iload 4, .iconst 1, .iadd] (ls' := [some (.ref 217), some (.ref a1), some (.ref a2), some (.ref a3), some (.int x4), some (.int v71.1), none]) (st' := [.int (x4 + (1 : Int32)), .ref 217, .ref a2]) (by decide +kernel) rfl rfl ?_
        obtain ⟨g73, e⟩ := gd_inv e
        refine goSld g73 (by decide +kernel) ?_
        refine Go.run (pc' := 451) [.aload_n 0, .iload 4, .iconst 2, .iadd] (ls' := [some (.ref 217), some (.ref a1), some (.ref a2), some (.ref a3), some (.int x4), some (.int v71.1), none]) (st' := [.int (x4 + (2 : Int32)), .ref 217, .int (xs (x4 + (1 : Int32)).toNatClampNeg), .ref a2]) (by decide +kernel) rfl rfl ?_
        obtain ⟨g74, e⟩ := gd_inv e
        refine goSld g74 (by decide +kernel) ?_
        refine Go.run (pc' := 457) [.aload_n 0, .iload 4, .iconst 3, .iadd] (ls' := [some (.ref 217), some (.ref a1), some (.ref a2), some (.ref a3), some (.int x4), some (.int v71.1), none]) (st' := [.int (x4 + (3 : Int32)), .ref 217, .int (xs (x4 + (2 : Int32)).toNatClampNeg), .int (xs (x4 + (1 : Int32)).toNatClampNeg), .ref a2]) (by decide +kernel) rfl rfl ?_
        obtain ⟨g75, e⟩ := gd_inv e
        refine goSld g75 (by decide +kernel) ?_
        obtain ⟨v76, e77, e⟩ := bd_inv e
        refine Go.callV (M2 := m_M_metreOf) (a := a2) (as := [.int (xs (x4 + (1 : Int32)).toNatClampNeg), .int (xs (x4 + (2 : Int32)).toNatClampNeg), .int (xs (x4 + (3 : Int32)).toNatClampNeg)]) (rest := []) (v := some (.int v76.1)) (h1 := v76.2) (x_M_metreOf hf hI k2 e77) wv_Q_134 k2 kc_8 (by decide +kernel) rfl rfl ⟨⟨Nat.le_of_ble_eq_true rfl, Nat.le_of_ble_eq_true rfl⟩, ⟨(by show k9 + 2 + 0 ≤ 601024; omega), (by show n9 + 12 + 0 ≤ 7293034; omega)⟩⟩ (Nat.le_of_ble_eq_true rfl) ?_
        show Go l D ad aC room_1 _ m_Q_law 461 [some (.ref 217), some (.ref a1), some (.ref a2), some (.ref a3), some (.int x4), some (.int v71.1), none] [.int v76.1] v76.2 (k9 + 2) (n9 + 12)
        refine Go.run (pc' := 464) [.istore 6, .aload_n 2] (ls' := [some (.ref 217), some (.ref a1), some (.ref a2), some (.ref a3), some (.int x4), some (.int v71.1), some (.int v76.1)]) (st' := [.ref a2]) (by decide +kernel) rfl rfl ?_
        obtain ⟨v78, e79, e⟩ := bd_inv e
        refine Go.callV (M2 := m_M_thrown) (a := a2) (as := []) (rest := []) (v := some (.int v78)) (h1 := v76.2) (x_M_thrown hf hI k2 e79) wv_Q_109 k2 kc_8 (by decide +kernel) rfl rfl ⟨⟨Nat.le_of_ble_eq_true rfl, Nat.le_of_ble_eq_true rfl⟩, ⟨(by show k9 + 2 + 0 ≤ 601024; omega), (by show n9 + 12 + 0 ≤ 7293034; omega)⟩⟩ (Nat.le_of_ble_eq_true rfl) ?_
        show Go l D ad aC room_1 _ m_Q_law 467 [some (.ref 217), some (.ref a1), some (.ref a2), some (.ref a3), some (.int x4), some (.int v71.1), some (.int v76.1)] [.int v78] v76.2 (k9 + 2) (n9 + 12)
        refine Go.run (pc' := 469) [.iload 5] (ls' := [some (.ref 217), some (.ref a1), some (.ref a2), some (.ref a3), some (.int x4), some (.int v71.1), some (.int v76.1)]) (st' := [.int v71.1, .int v78]) (by decide +kernel) rfl rfl ?_
        refine Go.ic_eq (off := 5) (tgt := 474) (by decide +kernel) (by decide) (fun c80 => ?_) (fun c80 => ?_)
        · replace e := ite_t c80 e
          refine Go.run (pc' := 476) [.iload 5] (ls' := [some (.ref 217), some (.ref a1), some (.ref a2), some (.ref a3), some (.int x4), some (.int v71.1), some (.int v76.1)]) (st' := [.int v71.1]) (by decide +kernel) rfl rfl ?_
          refine Go.if_ne (off := 15) (tgt := 491) (by decide +kernel) (by decide) (fun c81 => ?_) (fun c81 => ?_)
          · replace e := ite_f c81 e
            refine Go.wid (k' := k9 + 4) (n' := n9 + 24) (by omega) (by omega) ?_
            refine Go.wk' (wks (wks (wks (wks (wks (wkn (wkn wk0))))))) ?_
            exact x_Q_law_491 hf hI (by omega) (by omega) (fun kk1 kk2 kk3 qq3 e => ih (by omega) (by omega) kk1 kk2 kk3 qq3 e) k1 k2 k3 q3 e
          · replace e := ite_t c81 e
            refine Go.run (pc' := 481) [.aload_n 3, .iconst 0] (ls' := [some (.ref 217), some (.ref a1), some (.ref a2), some (.ref a3), some (.int x4), some (.int v71.1), some (.int v76.1)]) (st' := [.int (0 : Int32), .ref a3]) (by decide +kernel) rfl rfl ?_
            obtain ⟨g82, e⟩ := gd_inv e
            refine Go.lald k3 q3 g82 (by decide +kernel) ?_
            refine Go.run (pc' := 486) [.iload 6, .i2l, .lcmp] (ls' := [some (.ref 217), some (.ref a1), some (.ref a2), some (.ref a3), some (.int x4), some (.int v71.1), some (.int v76.1)]) (st' := [.int (lg_cmp ((v76.2 a3 (0 : Int32).toNatClampNeg).toInt64) v76.1.toInt64)]) (by decide +kernel) rfl rfl ?_
            refine Go.if_eq (off := 5) (tgt := 491) (by decide +kernel) (by decide) (fun c83 => ?_) (fun c83 => ?_)
            · replace e := ite_t c83 e
              refine Go.wid (k' := k9 + 4) (n' := n9 + 24) (by omega) (by omega) ?_
              refine Go.wk' (wks (wks (wks (wks (wks (wkn (wkn wk0))))))) ?_
              exact x_Q_law_491 hf hI (by omega) (by omega) (fun kk1 kk2 kk3 qq3 e => ih (by omega) (by omega) kk1 kk2 kk3 qq3 e) k1 k2 k3 q3 e
            · replace e := ite_f c83 e
              refine Go.run (pc' := 490) [.iconst 0] (ls' := [some (.ref 217), some (.ref a1), some (.ref a2), some (.ref a3), some (.int x4), some (.int v71.1), some (.int v76.1)]) (st' := [.int (0 : Int32)]) (by decide +kernel) rfl rfl ?_
              exact no_none e
        · replace e := ite_f c80 e
          refine Go.run (pc' := 473) [.iconst 0] (ls' := [some (.ref 217), some (.ref a1), some (.ref a2), some (.ref a3), some (.int x4), some (.int v71.1), some (.int v76.1)]) (st' := [.int (0 : Int32)]) (by decide +kernel) rfl rfl ?_
          exact no_none e
      replace e := ite_f c67 e
      rcases Decidable.em (((xs x4.toNatClampNeg) &&& (31 : Int32)) = 7) with c84 | c84
      · replace e := ite_t c84 e
        refine Go.tsIn (dflt := 1887) (lo := 0) (hi := 27) (offs := #[125, 181, 194, 207, 251, 307, 375, 455, 523, 591, 647, 715, 771, 851, 931, 1011, 1067, 1135, 1191, 1259, 1303, 1383, 1451, 1507, 1575, 1675, 1775, 1831]) (len := 125) (off := 455) (tgt := 494) 7 (by decide +kernel) (by rw [c84]; decide) (by decide) (by decide) (by decide) (by decide) ?_
        refine Go.run (pc' := 500) [.aload_n 1, .aload_n 0, .iload 4, .iconst 1, .iadd] (ls' := [some (.ref 217), some (.ref a1), some (.ref a2), some (.ref a3), some (.int x4), none, none]) (st' := [.int (x4 + (1 : Int32)), .ref 217, .ref a1]) (by decide +kernel) rfl rfl ?_
        obtain ⟨g85, e⟩ := gd_inv e
        refine goSld g85 (by decide +kernel) ?_
        refine Go.run (pc' := 506) [.aload_n 0, .iload 4, .iconst 2, .iadd] (ls' := [some (.ref 217), some (.ref a1), some (.ref a2), some (.ref a3), some (.int x4), none, none]) (st' := [.int (x4 + (2 : Int32)), .ref 217, .int (xs (x4 + (1 : Int32)).toNatClampNeg), .ref a1]) (by decide +kernel) rfl rfl ?_
        obtain ⟨g86, e⟩ := gd_inv e
        refine goSld g86 (by decide +kernel) ?_
        refine Go.run (pc' := 508) [.aload_n 3] (ls' := [some (.ref 217), some (.ref a1), some (.ref a2), some (.ref a3), some (.int x4), none, none]) (st' := [.ref a3, .int (xs (x4 + (2 : Int32)).toNatClampNeg), .int (xs (x4 + (1 : Int32)).toNatClampNeg), .ref a1]) (by decide +kernel) rfl rfl ?_
        obtain ⟨v87, e88, e⟩ := bd_inv e
        refine Go.callH (M2 := m_Q_dealerOf) (as := [.ref a1, .int (xs (x4 + (1 : Int32)).toNatClampNeg), .int (xs (x4 + (2 : Int32)).toNatClampNeg), .ref a3]) (rest := []) (v := some (.int v87.1)) (h1 := v87.2) (x_Q_dealerOf hf hI k1 k3 e88) wh_Q_135 (by decide +kernel) rfl rfl ⟨⟨Nat.le_of_ble_eq_true rfl, Nat.le_of_ble_eq_true rfl⟩, ⟨(by show k9 + 2 ≤ 601024; omega), (by show n9 + 12 ≤ 7293034; omega)⟩⟩ (Nat.le_of_ble_eq_true rfl) ?_
        show Go l D ad aC room_1 _ m_Q_law 511 [some (.ref 217), some (.ref a1), some (.ref a2), some (.ref a3), some (.int x4), none, none] [.int v87.1] v87.2 (k9 + 2) (n9 + 12)
        refine Go.run (pc' := 519) [.istore 5, .aload_n 2, .aload_n 0, .iload 4, .iconst 1, .iadd] (ls' := [some (.ref 217), some (.ref a1), some (.ref a2), some (.ref a3), some (.int x4), some (.int v87.1), none]) (st' := [.int (x4 + (1 : Int32)), .ref 217, .ref a2]) (by decide +kernel) rfl rfl ?_
        obtain ⟨g89, e⟩ := gd_inv e
        refine goSld g89 (by decide +kernel) ?_
        refine Go.run (pc' := 525) [.aload_n 0, .iload 4, .iconst 2, .iadd] (ls' := [some (.ref 217), some (.ref a1), some (.ref a2), some (.ref a3), some (.int x4), some (.int v87.1), none]) (st' := [.int (x4 + (2 : Int32)), .ref 217, .int (xs (x4 + (1 : Int32)).toNatClampNeg), .ref a2]) (by decide +kernel) rfl rfl ?_
        obtain ⟨g90, e⟩ := gd_inv e
        refine goSld g90 (by decide +kernel) ?_
        obtain ⟨v91, e92, e⟩ := bd_inv e
        refine Go.callV (M2 := m_M_dealerOf) (a := a2) (as := [.int (xs (x4 + (1 : Int32)).toNatClampNeg), .int (xs (x4 + (2 : Int32)).toNatClampNeg)]) (rest := []) (v := some (.int v91.1)) (h1 := v91.2) (x_M_dealerOf hf hI k2 e92) wv_Q_137 k2 kc_8 (by decide +kernel) rfl rfl ⟨⟨Nat.le_of_ble_eq_true rfl, Nat.le_of_ble_eq_true rfl⟩, ⟨(by show k9 + 2 + 0 ≤ 601024; omega), (by show n9 + 12 + 0 ≤ 7293034; omega)⟩⟩ (Nat.le_of_ble_eq_true rfl) ?_
        show Go l D ad aC room_1 _ m_Q_law 529 [some (.ref 217), some (.ref a1), some (.ref a2), some (.ref a3), some (.int x4), some (.int v87.1), none] [.int v91.1] v91.2 (k9 + 2) (n9 + 12)
        refine Go.run (pc' := 532) [.istore 6, .aload_n 2] (ls' := [some (.ref 217), some (.ref a1), some (.ref a2), some (.ref a3), some (.int x4), some (.int v87.1), some (.int v91.1)]) (st' := [.ref a2]) (by decide +kernel) rfl rfl ?_
        obtain ⟨v93, e94, e⟩ := bd_inv e
        refine Go.callV (M2 := m_M_thrown) (a := a2) (as := []) (rest := []) (v := some (.int v93)) (h1 := v91.2) (x_M_thrown hf hI k2 e94) wv_Q_109 k2 kc_8 (by decide +kernel) rfl rfl ⟨⟨Nat.le_of_ble_eq_true rfl, Nat.le_of_ble_eq_true rfl⟩, ⟨(by show k9 + 2 + 0 ≤ 601024; omega), (by show n9 + 12 + 0 ≤ 7293034; omega)⟩⟩ (Nat.le_of_ble_eq_true rfl) ?_
        show Go l D ad aC room_1 _ m_Q_law 535 [some (.ref 217), some (.ref a1), some (.ref a2), some (.ref a3), some (.int x4), some (.int v87.1), some (.int v91.1)] [.int v93] v91.2 (k9 + 2) (n9 + 12)
        refine Go.run (pc' := 537) [.iload 5] (ls' := [some (.ref 217), some (.ref a1), some (.ref a2), some (.ref a3), some (.int x4), some (.int v87.1), some (.int v91.1)]) (st' := [.int v87.1, .int v93]) (by decide +kernel) rfl rfl ?_
        refine Go.ic_eq (off := 5) (tgt := 542) (by decide +kernel) (by decide) (fun c95 => ?_) (fun c95 => ?_)
        · replace e := ite_t c95 e
          refine Go.run (pc' := 544) [.iload 5] (ls' := [some (.ref 217), some (.ref a1), some (.ref a2), some (.ref a3), some (.int x4), some (.int v87.1), some (.int v91.1)]) (st' := [.int v87.1]) (by decide +kernel) rfl rfl ?_
          refine Go.if_ne (off := 15) (tgt := 559) (by decide +kernel) (by decide) (fun c96 => ?_) (fun c96 => ?_)
          · replace e := ite_f c96 e
            refine Go.wid (k' := k9 + 4) (n' := n9 + 24) (by omega) (by omega) ?_
            refine Go.wk' (wks (wks (wks (wks (wks (wkn (wkn wk0))))))) ?_
            exact x_Q_law_559 hf hI (by omega) (by omega) (fun kk1 kk2 kk3 qq3 e => ih (by omega) (by omega) kk1 kk2 kk3 qq3 e) k1 k2 k3 q3 e
          · replace e := ite_t c96 e
            refine Go.run (pc' := 549) [.aload_n 3, .iconst 0] (ls' := [some (.ref 217), some (.ref a1), some (.ref a2), some (.ref a3), some (.int x4), some (.int v87.1), some (.int v91.1)]) (st' := [.int (0 : Int32), .ref a3]) (by decide +kernel) rfl rfl ?_
            obtain ⟨g97, e⟩ := gd_inv e
            refine Go.lald k3 q3 g97 (by decide +kernel) ?_
            refine Go.run (pc' := 554) [.iload 6, .i2l, .lcmp] (ls' := [some (.ref 217), some (.ref a1), some (.ref a2), some (.ref a3), some (.int x4), some (.int v87.1), some (.int v91.1)]) (st' := [.int (lg_cmp ((v91.2 a3 (0 : Int32).toNatClampNeg).toInt64) v91.1.toInt64)]) (by decide +kernel) rfl rfl ?_
            refine Go.if_eq (off := 5) (tgt := 559) (by decide +kernel) (by decide) (fun c98 => ?_) (fun c98 => ?_)
            · replace e := ite_t c98 e
              refine Go.wid (k' := k9 + 4) (n' := n9 + 24) (by omega) (by omega) ?_
              refine Go.wk' (wks (wks (wks (wks (wks (wkn (wkn wk0))))))) ?_
              exact x_Q_law_559 hf hI (by omega) (by omega) (fun kk1 kk2 kk3 qq3 e => ih (by omega) (by omega) kk1 kk2 kk3 qq3 e) k1 k2 k3 q3 e
            · replace e := ite_f c98 e
              refine Go.run (pc' := 558) [.iconst 0] (ls' := [some (.ref 217), some (.ref a1), some (.ref a2), some (.ref a3), some (.int x4), some (.int v87.1), some (.int v91.1)]) (st' := [.int (0 : Int32)]) (by decide +kernel) rfl rfl ?_
              exact no_none e
        · replace e := ite_f c95 e
          refine Go.run (pc' := 541) [.iconst 0] (ls' := [some (.ref 217), some (.ref a1), some (.ref a2), some (.ref a3), some (.int x4), some (.int v87.1), some (.int v91.1)]) (st' := [.int (0 : Int32)]) (by decide +kernel) rfl rfl ?_
          exact no_none e
      replace e := ite_f c84 e
      rcases Decidable.em (((xs x4.toNatClampNeg) &&& (31 : Int32)) = 8) with c99 | c99
      · replace e := ite_t c99 e
        refine Go.tsIn (dflt := 1887) (lo := 0) (hi := 27) (offs := #[125, 181, 194, 207, 251, 307, 375, 455, 523, 591, 647, 715, 771, 851, 931, 1011, 1067, 1135, 1191, 1259, 1303, 1383, 1451, 1507, 1575, 1675, 1775, 1831]) (len := 125) (off := 523) (tgt := 562) 8 (by decide +kernel) (by rw [c99]; decide) (by decide) (by decide) (by decide) (by decide) ?_
        refine Go.run (pc' := 568) [.aload_n 1, .aload_n 0, .iload 4, .iconst 1, .iadd] (ls' := [some (.ref 217), some (.ref a1), some (.ref a2), some (.ref a3), some (.int x4), none, none]) (st' := [.int (x4 + (1 : Int32)), .ref 217, .ref a1]) (by decide +kernel) rfl rfl ?_
        obtain ⟨g100, e⟩ := gd_inv e
        refine goSld g100 (by decide +kernel) ?_
        refine Go.run (pc' := 574) [.aload_n 0, .iload 4, .iconst 2, .iadd] (ls' := [some (.ref 217), some (.ref a1), some (.ref a2), some (.ref a3), some (.int x4), none, none]) (st' := [.int (x4 + (2 : Int32)), .ref 217, .int (xs (x4 + (1 : Int32)).toNatClampNeg), .ref a1]) (by decide +kernel) rfl rfl ?_
        obtain ⟨g101, e⟩ := gd_inv e
        refine goSld g101 (by decide +kernel) ?_
        refine Go.run (pc' := 576) [.aload_n 3] (ls' := [some (.ref 217), some (.ref a1), some (.ref a2), some (.ref a3), some (.int x4), none, none]) (st' := [.ref a3, .int (xs (x4 + (2 : Int32)).toNatClampNeg), .int (xs (x4 + (1 : Int32)).toNatClampNeg), .ref a1]) (by decide +kernel) rfl rfl ?_
        obtain ⟨v102, e103, e⟩ := bd_inv e
        refine Go.callH (M2 := m_Q_plugOf) (as := [.ref a1, .int (xs (x4 + (1 : Int32)).toNatClampNeg), .int (xs (x4 + (2 : Int32)).toNatClampNeg), .ref a3]) (rest := []) (v := some (.int v102.1)) (h1 := v102.2) (x_Q_plugOf hf hI k1 k3 e103) wh_Q_138 (by decide +kernel) rfl rfl ⟨⟨Nat.le_of_ble_eq_true rfl, Nat.le_of_ble_eq_true rfl⟩, ⟨(by show k9 + 2 ≤ 601024; omega), (by show n9 + 12 ≤ 7293034; omega)⟩⟩ (Nat.le_of_ble_eq_true rfl) ?_
        show Go l D ad aC room_1 _ m_Q_law 579 [some (.ref 217), some (.ref a1), some (.ref a2), some (.ref a3), some (.int x4), none, none] [.int v102.1] v102.2 (k9 + 2) (n9 + 12)
        refine Go.run (pc' := 587) [.istore 5, .aload_n 2, .aload_n 0, .iload 4, .iconst 1, .iadd] (ls' := [some (.ref 217), some (.ref a1), some (.ref a2), some (.ref a3), some (.int x4), some (.int v102.1), none]) (st' := [.int (x4 + (1 : Int32)), .ref 217, .ref a2]) (by decide +kernel) rfl rfl ?_
        obtain ⟨g104, e⟩ := gd_inv e
        refine goSld g104 (by decide +kernel) ?_
        refine Go.run (pc' := 593) [.aload_n 0, .iload 4, .iconst 2, .iadd] (ls' := [some (.ref 217), some (.ref a1), some (.ref a2), some (.ref a3), some (.int x4), some (.int v102.1), none]) (st' := [.int (x4 + (2 : Int32)), .ref 217, .int (xs (x4 + (1 : Int32)).toNatClampNeg), .ref a2]) (by decide +kernel) rfl rfl ?_
        obtain ⟨g105, e⟩ := gd_inv e
        refine goSld g105 (by decide +kernel) ?_
        obtain ⟨v106, e107, e⟩ := bd_inv e
        refine Go.callV (M2 := m_M_plugOf) (a := a2) (as := [.int (xs (x4 + (1 : Int32)).toNatClampNeg), .int (xs (x4 + (2 : Int32)).toNatClampNeg)]) (rest := []) (v := some (.int v106.1)) (h1 := v106.2) (x_M_plugOf hf hI k2 e107) wv_Q_140 k2 kc_8 (by decide +kernel) rfl rfl ⟨⟨Nat.le_of_ble_eq_true rfl, Nat.le_of_ble_eq_true rfl⟩, ⟨(by show k9 + 2 + 0 ≤ 601024; omega), (by show n9 + 12 + 0 ≤ 7293034; omega)⟩⟩ (Nat.le_of_ble_eq_true rfl) ?_
        show Go l D ad aC room_1 _ m_Q_law 597 [some (.ref 217), some (.ref a1), some (.ref a2), some (.ref a3), some (.int x4), some (.int v102.1), none] [.int v106.1] v106.2 (k9 + 2) (n9 + 12)
        refine Go.run (pc' := 600) [.istore 6, .aload_n 2] (ls' := [some (.ref 217), some (.ref a1), some (.ref a2), some (.ref a3), some (.int x4), some (.int v102.1), some (.int v106.1)]) (st' := [.ref a2]) (by decide +kernel) rfl rfl ?_
        obtain ⟨v108, e109, e⟩ := bd_inv e
        refine Go.callV (M2 := m_M_thrown) (a := a2) (as := []) (rest := []) (v := some (.int v108)) (h1 := v106.2) (x_M_thrown hf hI k2 e109) wv_Q_109 k2 kc_8 (by decide +kernel) rfl rfl ⟨⟨Nat.le_of_ble_eq_true rfl, Nat.le_of_ble_eq_true rfl⟩, ⟨(by show k9 + 2 + 0 ≤ 601024; omega), (by show n9 + 12 + 0 ≤ 7293034; omega)⟩⟩ (Nat.le_of_ble_eq_true rfl) ?_
        show Go l D ad aC room_1 _ m_Q_law 603 [some (.ref 217), some (.ref a1), some (.ref a2), some (.ref a3), some (.int x4), some (.int v102.1), some (.int v106.1)] [.int v108] v106.2 (k9 + 2) (n9 + 12)
        refine Go.run (pc' := 605) [.iload 5] (ls' := [some (.ref 217), some (.ref a1), some (.ref a2), some (.ref a3), some (.int x4), some (.int v102.1), some (.int v106.1)]) (st' := [.int v102.1, .int v108]) (by decide +kernel) rfl rfl ?_
        refine Go.ic_eq (off := 5) (tgt := 610) (by decide +kernel) (by decide) (fun c110 => ?_) (fun c110 => ?_)
        · replace e := ite_t c110 e
          refine Go.run (pc' := 612) [.iload 5] (ls' := [some (.ref 217), some (.ref a1), some (.ref a2), some (.ref a3), some (.int x4), some (.int v102.1), some (.int v106.1)]) (st' := [.int v102.1]) (by decide +kernel) rfl rfl ?_
          refine Go.if_ne (off := 15) (tgt := 627) (by decide +kernel) (by decide) (fun c111 => ?_) (fun c111 => ?_)
          · replace e := ite_f c111 e
            refine Go.wid (k' := k9 + 4) (n' := n9 + 24) (by omega) (by omega) ?_
            refine Go.wk' (wks (wks (wks (wks (wks (wkn (wkn wk0))))))) ?_
            exact x_Q_law_627 hf hI (by omega) (by omega) (fun kk1 kk2 kk3 qq3 e => ih (by omega) (by omega) kk1 kk2 kk3 qq3 e) k1 k2 k3 q3 e
          · replace e := ite_t c111 e
            refine Go.run (pc' := 617) [.aload_n 3, .iconst 0] (ls' := [some (.ref 217), some (.ref a1), some (.ref a2), some (.ref a3), some (.int x4), some (.int v102.1), some (.int v106.1)]) (st' := [.int (0 : Int32), .ref a3]) (by decide +kernel) rfl rfl ?_
            obtain ⟨g112, e⟩ := gd_inv e
            refine Go.lald k3 q3 g112 (by decide +kernel) ?_
            refine Go.run (pc' := 622) [.iload 6, .i2l, .lcmp] (ls' := [some (.ref 217), some (.ref a1), some (.ref a2), some (.ref a3), some (.int x4), some (.int v102.1), some (.int v106.1)]) (st' := [.int (lg_cmp ((v106.2 a3 (0 : Int32).toNatClampNeg).toInt64) v106.1.toInt64)]) (by decide +kernel) rfl rfl ?_
            refine Go.if_eq (off := 5) (tgt := 627) (by decide +kernel) (by decide) (fun c113 => ?_) (fun c113 => ?_)
            · replace e := ite_t c113 e
              refine Go.wid (k' := k9 + 4) (n' := n9 + 24) (by omega) (by omega) ?_
              refine Go.wk' (wks (wks (wks (wks (wks (wkn (wkn wk0))))))) ?_
              exact x_Q_law_627 hf hI (by omega) (by omega) (fun kk1 kk2 kk3 qq3 e => ih (by omega) (by omega) kk1 kk2 kk3 qq3 e) k1 k2 k3 q3 e
            · replace e := ite_f c113 e
              refine Go.run (pc' := 626) [.iconst 0] (ls' := [some (.ref 217), some (.ref a1), some (.ref a2), some (.ref a3), some (.int x4), some (.int v102.1), some (.int v106.1)]) (st' := [.int (0 : Int32)]) (by decide +kernel) rfl rfl ?_
              exact no_none e
        · replace e := ite_f c110 e
          refine Go.run (pc' := 609) [.iconst 0] (ls' := [some (.ref 217), some (.ref a1), some (.ref a2), some (.ref a3), some (.int x4), some (.int v102.1), some (.int v106.1)]) (st' := [.int (0 : Int32)]) (by decide +kernel) rfl rfl ?_
          exact no_none e
      replace e := ite_f c99 e
      rcases Decidable.em (((xs x4.toNatClampNeg) &&& (31 : Int32)) = 9) with c114 | c114
      · replace e := ite_t c114 e
        refine Go.tsIn (dflt := 1887) (lo := 0) (hi := 27) (offs := #[125, 181, 194, 207, 251, 307, 375, 455, 523, 591, 647, 715, 771, 851, 931, 1011, 1067, 1135, 1191, 1259, 1303, 1383, 1451, 1507, 1575, 1675, 1775, 1831]) (len := 125) (off := 591) (tgt := 630) 9 (by decide +kernel) (by rw [c114]; decide) (by decide) (by decide) (by decide) (by decide) ?_
        refine Go.run (pc' := 636) [.aload_n 1, .aload_n 0, .iload 4, .iconst 1, .iadd] (ls' := [some (.ref 217), some (.ref a1), some (.ref a2), some (.ref a3), some (.int x4), none, none]) (st' := [.int (x4 + (1 : Int32)), .ref 217, .ref a1]) (by decide +kernel) rfl rfl ?_
        obtain ⟨g115, e⟩ := gd_inv e
        refine goSld g115 (by decide +kernel) ?_
        refine Go.run (pc' := 638) [.aload_n 3] (ls' := [some (.ref 217), some (.ref a1), some (.ref a2), some (.ref a3), some (.int x4), none, none]) (st' := [.ref a3, .int (xs (x4 + (1 : Int32)).toNatClampNeg), .ref a1]) (by decide +kernel) rfl rfl ?_
        obtain ⟨v116, e117, e⟩ := bd_inv e
        refine Go.callH (M2 := m_Q_setting) (as := [.ref a1, .int (xs (x4 + (1 : Int32)).toNatClampNeg), .ref a3]) (rest := []) (v := some (.int v116.1)) (h1 := v116.2) (x_Q_setting hf hI k1 k3 e117) wh_Q_141 (by decide +kernel) rfl rfl ⟨⟨Nat.le_of_ble_eq_true rfl, Nat.le_of_ble_eq_true rfl⟩, ⟨(by show k9 + 1 ≤ 601024; omega), (by show n9 + 6 ≤ 7293034; omega)⟩⟩ (Nat.le_of_ble_eq_true rfl) ?_
        show Go l D ad aC room_1 _ m_Q_law 641 [some (.ref 217), some (.ref a1), some (.ref a2), some (.ref a3), some (.int x4), none, none] [.int v116.1] v116.2 (k9 + 1) (n9 + 6)
        refine Go.run (pc' := 649) [.istore 5, .aload_n 2, .aload_n 0, .iload 4, .iconst 1, .iadd] (ls' := [some (.ref 217), some (.ref a1), some (.ref a2), some (.ref a3), some (.int x4), some (.int v116.1), none]) (st' := [.int (x4 + (1 : Int32)), .ref 217, .ref a2]) (by decide +kernel) rfl rfl ?_
        obtain ⟨g118, e⟩ := gd_inv e
        refine goSld g118 (by decide +kernel) ?_
        obtain ⟨v119, e120, e⟩ := bd_inv e
        refine Go.callV (M2 := m_M_setting) (a := a2) (as := [.int (xs (x4 + (1 : Int32)).toNatClampNeg)]) (rest := []) (v := some (.int v119.1)) (h1 := v119.2) (x_M_setting hf hI k2 e120) wv_Q_143 k2 kc_8 (by decide +kernel) rfl rfl ⟨⟨Nat.le_of_ble_eq_true rfl, Nat.le_of_ble_eq_true rfl⟩, ⟨(by show k9 + 1 + 0 ≤ 601024; omega), (by show n9 + 6 + 0 ≤ 7293034; omega)⟩⟩ (Nat.le_of_ble_eq_true rfl) ?_
        show Go l D ad aC room_1 _ m_Q_law 653 [some (.ref 217), some (.ref a1), some (.ref a2), some (.ref a3), some (.int x4), some (.int v116.1), none] [.int v119.1] v119.2 (k9 + 1) (n9 + 6)
        refine Go.run (pc' := 656) [.istore 6, .aload_n 2] (ls' := [some (.ref 217), some (.ref a1), some (.ref a2), some (.ref a3), some (.int x4), some (.int v116.1), some (.int v119.1)]) (st' := [.ref a2]) (by decide +kernel) rfl rfl ?_
        obtain ⟨v121, e122, e⟩ := bd_inv e
        refine Go.callV (M2 := m_M_thrown) (a := a2) (as := []) (rest := []) (v := some (.int v121)) (h1 := v119.2) (x_M_thrown hf hI k2 e122) wv_Q_109 k2 kc_8 (by decide +kernel) rfl rfl ⟨⟨Nat.le_of_ble_eq_true rfl, Nat.le_of_ble_eq_true rfl⟩, ⟨(by show k9 + 1 + 0 ≤ 601024; omega), (by show n9 + 6 + 0 ≤ 7293034; omega)⟩⟩ (Nat.le_of_ble_eq_true rfl) ?_
        show Go l D ad aC room_1 _ m_Q_law 659 [some (.ref 217), some (.ref a1), some (.ref a2), some (.ref a3), some (.int x4), some (.int v116.1), some (.int v119.1)] [.int v121] v119.2 (k9 + 1) (n9 + 6)
        refine Go.run (pc' := 661) [.iload 5] (ls' := [some (.ref 217), some (.ref a1), some (.ref a2), some (.ref a3), some (.int x4), some (.int v116.1), some (.int v119.1)]) (st' := [.int v116.1, .int v121]) (by decide +kernel) rfl rfl ?_
        refine Go.ic_eq (off := 5) (tgt := 666) (by decide +kernel) (by decide) (fun c123 => ?_) (fun c123 => ?_)
        · replace e := ite_t c123 e
          refine Go.run (pc' := 668) [.iload 5] (ls' := [some (.ref 217), some (.ref a1), some (.ref a2), some (.ref a3), some (.int x4), some (.int v116.1), some (.int v119.1)]) (st' := [.int v116.1]) (by decide +kernel) rfl rfl ?_
          refine Go.if_ne (off := 15) (tgt := 683) (by decide +kernel) (by decide) (fun c124 => ?_) (fun c124 => ?_)
          · replace e := ite_f c124 e
            refine Go.wid (k' := k9 + 4) (n' := n9 + 24) (by omega) (by omega) ?_
            refine Go.wk' (wks (wks (wks (wks (wks (wkn (wkn wk0))))))) ?_
            exact x_Q_law_683 hf hI (by omega) (by omega) (fun kk1 kk2 kk3 qq3 e => ih (by omega) (by omega) kk1 kk2 kk3 qq3 e) k1 k2 k3 q3 e
          · replace e := ite_t c124 e
            refine Go.run (pc' := 673) [.aload_n 3, .iconst 0] (ls' := [some (.ref 217), some (.ref a1), some (.ref a2), some (.ref a3), some (.int x4), some (.int v116.1), some (.int v119.1)]) (st' := [.int (0 : Int32), .ref a3]) (by decide +kernel) rfl rfl ?_
            obtain ⟨g125, e⟩ := gd_inv e
            refine Go.lald k3 q3 g125 (by decide +kernel) ?_
            refine Go.run (pc' := 678) [.iload 6, .i2l, .lcmp] (ls' := [some (.ref 217), some (.ref a1), some (.ref a2), some (.ref a3), some (.int x4), some (.int v116.1), some (.int v119.1)]) (st' := [.int (lg_cmp ((v119.2 a3 (0 : Int32).toNatClampNeg).toInt64) v119.1.toInt64)]) (by decide +kernel) rfl rfl ?_
            refine Go.if_eq (off := 5) (tgt := 683) (by decide +kernel) (by decide) (fun c126 => ?_) (fun c126 => ?_)
            · replace e := ite_t c126 e
              refine Go.wid (k' := k9 + 4) (n' := n9 + 24) (by omega) (by omega) ?_
              refine Go.wk' (wks (wks (wks (wks (wks (wkn (wkn wk0))))))) ?_
              exact x_Q_law_683 hf hI (by omega) (by omega) (fun kk1 kk2 kk3 qq3 e => ih (by omega) (by omega) kk1 kk2 kk3 qq3 e) k1 k2 k3 q3 e
            · replace e := ite_f c126 e
              refine Go.run (pc' := 682) [.iconst 0] (ls' := [some (.ref 217), some (.ref a1), some (.ref a2), some (.ref a3), some (.int x4), some (.int v116.1), some (.int v119.1)]) (st' := [.int (0 : Int32)]) (by decide +kernel) rfl rfl ?_
              exact no_none e
        · replace e := ite_f c123 e
          refine Go.run (pc' := 665) [.iconst 0] (ls' := [some (.ref 217), some (.ref a1), some (.ref a2), some (.ref a3), some (.int x4), some (.int v116.1), some (.int v119.1)]) (st' := [.int (0 : Int32)]) (by decide +kernel) rfl rfl ?_
          exact no_none e
      replace e := ite_f c114 e
      rcases Decidable.em (((xs x4.toNatClampNeg) &&& (31 : Int32)) = 10) with c127 | c127
      · replace e := ite_t c127 e
        refine Go.tsIn (dflt := 1887) (lo := 0) (hi := 27) (offs := #[125, 181, 194, 207, 251, 307, 375, 455, 523, 591, 647, 715, 771, 851, 931, 1011, 1067, 1135, 1191, 1259, 1303, 1383, 1451, 1507, 1575, 1675, 1775, 1831]) (len := 125) (off := 647) (tgt := 686) 10 (by decide +kernel) (by rw [c127]; decide) (by decide) (by decide) (by decide) (by decide) ?_
        refine Go.run (pc' := 692) [.aload_n 1, .aload_n 0, .iload 4, .iconst 1, .iadd] (ls' := [some (.ref 217), some (.ref a1), some (.ref a2), some (.ref a3), some (.int x4), none, none]) (st' := [.int (x4 + (1 : Int32)), .ref 217, .ref a1]) (by decide +kernel) rfl rfl ?_
        obtain ⟨g128, e⟩ := gd_inv e
        refine goSld g128 (by decide +kernel) ?_
        refine Go.run (pc' := 698) [.aload_n 0, .iload 4, .iconst 2, .iadd] (ls' := [some (.ref 217), some (.ref a1), some (.ref a2), some (.ref a3), some (.int x4), none, none]) (st' := [.int (x4 + (2 : Int32)), .ref 217, .int (xs (x4 + (1 : Int32)).toNatClampNeg), .ref a1]) (by decide +kernel) rfl rfl ?_
        obtain ⟨g129, e⟩ := gd_inv e
        refine goSld g129 (by decide +kernel) ?_
        refine Go.run (pc' := 700) [.aload_n 3] (ls' := [some (.ref 217), some (.ref a1), some (.ref a2), some (.ref a3), some (.int x4), none, none]) (st' := [.ref a3, .int (xs (x4 + (2 : Int32)).toNatClampNeg), .int (xs (x4 + (1 : Int32)).toNatClampNeg), .ref a1]) (by decide +kernel) rfl rfl ?_
        obtain ⟨v130, e131, e⟩ := bd_inv e
        refine Go.callH (M2 := m_Q_free) (as := [.ref a1, .int (xs (x4 + (1 : Int32)).toNatClampNeg), .int (xs (x4 + (2 : Int32)).toNatClampNeg), .ref a3]) (rest := []) (v := some (.int v130.1)) (h1 := v130.2) (x_Q_free hf hI k1 k3 e131) wh_Q_144 (by decide +kernel) rfl rfl ⟨⟨Nat.le_of_ble_eq_true rfl, Nat.le_of_ble_eq_true rfl⟩, ⟨(by show k9 + 2 ≤ 601024; omega), (by show n9 + 12 ≤ 7293034; omega)⟩⟩ (Nat.le_of_ble_eq_true rfl) ?_
        show Go l D ad aC room_1 _ m_Q_law 703 [some (.ref 217), some (.ref a1), some (.ref a2), some (.ref a3), some (.int x4), none, none] [.int v130.1] v130.2 (k9 + 2) (n9 + 12)
        refine Go.run (pc' := 711) [.istore 5, .aload_n 2, .aload_n 0, .iload 4, .iconst 1, .iadd] (ls' := [some (.ref 217), some (.ref a1), some (.ref a2), some (.ref a3), some (.int x4), some (.int v130.1), none]) (st' := [.int (x4 + (1 : Int32)), .ref 217, .ref a2]) (by decide +kernel) rfl rfl ?_
        obtain ⟨g132, e⟩ := gd_inv e
        refine goSld g132 (by decide +kernel) ?_
        refine Go.run (pc' := 717) [.aload_n 0, .iload 4, .iconst 2, .iadd] (ls' := [some (.ref 217), some (.ref a1), some (.ref a2), some (.ref a3), some (.int x4), some (.int v130.1), none]) (st' := [.int (x4 + (2 : Int32)), .ref 217, .int (xs (x4 + (1 : Int32)).toNatClampNeg), .ref a2]) (by decide +kernel) rfl rfl ?_
        obtain ⟨g133, e⟩ := gd_inv e
        refine goSld g133 (by decide +kernel) ?_
        obtain ⟨v134, e135, e⟩ := bd_inv e
        refine Go.callV (M2 := m_M_free) (a := a2) (as := [.int (xs (x4 + (1 : Int32)).toNatClampNeg), .int (xs (x4 + (2 : Int32)).toNatClampNeg)]) (rest := []) (v := some (.int v134.1)) (h1 := v134.2) (x_M_free hf hI k2 e135) wv_Q_146 k2 kc_8 (by decide +kernel) rfl rfl ⟨⟨Nat.le_of_ble_eq_true rfl, Nat.le_of_ble_eq_true rfl⟩, ⟨(by show k9 + 2 + 0 ≤ 601024; omega), (by show n9 + 12 + 0 ≤ 7293034; omega)⟩⟩ (Nat.le_of_ble_eq_true rfl) ?_
        show Go l D ad aC room_1 _ m_Q_law 721 [some (.ref 217), some (.ref a1), some (.ref a2), some (.ref a3), some (.int x4), some (.int v130.1), none] [.int v134.1] v134.2 (k9 + 2) (n9 + 12)
        refine Go.run (pc' := 724) [.istore 6, .aload_n 2] (ls' := [some (.ref 217), some (.ref a1), some (.ref a2), some (.ref a3), some (.int x4), some (.int v130.1), some (.int v134.1)]) (st' := [.ref a2]) (by decide +kernel) rfl rfl ?_
        obtain ⟨v136, e137, e⟩ := bd_inv e
        refine Go.callV (M2 := m_M_thrown) (a := a2) (as := []) (rest := []) (v := some (.int v136)) (h1 := v134.2) (x_M_thrown hf hI k2 e137) wv_Q_109 k2 kc_8 (by decide +kernel) rfl rfl ⟨⟨Nat.le_of_ble_eq_true rfl, Nat.le_of_ble_eq_true rfl⟩, ⟨(by show k9 + 2 + 0 ≤ 601024; omega), (by show n9 + 12 + 0 ≤ 7293034; omega)⟩⟩ (Nat.le_of_ble_eq_true rfl) ?_
        show Go l D ad aC room_1 _ m_Q_law 727 [some (.ref 217), some (.ref a1), some (.ref a2), some (.ref a3), some (.int x4), some (.int v130.1), some (.int v134.1)] [.int v136] v134.2 (k9 + 2) (n9 + 12)
        refine Go.run (pc' := 729) [.iload 5] (ls' := [some (.ref 217), some (.ref a1), some (.ref a2), some (.ref a3), some (.int x4), some (.int v130.1), some (.int v134.1)]) (st' := [.int v130.1, .int v136]) (by decide +kernel) rfl rfl ?_
        refine Go.ic_eq (off := 5) (tgt := 734) (by decide +kernel) (by decide) (fun c138 => ?_) (fun c138 => ?_)
        · replace e := ite_t c138 e
          refine Go.run (pc' := 736) [.iload 5] (ls' := [some (.ref 217), some (.ref a1), some (.ref a2), some (.ref a3), some (.int x4), some (.int v130.1), some (.int v134.1)]) (st' := [.int v130.1]) (by decide +kernel) rfl rfl ?_
          refine Go.if_ne (off := 15) (tgt := 751) (by decide +kernel) (by decide) (fun c139 => ?_) (fun c139 => ?_)
          · replace e := ite_f c139 e
            refine Go.wid (k' := k9 + 4) (n' := n9 + 24) (by omega) (by omega) ?_
            refine Go.wk' (wks (wks (wks (wks (wks (wkn (wkn wk0))))))) ?_
            exact x_Q_law_751 hf hI (by omega) (by omega) (fun kk1 kk2 kk3 qq3 e => ih (by omega) (by omega) kk1 kk2 kk3 qq3 e) k1 k2 k3 q3 e
          · replace e := ite_t c139 e
            refine Go.run (pc' := 741) [.aload_n 3, .iconst 0] (ls' := [some (.ref 217), some (.ref a1), some (.ref a2), some (.ref a3), some (.int x4), some (.int v130.1), some (.int v134.1)]) (st' := [.int (0 : Int32), .ref a3]) (by decide +kernel) rfl rfl ?_
            obtain ⟨g140, e⟩ := gd_inv e
            refine Go.lald k3 q3 g140 (by decide +kernel) ?_
            refine Go.run (pc' := 746) [.iload 6, .i2l, .lcmp] (ls' := [some (.ref 217), some (.ref a1), some (.ref a2), some (.ref a3), some (.int x4), some (.int v130.1), some (.int v134.1)]) (st' := [.int (lg_cmp ((v134.2 a3 (0 : Int32).toNatClampNeg).toInt64) v134.1.toInt64)]) (by decide +kernel) rfl rfl ?_
            refine Go.if_eq (off := 5) (tgt := 751) (by decide +kernel) (by decide) (fun c141 => ?_) (fun c141 => ?_)
            · replace e := ite_t c141 e
              refine Go.wid (k' := k9 + 4) (n' := n9 + 24) (by omega) (by omega) ?_
              refine Go.wk' (wks (wks (wks (wks (wks (wkn (wkn wk0))))))) ?_
              exact x_Q_law_751 hf hI (by omega) (by omega) (fun kk1 kk2 kk3 qq3 e => ih (by omega) (by omega) kk1 kk2 kk3 qq3 e) k1 k2 k3 q3 e
            · replace e := ite_f c141 e
              refine Go.run (pc' := 750) [.iconst 0] (ls' := [some (.ref 217), some (.ref a1), some (.ref a2), some (.ref a3), some (.int x4), some (.int v130.1), some (.int v134.1)]) (st' := [.int (0 : Int32)]) (by decide +kernel) rfl rfl ?_
              exact no_none e
        · replace e := ite_f c138 e
          refine Go.run (pc' := 733) [.iconst 0] (ls' := [some (.ref 217), some (.ref a1), some (.ref a2), some (.ref a3), some (.int x4), some (.int v130.1), some (.int v134.1)]) (st' := [.int (0 : Int32)]) (by decide +kernel) rfl rfl ?_
          exact no_none e
      replace e := ite_f c127 e
      rcases Decidable.em (((xs x4.toNatClampNeg) &&& (31 : Int32)) = 11) with c142 | c142
      · replace e := ite_t c142 e
        refine Go.tsIn (dflt := 1887) (lo := 0) (hi := 27) (offs := #[125, 181, 194, 207, 251, 307, 375, 455, 523, 591, 647, 715, 771, 851, 931, 1011, 1067, 1135, 1191, 1259, 1303, 1383, 1451, 1507, 1575, 1675, 1775, 1831]) (len := 125) (off := 715) (tgt := 754) 11 (by decide +kernel) (by rw [c142]; decide) (by decide) (by decide) (by decide) (by decide) ?_
        refine Go.run (pc' := 760) [.aload_n 1, .aload_n 0, .iload 4, .iconst 1, .iadd] (ls' := [some (.ref 217), some (.ref a1), some (.ref a2), some (.ref a3), some (.int x4), none, none]) (st' := [.int (x4 + (1 : Int32)), .ref 217, .ref a1]) (by decide +kernel) rfl rfl ?_
        obtain ⟨g143, e⟩ := gd_inv e
        refine goSld g143 (by decide +kernel) ?_
        refine Go.run (pc' := 762) [.aload_n 3] (ls' := [some (.ref 217), some (.ref a1), some (.ref a2), some (.ref a3), some (.int x4), none, none]) (st' := [.ref a3, .int (xs (x4 + (1 : Int32)).toNatClampNeg), .ref a1]) (by decide +kernel) rfl rfl ?_
        obtain ⟨v144, e145, e⟩ := bd_inv e
        refine Go.callH (M2 := m_Q_wall) (as := [.ref a1, .int (xs (x4 + (1 : Int32)).toNatClampNeg), .ref a3]) (rest := []) (v := some (.int v144.1)) (h1 := v144.2) (x_Q_wall hf hI k1 k3 e145) wh_Q_147 (by decide +kernel) rfl rfl ⟨⟨Nat.le_of_ble_eq_true rfl, Nat.le_of_ble_eq_true rfl⟩, ⟨(by show k9 + 2 ≤ 601024; omega), (by show n9 + 12 ≤ 7293034; omega)⟩⟩ (Nat.le_of_ble_eq_true rfl) ?_
        show Go l D ad aC room_1 _ m_Q_law 765 [some (.ref 217), some (.ref a1), some (.ref a2), some (.ref a3), some (.int x4), none, none] [.int v144.1] v144.2 (k9 + 2) (n9 + 12)
        refine Go.run (pc' := 773) [.istore 5, .aload_n 2, .aload_n 0, .iload 4, .iconst 1, .iadd] (ls' := [some (.ref 217), some (.ref a1), some (.ref a2), some (.ref a3), some (.int x4), some (.int v144.1), none]) (st' := [.int (x4 + (1 : Int32)), .ref 217, .ref a2]) (by decide +kernel) rfl rfl ?_
        obtain ⟨g146, e⟩ := gd_inv e
        refine goSld g146 (by decide +kernel) ?_
        obtain ⟨v147, e148, e⟩ := bd_inv e
        refine Go.callV (M2 := m_M_wall) (a := a2) (as := [.int (xs (x4 + (1 : Int32)).toNatClampNeg)]) (rest := []) (v := some (.int v147.1)) (h1 := v147.2) (x_M_wall hf hI k2 e148) wv_Q_149 k2 kc_8 (by decide +kernel) rfl rfl ⟨⟨Nat.le_of_ble_eq_true rfl, Nat.le_of_ble_eq_true rfl⟩, ⟨(by show k9 + 2 + 0 ≤ 601024; omega), (by show n9 + 12 + 0 ≤ 7293034; omega)⟩⟩ (Nat.le_of_ble_eq_true rfl) ?_
        show Go l D ad aC room_1 _ m_Q_law 777 [some (.ref 217), some (.ref a1), some (.ref a2), some (.ref a3), some (.int x4), some (.int v144.1), none] [.int v147.1] v147.2 (k9 + 2) (n9 + 12)
        refine Go.run (pc' := 780) [.istore 6, .aload_n 2] (ls' := [some (.ref 217), some (.ref a1), some (.ref a2), some (.ref a3), some (.int x4), some (.int v144.1), some (.int v147.1)]) (st' := [.ref a2]) (by decide +kernel) rfl rfl ?_
        obtain ⟨v149, e150, e⟩ := bd_inv e
        refine Go.callV (M2 := m_M_thrown) (a := a2) (as := []) (rest := []) (v := some (.int v149)) (h1 := v147.2) (x_M_thrown hf hI k2 e150) wv_Q_109 k2 kc_8 (by decide +kernel) rfl rfl ⟨⟨Nat.le_of_ble_eq_true rfl, Nat.le_of_ble_eq_true rfl⟩, ⟨(by show k9 + 2 + 0 ≤ 601024; omega), (by show n9 + 12 + 0 ≤ 7293034; omega)⟩⟩ (Nat.le_of_ble_eq_true rfl) ?_
        show Go l D ad aC room_1 _ m_Q_law 783 [some (.ref 217), some (.ref a1), some (.ref a2), some (.ref a3), some (.int x4), some (.int v144.1), some (.int v147.1)] [.int v149] v147.2 (k9 + 2) (n9 + 12)
        refine Go.run (pc' := 785) [.iload 5] (ls' := [some (.ref 217), some (.ref a1), some (.ref a2), some (.ref a3), some (.int x4), some (.int v144.1), some (.int v147.1)]) (st' := [.int v144.1, .int v149]) (by decide +kernel) rfl rfl ?_
        refine Go.ic_eq (off := 5) (tgt := 790) (by decide +kernel) (by decide) (fun c151 => ?_) (fun c151 => ?_)
        · replace e := ite_t c151 e
          refine Go.run (pc' := 792) [.iload 5] (ls' := [some (.ref 217), some (.ref a1), some (.ref a2), some (.ref a3), some (.int x4), some (.int v144.1), some (.int v147.1)]) (st' := [.int v144.1]) (by decide +kernel) rfl rfl ?_
          refine Go.if_ne (off := 15) (tgt := 807) (by decide +kernel) (by decide) (fun c152 => ?_) (fun c152 => ?_)
          · replace e := ite_f c152 e
            refine Go.wid (k' := k9 + 4) (n' := n9 + 24) (by omega) (by omega) ?_
            refine Go.wk' (wks (wks (wks (wks (wks (wkn (wkn wk0))))))) ?_
            exact x_Q_law_807 hf hI (by omega) (by omega) (fun kk1 kk2 kk3 qq3 e => ih (by omega) (by omega) kk1 kk2 kk3 qq3 e) k1 k2 k3 q3 e
          · replace e := ite_t c152 e
            refine Go.run (pc' := 797) [.aload_n 3, .iconst 0] (ls' := [some (.ref 217), some (.ref a1), some (.ref a2), some (.ref a3), some (.int x4), some (.int v144.1), some (.int v147.1)]) (st' := [.int (0 : Int32), .ref a3]) (by decide +kernel) rfl rfl ?_
            obtain ⟨g153, e⟩ := gd_inv e
            refine Go.lald k3 q3 g153 (by decide +kernel) ?_
            refine Go.run (pc' := 802) [.iload 6, .i2l, .lcmp] (ls' := [some (.ref 217), some (.ref a1), some (.ref a2), some (.ref a3), some (.int x4), some (.int v144.1), some (.int v147.1)]) (st' := [.int (lg_cmp ((v147.2 a3 (0 : Int32).toNatClampNeg).toInt64) v147.1.toInt64)]) (by decide +kernel) rfl rfl ?_
            refine Go.if_eq (off := 5) (tgt := 807) (by decide +kernel) (by decide) (fun c154 => ?_) (fun c154 => ?_)
            · replace e := ite_t c154 e
              refine Go.wid (k' := k9 + 4) (n' := n9 + 24) (by omega) (by omega) ?_
              refine Go.wk' (wks (wks (wks (wks (wks (wkn (wkn wk0))))))) ?_
              exact x_Q_law_807 hf hI (by omega) (by omega) (fun kk1 kk2 kk3 qq3 e => ih (by omega) (by omega) kk1 kk2 kk3 qq3 e) k1 k2 k3 q3 e
            · replace e := ite_f c154 e
              refine Go.run (pc' := 806) [.iconst 0] (ls' := [some (.ref 217), some (.ref a1), some (.ref a2), some (.ref a3), some (.int x4), some (.int v144.1), some (.int v147.1)]) (st' := [.int (0 : Int32)]) (by decide +kernel) rfl rfl ?_
              exact no_none e
        · replace e := ite_f c151 e
          refine Go.run (pc' := 789) [.iconst 0] (ls' := [some (.ref 217), some (.ref a1), some (.ref a2), some (.ref a3), some (.int x4), some (.int v144.1), some (.int v147.1)]) (st' := [.int (0 : Int32)]) (by decide +kernel) rfl rfl ?_
          exact no_none e
      replace e := ite_f c142 e
      rcases Decidable.em (((xs x4.toNatClampNeg) &&& (31 : Int32)) = 12) with c155 | c155
      · replace e := ite_t c155 e
        refine Go.tsIn (dflt := 1887) (lo := 0) (hi := 27) (offs := #[125, 181, 194, 207, 251, 307, 375, 455, 523, 591, 647, 715, 771, 851, 931, 1011, 1067, 1135, 1191, 1259, 1303, 1383, 1451, 1507, 1575, 1675, 1775, 1831]) (len := 125) (off := 771) (tgt := 810) 12 (by decide +kernel) (by rw [c155]; decide) (by decide) (by decide) (by decide) (by decide) ?_
        refine Go.run (pc' := 816) [.aload_n 1, .aload_n 0, .iload 4, .iconst 1, .iadd] (ls' := [some (.ref 217), some (.ref a1), some (.ref a2), some (.ref a3), some (.int x4), none, none]) (st' := [.int (x4 + (1 : Int32)), .ref 217, .ref a1]) (by decide +kernel) rfl rfl ?_
        obtain ⟨g156, e⟩ := gd_inv e
        refine goSld g156 (by decide +kernel) ?_
        refine Go.run (pc' := 822) [.aload_n 0, .iload 4, .iconst 2, .iadd] (ls' := [some (.ref 217), some (.ref a1), some (.ref a2), some (.ref a3), some (.int x4), none, none]) (st' := [.int (x4 + (2 : Int32)), .ref 217, .int (xs (x4 + (1 : Int32)).toNatClampNeg), .ref a1]) (by decide +kernel) rfl rfl ?_
        obtain ⟨g157, e⟩ := gd_inv e
        refine goSld g157 (by decide +kernel) ?_
        refine Go.run (pc' := 828) [.aload_n 0, .iload 4, .iconst 3, .iadd] (ls' := [some (.ref 217), some (.ref a1), some (.ref a2), some (.ref a3), some (.int x4), none, none]) (st' := [.int (x4 + (3 : Int32)), .ref 217, .int (xs (x4 + (2 : Int32)).toNatClampNeg), .int (xs (x4 + (1 : Int32)).toNatClampNeg), .ref a1]) (by decide +kernel) rfl rfl ?_
        obtain ⟨g158, e⟩ := gd_inv e
        refine goSld g158 (by decide +kernel) ?_
        refine Go.run (pc' := 830) [.aload_n 3] (ls' := [some (.ref 217), some (.ref a1), some (.ref a2), some (.ref a3), some (.int x4), none, none]) (st' := [.ref a3, .int (xs (x4 + (3 : Int32)).toNatClampNeg), .int (xs (x4 + (2 : Int32)).toNatClampNeg), .int (xs (x4 + (1 : Int32)).toNatClampNeg), .ref a1]) (by decide +kernel) rfl rfl ?_
        obtain ⟨v159, e160, e⟩ := bd_inv e
        refine Go.callH (M2 := m_Q_outlet) (as := [.ref a1, .int (xs (x4 + (1 : Int32)).toNatClampNeg), .int (xs (x4 + (2 : Int32)).toNatClampNeg), .int (xs (x4 + (3 : Int32)).toNatClampNeg), .ref a3]) (rest := []) (v := some (.int v159.1)) (h1 := v159.2) (x_Q_outlet hf hI k1 k3 e160) wh_Q_150 (by decide +kernel) rfl rfl ⟨⟨Nat.le_of_ble_eq_true rfl, Nat.le_of_ble_eq_true rfl⟩, ⟨(by show k9 + 2 ≤ 601024; omega), (by show n9 + 12 ≤ 7293034; omega)⟩⟩ (Nat.le_of_ble_eq_true rfl) ?_
        show Go l D ad aC room_1 _ m_Q_law 833 [some (.ref 217), some (.ref a1), some (.ref a2), some (.ref a3), some (.int x4), none, none] [.int v159.1] v159.2 (k9 + 2) (n9 + 12)
        refine Go.run (pc' := 841) [.istore 5, .aload_n 2, .aload_n 0, .iload 4, .iconst 1, .iadd] (ls' := [some (.ref 217), some (.ref a1), some (.ref a2), some (.ref a3), some (.int x4), some (.int v159.1), none]) (st' := [.int (x4 + (1 : Int32)), .ref 217, .ref a2]) (by decide +kernel) rfl rfl ?_
        obtain ⟨g161, e⟩ := gd_inv e
        refine goSld g161 (by decide +kernel) ?_
        refine Go.run (pc' := 847) [.aload_n 0, .iload 4, .iconst 2, .iadd] (ls' := [some (.ref 217), some (.ref a1), some (.ref a2), some (.ref a3), some (.int x4), some (.int v159.1), none]) (st' := [.int (x4 + (2 : Int32)), .ref 217, .int (xs (x4 + (1 : Int32)).toNatClampNeg), .ref a2]) (by decide +kernel) rfl rfl ?_
        obtain ⟨g162, e⟩ := gd_inv e
        refine goSld g162 (by decide +kernel) ?_
        refine Go.run (pc' := 853) [.aload_n 0, .iload 4, .iconst 3, .iadd] (ls' := [some (.ref 217), some (.ref a1), some (.ref a2), some (.ref a3), some (.int x4), some (.int v159.1), none]) (st' := [.int (x4 + (3 : Int32)), .ref 217, .int (xs (x4 + (2 : Int32)).toNatClampNeg), .int (xs (x4 + (1 : Int32)).toNatClampNeg), .ref a2]) (by decide +kernel) rfl rfl ?_
        obtain ⟨g163, e⟩ := gd_inv e
        refine goSld g163 (by decide +kernel) ?_
        obtain ⟨v164, e165, e⟩ := bd_inv e
        refine Go.callV (M2 := m_M_outlet) (a := a2) (as := [.int (xs (x4 + (1 : Int32)).toNatClampNeg), .int (xs (x4 + (2 : Int32)).toNatClampNeg), .int (xs (x4 + (3 : Int32)).toNatClampNeg)]) (rest := []) (v := some (.int v164.1)) (h1 := v164.2) (x_M_outlet hf hI k2 e165) wv_Q_152 k2 kc_8 (by decide +kernel) rfl rfl ⟨⟨Nat.le_of_ble_eq_true rfl, Nat.le_of_ble_eq_true rfl⟩, ⟨(by show k9 + 2 + 0 ≤ 601024; omega), (by show n9 + 12 + 0 ≤ 7293034; omega)⟩⟩ (Nat.le_of_ble_eq_true rfl) ?_
        show Go l D ad aC room_1 _ m_Q_law 857 [some (.ref 217), some (.ref a1), some (.ref a2), some (.ref a3), some (.int x4), some (.int v159.1), none] [.int v164.1] v164.2 (k9 + 2) (n9 + 12)
        refine Go.run (pc' := 860) [.istore 6, .aload_n 2] (ls' := [some (.ref 217), some (.ref a1), some (.ref a2), some (.ref a3), some (.int x4), some (.int v159.1), some (.int v164.1)]) (st' := [.ref a2]) (by decide +kernel) rfl rfl ?_
        obtain ⟨v166, e167, e⟩ := bd_inv e
        refine Go.callV (M2 := m_M_thrown) (a := a2) (as := []) (rest := []) (v := some (.int v166)) (h1 := v164.2) (x_M_thrown hf hI k2 e167) wv_Q_109 k2 kc_8 (by decide +kernel) rfl rfl ⟨⟨Nat.le_of_ble_eq_true rfl, Nat.le_of_ble_eq_true rfl⟩, ⟨(by show k9 + 2 + 0 ≤ 601024; omega), (by show n9 + 12 + 0 ≤ 7293034; omega)⟩⟩ (Nat.le_of_ble_eq_true rfl) ?_
        show Go l D ad aC room_1 _ m_Q_law 863 [some (.ref 217), some (.ref a1), some (.ref a2), some (.ref a3), some (.int x4), some (.int v159.1), some (.int v164.1)] [.int v166] v164.2 (k9 + 2) (n9 + 12)
        refine Go.run (pc' := 865) [.iload 5] (ls' := [some (.ref 217), some (.ref a1), some (.ref a2), some (.ref a3), some (.int x4), some (.int v159.1), some (.int v164.1)]) (st' := [.int v159.1, .int v166]) (by decide +kernel) rfl rfl ?_
        refine Go.ic_eq (off := 5) (tgt := 870) (by decide +kernel) (by decide) (fun c168 => ?_) (fun c168 => ?_)
        · replace e := ite_t c168 e
          refine Go.run (pc' := 872) [.iload 5] (ls' := [some (.ref 217), some (.ref a1), some (.ref a2), some (.ref a3), some (.int x4), some (.int v159.1), some (.int v164.1)]) (st' := [.int v159.1]) (by decide +kernel) rfl rfl ?_
          refine Go.if_ne (off := 15) (tgt := 887) (by decide +kernel) (by decide) (fun c169 => ?_) (fun c169 => ?_)
          · replace e := ite_f c169 e
            refine Go.wid (k' := k9 + 4) (n' := n9 + 24) (by omega) (by omega) ?_
            refine Go.wk' (wks (wks (wks (wks (wks (wkn (wkn wk0))))))) ?_
            exact x_Q_law_887 hf hI (by omega) (by omega) (fun kk1 kk2 kk3 qq3 e => ih (by omega) (by omega) kk1 kk2 kk3 qq3 e) k1 k2 k3 q3 e
          · replace e := ite_t c169 e
            refine Go.run (pc' := 877) [.aload_n 3, .iconst 0] (ls' := [some (.ref 217), some (.ref a1), some (.ref a2), some (.ref a3), some (.int x4), some (.int v159.1), some (.int v164.1)]) (st' := [.int (0 : Int32), .ref a3]) (by decide +kernel) rfl rfl ?_
            obtain ⟨g170, e⟩ := gd_inv e
            refine Go.lald k3 q3 g170 (by decide +kernel) ?_
            refine Go.run (pc' := 882) [.iload 6, .i2l, .lcmp] (ls' := [some (.ref 217), some (.ref a1), some (.ref a2), some (.ref a3), some (.int x4), some (.int v159.1), some (.int v164.1)]) (st' := [.int (lg_cmp ((v164.2 a3 (0 : Int32).toNatClampNeg).toInt64) v164.1.toInt64)]) (by decide +kernel) rfl rfl ?_
            refine Go.if_eq (off := 5) (tgt := 887) (by decide +kernel) (by decide) (fun c171 => ?_) (fun c171 => ?_)
            · replace e := ite_t c171 e
              refine Go.wid (k' := k9 + 4) (n' := n9 + 24) (by omega) (by omega) ?_
              refine Go.wk' (wks (wks (wks (wks (wks (wkn (wkn wk0))))))) ?_
              exact x_Q_law_887 hf hI (by omega) (by omega) (fun kk1 kk2 kk3 qq3 e => ih (by omega) (by omega) kk1 kk2 kk3 qq3 e) k1 k2 k3 q3 e
            · replace e := ite_f c171 e
              refine Go.run (pc' := 886) [.iconst 0] (ls' := [some (.ref 217), some (.ref a1), some (.ref a2), some (.ref a3), some (.int x4), some (.int v159.1), some (.int v164.1)]) (st' := [.int (0 : Int32)]) (by decide +kernel) rfl rfl ?_
              exact no_none e
        · replace e := ite_f c168 e
          refine Go.run (pc' := 869) [.iconst 0] (ls' := [some (.ref 217), some (.ref a1), some (.ref a2), some (.ref a3), some (.int x4), some (.int v159.1), some (.int v164.1)]) (st' := [.int (0 : Int32)]) (by decide +kernel) rfl rfl ?_
          exact no_none e
      replace e := ite_f c155 e
      rcases Decidable.em (((xs x4.toNatClampNeg) &&& (31 : Int32)) = 13) with c172 | c172
      · replace e := ite_t c172 e
        refine Go.tsIn (dflt := 1887) (lo := 0) (hi := 27) (offs := #[125, 181, 194, 207, 251, 307, 375, 455, 523, 591, 647, 715, 771, 851, 931, 1011, 1067, 1135, 1191, 1259, 1303, 1383, 1451, 1507, 1575, 1675, 1775, 1831]) (len := 125) (off := 851) (tgt := 890) 13 (by decide +kernel) (by rw [c172]; decide) (by decide) (by decide) (by decide) (by decide) ?_
        refine Go.run (pc' := 896) [.aload_n 1, .aload_n 0, .iload 4, .iconst 1, .iadd] (ls' := [some (.ref 217), some (.ref a1), some (.ref a2), some (.ref a3), some (.int x4), none, none]) (st' := [.int (x4 + (1 : Int32)), .ref 217, .ref a1]) (by decide +kernel) rfl rfl ?_
        obtain ⟨g173, e⟩ := gd_inv e
        refine goSld g173 (by decide +kernel) ?_
        refine Go.run (pc' := 902) [.aload_n 0, .iload 4, .iconst 2, .iadd] (ls' := [some (.ref 217), some (.ref a1), some (.ref a2), some (.ref a3), some (.int x4), none, none]) (st' := [.int (x4 + (2 : Int32)), .ref 217, .int (xs (x4 + (1 : Int32)).toNatClampNeg), .ref a1]) (by decide +kernel) rfl rfl ?_
        obtain ⟨g174, e⟩ := gd_inv e
        refine goSld g174 (by decide +kernel) ?_
        refine Go.run (pc' := 908) [.aload_n 0, .iload 4, .iconst 3, .iadd] (ls' := [some (.ref 217), some (.ref a1), some (.ref a2), some (.ref a3), some (.int x4), none, none]) (st' := [.int (x4 + (3 : Int32)), .ref 217, .int (xs (x4 + (2 : Int32)).toNatClampNeg), .int (xs (x4 + (1 : Int32)).toNatClampNeg), .ref a1]) (by decide +kernel) rfl rfl ?_
        obtain ⟨g175, e⟩ := gd_inv e
        refine goSld g175 (by decide +kernel) ?_
        refine Go.run (pc' := 910) [.aload_n 3] (ls' := [some (.ref 217), some (.ref a1), some (.ref a2), some (.ref a3), some (.int x4), none, none]) (st' := [.ref a3, .int (xs (x4 + (3 : Int32)).toNatClampNeg), .int (xs (x4 + (2 : Int32)).toNatClampNeg), .int (xs (x4 + (1 : Int32)).toNatClampNeg), .ref a1]) (by decide +kernel) rfl rfl ?_
        obtain ⟨v176, e177, e⟩ := bd_inv e
        refine Go.callH (M2 := m_Q_dealer) (as := [.ref a1, .int (xs (x4 + (1 : Int32)).toNatClampNeg), .int (xs (x4 + (2 : Int32)).toNatClampNeg), .int (xs (x4 + (3 : Int32)).toNatClampNeg), .ref a3]) (rest := []) (v := some (.int v176.1)) (h1 := v176.2) (x_Q_dealer hf hI k1 k3 e177) wh_Q_153 (by decide +kernel) rfl rfl ⟨⟨Nat.le_of_ble_eq_true rfl, Nat.le_of_ble_eq_true rfl⟩, ⟨(by show k9 + 2 ≤ 601024; omega), (by show n9 + 12 ≤ 7293034; omega)⟩⟩ (Nat.le_of_ble_eq_true rfl) ?_
        show Go l D ad aC room_1 _ m_Q_law 913 [some (.ref 217), some (.ref a1), some (.ref a2), some (.ref a3), some (.int x4), none, none] [.int v176.1] v176.2 (k9 + 2) (n9 + 12)
        refine Go.run (pc' := 921) [.istore 5, .aload_n 2, .aload_n 0, .iload 4, .iconst 1, .iadd] (ls' := [some (.ref 217), some (.ref a1), some (.ref a2), some (.ref a3), some (.int x4), some (.int v176.1), none]) (st' := [.int (x4 + (1 : Int32)), .ref 217, .ref a2]) (by decide +kernel) rfl rfl ?_
        obtain ⟨g178, e⟩ := gd_inv e
        refine goSld g178 (by decide +kernel) ?_
        refine Go.run (pc' := 927) [.aload_n 0, .iload 4, .iconst 2, .iadd] (ls' := [some (.ref 217), some (.ref a1), some (.ref a2), some (.ref a3), some (.int x4), some (.int v176.1), none]) (st' := [.int (x4 + (2 : Int32)), .ref 217, .int (xs (x4 + (1 : Int32)).toNatClampNeg), .ref a2]) (by decide +kernel) rfl rfl ?_
        obtain ⟨g179, e⟩ := gd_inv e
        refine goSld g179 (by decide +kernel) ?_
        refine Go.run (pc' := 933) [.aload_n 0, .iload 4, .iconst 3, .iadd] (ls' := [some (.ref 217), some (.ref a1), some (.ref a2), some (.ref a3), some (.int x4), some (.int v176.1), none]) (st' := [.int (x4 + (3 : Int32)), .ref 217, .int (xs (x4 + (2 : Int32)).toNatClampNeg), .int (xs (x4 + (1 : Int32)).toNatClampNeg), .ref a2]) (by decide +kernel) rfl rfl ?_
        obtain ⟨g180, e⟩ := gd_inv e
        refine goSld g180 (by decide +kernel) ?_
        obtain ⟨v181, e182, e⟩ := bd_inv e
        refine Go.callV (M2 := m_M_dealer) (a := a2) (as := [.int (xs (x4 + (1 : Int32)).toNatClampNeg), .int (xs (x4 + (2 : Int32)).toNatClampNeg), .int (xs (x4 + (3 : Int32)).toNatClampNeg)]) (rest := []) (v := some (.int v181.1)) (h1 := v181.2) (x_M_dealer hf hI k2 e182) wv_Q_155 k2 kc_8 (by decide +kernel) rfl rfl ⟨⟨Nat.le_of_ble_eq_true rfl, Nat.le_of_ble_eq_true rfl⟩, ⟨(by show k9 + 2 + 0 ≤ 601024; omega), (by show n9 + 12 + 0 ≤ 7293034; omega)⟩⟩ (Nat.le_of_ble_eq_true rfl) ?_
        show Go l D ad aC room_1 _ m_Q_law 937 [some (.ref 217), some (.ref a1), some (.ref a2), some (.ref a3), some (.int x4), some (.int v176.1), none] [.int v181.1] v181.2 (k9 + 2) (n9 + 12)
        refine Go.run (pc' := 940) [.istore 6, .aload_n 2] (ls' := [some (.ref 217), some (.ref a1), some (.ref a2), some (.ref a3), some (.int x4), some (.int v176.1), some (.int v181.1)]) (st' := [.ref a2]) (by decide +kernel) rfl rfl ?_
        obtain ⟨v183, e184, e⟩ := bd_inv e
        refine Go.callV (M2 := m_M_thrown) (a := a2) (as := []) (rest := []) (v := some (.int v183)) (h1 := v181.2) (x_M_thrown hf hI k2 e184) wv_Q_109 k2 kc_8 (by decide +kernel) rfl rfl ⟨⟨Nat.le_of_ble_eq_true rfl, Nat.le_of_ble_eq_true rfl⟩, ⟨(by show k9 + 2 + 0 ≤ 601024; omega), (by show n9 + 12 + 0 ≤ 7293034; omega)⟩⟩ (Nat.le_of_ble_eq_true rfl) ?_
        show Go l D ad aC room_1 _ m_Q_law 943 [some (.ref 217), some (.ref a1), some (.ref a2), some (.ref a3), some (.int x4), some (.int v176.1), some (.int v181.1)] [.int v183] v181.2 (k9 + 2) (n9 + 12)
        refine Go.run (pc' := 945) [.iload 5] (ls' := [some (.ref 217), some (.ref a1), some (.ref a2), some (.ref a3), some (.int x4), some (.int v176.1), some (.int v181.1)]) (st' := [.int v176.1, .int v183]) (by decide +kernel) rfl rfl ?_
        refine Go.ic_eq (off := 5) (tgt := 950) (by decide +kernel) (by decide) (fun c185 => ?_) (fun c185 => ?_)
        · replace e := ite_t c185 e
          refine Go.run (pc' := 952) [.iload 5] (ls' := [some (.ref 217), some (.ref a1), some (.ref a2), some (.ref a3), some (.int x4), some (.int v176.1), some (.int v181.1)]) (st' := [.int v176.1]) (by decide +kernel) rfl rfl ?_
          refine Go.if_ne (off := 15) (tgt := 967) (by decide +kernel) (by decide) (fun c186 => ?_) (fun c186 => ?_)
          · replace e := ite_f c186 e
            refine Go.wid (k' := k9 + 4) (n' := n9 + 24) (by omega) (by omega) ?_
            refine Go.wk' (wks (wks (wks (wks (wks (wkn (wkn wk0))))))) ?_
            exact x_Q_law_967 hf hI (by omega) (by omega) (fun kk1 kk2 kk3 qq3 e => ih (by omega) (by omega) kk1 kk2 kk3 qq3 e) k1 k2 k3 q3 e
          · replace e := ite_t c186 e
            refine Go.run (pc' := 957) [.aload_n 3, .iconst 0] (ls' := [some (.ref 217), some (.ref a1), some (.ref a2), some (.ref a3), some (.int x4), some (.int v176.1), some (.int v181.1)]) (st' := [.int (0 : Int32), .ref a3]) (by decide +kernel) rfl rfl ?_
            obtain ⟨g187, e⟩ := gd_inv e
            refine Go.lald k3 q3 g187 (by decide +kernel) ?_
            refine Go.run (pc' := 962) [.iload 6, .i2l, .lcmp] (ls' := [some (.ref 217), some (.ref a1), some (.ref a2), some (.ref a3), some (.int x4), some (.int v176.1), some (.int v181.1)]) (st' := [.int (lg_cmp ((v181.2 a3 (0 : Int32).toNatClampNeg).toInt64) v181.1.toInt64)]) (by decide +kernel) rfl rfl ?_
            refine Go.if_eq (off := 5) (tgt := 967) (by decide +kernel) (by decide) (fun c188 => ?_) (fun c188 => ?_)
            · replace e := ite_t c188 e
              refine Go.wid (k' := k9 + 4) (n' := n9 + 24) (by omega) (by omega) ?_
              refine Go.wk' (wks (wks (wks (wks (wks (wkn (wkn wk0))))))) ?_
              exact x_Q_law_967 hf hI (by omega) (by omega) (fun kk1 kk2 kk3 qq3 e => ih (by omega) (by omega) kk1 kk2 kk3 qq3 e) k1 k2 k3 q3 e
            · replace e := ite_f c188 e
              refine Go.run (pc' := 966) [.iconst 0] (ls' := [some (.ref 217), some (.ref a1), some (.ref a2), some (.ref a3), some (.int x4), some (.int v176.1), some (.int v181.1)]) (st' := [.int (0 : Int32)]) (by decide +kernel) rfl rfl ?_
              exact no_none e
        · replace e := ite_f c185 e
          refine Go.run (pc' := 949) [.iconst 0] (ls' := [some (.ref 217), some (.ref a1), some (.ref a2), some (.ref a3), some (.int x4), some (.int v176.1), some (.int v181.1)]) (st' := [.int (0 : Int32)]) (by decide +kernel) rfl rfl ?_
          exact no_none e
      replace e := ite_f c172 e
      rcases Decidable.em (((xs x4.toNatClampNeg) &&& (31 : Int32)) = 14) with c189 | c189
      · replace e := ite_t c189 e
        refine Go.tsIn (dflt := 1887) (lo := 0) (hi := 27) (offs := #[125, 181, 194, 207, 251, 307, 375, 455, 523, 591, 647, 715, 771, 851, 931, 1011, 1067, 1135, 1191, 1259, 1303, 1383, 1451, 1507, 1575, 1675, 1775, 1831]) (len := 125) (off := 931) (tgt := 970) 14 (by decide +kernel) (by rw [c189]; decide) (by decide) (by decide) (by decide) (by decide) ?_
        refine Go.run (pc' := 976) [.aload_n 1, .aload_n 0, .iload 4, .iconst 1, .iadd] (ls' := [some (.ref 217), some (.ref a1), some (.ref a2), some (.ref a3), some (.int x4), none, none]) (st' := [.int (x4 + (1 : Int32)), .ref 217, .ref a1]) (by decide +kernel) rfl rfl ?_
        obtain ⟨g190, e⟩ := gd_inv e
        refine goSld g190 (by decide +kernel) ?_
        refine Go.run (pc' := 982) [.aload_n 0, .iload 4, .iconst 2, .iadd] (ls' := [some (.ref 217), some (.ref a1), some (.ref a2), some (.ref a3), some (.int x4), none, none]) (st' := [.int (x4 + (2 : Int32)), .ref 217, .int (xs (x4 + (1 : Int32)).toNatClampNeg), .ref a1]) (by decide +kernel) rfl rfl ?_
        obtain ⟨g191, e⟩ := gd_inv e
        refine goSld g191 (by decide +kernel) ?_
        refine Go.run (pc' := 988) [.aload_n 0, .iload 4, .iconst 3, .iadd] (ls' := [some (.ref 217), some (.ref a1), some (.ref a2), some (.ref a3), some (.int x4), none, none]) (st' := [.int (x4 + (3 : Int32)), .ref 217, .int (xs (x4 + (2 : Int32)).toNatClampNeg), .int (xs (x4 + (1 : Int32)).toNatClampNeg), .ref a1]) (by decide +kernel) rfl rfl ?_
        obtain ⟨g192, e⟩ := gd_inv e
        refine goSld g192 (by decide +kernel) ?_
        refine Go.run (pc' := 990) [.aload_n 3] (ls' := [some (.ref 217), some (.ref a1), some (.ref a2), some (.ref a3), some (.int x4), none, none]) (st' := [.ref a3, .int (xs (x4 + (3 : Int32)).toNatClampNeg), .int (xs (x4 + (2 : Int32)).toNatClampNeg), .int (xs (x4 + (1 : Int32)).toNatClampNeg), .ref a1]) (by decide +kernel) rfl rfl ?_
        obtain ⟨v193, e194, e⟩ := bd_inv e
        refine Go.callH (M2 := m_Q_place) (as := [.ref a1, .int (xs (x4 + (1 : Int32)).toNatClampNeg), .int (xs (x4 + (2 : Int32)).toNatClampNeg), .int (xs (x4 + (3 : Int32)).toNatClampNeg), .ref a3]) (rest := []) (v := some (.int v193.1)) (h1 := v193.2) (x_Q_place hf hI k1 k3 e194) wh_Q_156 (by decide +kernel) rfl rfl ⟨⟨Nat.le_of_ble_eq_true rfl, Nat.le_of_ble_eq_true rfl⟩, ⟨(by show k9 + 1 ≤ 601024; omega), (by show n9 + 6 ≤ 7293034; omega)⟩⟩ (Nat.le_of_ble_eq_true rfl) ?_
        show Go l D ad aC room_1 _ m_Q_law 993 [some (.ref 217), some (.ref a1), some (.ref a2), some (.ref a3), some (.int x4), none, none] [.int v193.1] v193.2 (k9 + 1) (n9 + 6)
        refine Go.run (pc' := 1001) [.istore 5, .aload_n 2, .aload_n 0, .iload 4, .iconst 1, .iadd] (ls' := [some (.ref 217), some (.ref a1), some (.ref a2), some (.ref a3), some (.int x4), some (.int v193.1), none]) (st' := [.int (x4 + (1 : Int32)), .ref 217, .ref a2]) (by decide +kernel) rfl rfl ?_
        obtain ⟨g195, e⟩ := gd_inv e
        refine goSld g195 (by decide +kernel) ?_
        refine Go.run (pc' := 1007) [.aload_n 0, .iload 4, .iconst 2, .iadd] (ls' := [some (.ref 217), some (.ref a1), some (.ref a2), some (.ref a3), some (.int x4), some (.int v193.1), none]) (st' := [.int (x4 + (2 : Int32)), .ref 217, .int (xs (x4 + (1 : Int32)).toNatClampNeg), .ref a2]) (by decide +kernel) rfl rfl ?_
        obtain ⟨g196, e⟩ := gd_inv e
        refine goSld g196 (by decide +kernel) ?_
        refine Go.run (pc' := 1013) [.aload_n 0, .iload 4, .iconst 3, .iadd] (ls' := [some (.ref 217), some (.ref a1), some (.ref a2), some (.ref a3), some (.int x4), some (.int v193.1), none]) (st' := [.int (x4 + (3 : Int32)), .ref 217, .int (xs (x4 + (2 : Int32)).toNatClampNeg), .int (xs (x4 + (1 : Int32)).toNatClampNeg), .ref a2]) (by decide +kernel) rfl rfl ?_
        obtain ⟨g197, e⟩ := gd_inv e
        refine goSld g197 (by decide +kernel) ?_
        obtain ⟨v198, e199, e⟩ := bd_inv e
        refine Go.callV (M2 := m_M_place) (a := a2) (as := [.int (xs (x4 + (1 : Int32)).toNatClampNeg), .int (xs (x4 + (2 : Int32)).toNatClampNeg), .int (xs (x4 + (3 : Int32)).toNatClampNeg)]) (rest := []) (v := some (.int v198.1)) (h1 := v198.2) (x_M_place hf hI k2 e199) wv_Q_158 k2 kc_8 (by decide +kernel) rfl rfl ⟨⟨Nat.le_of_ble_eq_true rfl, Nat.le_of_ble_eq_true rfl⟩, ⟨(by show k9 + 1 + 0 ≤ 601024; omega), (by show n9 + 6 + 0 ≤ 7293034; omega)⟩⟩ (Nat.le_of_ble_eq_true rfl) ?_
        show Go l D ad aC room_1 _ m_Q_law 1017 [some (.ref 217), some (.ref a1), some (.ref a2), some (.ref a3), some (.int x4), some (.int v193.1), none] [.int v198.1] v198.2 (k9 + 1) (n9 + 6)
        refine Go.run (pc' := 1020) [.istore 6, .aload_n 2] (ls' := [some (.ref 217), some (.ref a1), some (.ref a2), some (.ref a3), some (.int x4), some (.int v193.1), some (.int v198.1)]) (st' := [.ref a2]) (by decide +kernel) rfl rfl ?_
        obtain ⟨v200, e201, e⟩ := bd_inv e
        refine Go.callV (M2 := m_M_thrown) (a := a2) (as := []) (rest := []) (v := some (.int v200)) (h1 := v198.2) (x_M_thrown hf hI k2 e201) wv_Q_109 k2 kc_8 (by decide +kernel) rfl rfl ⟨⟨Nat.le_of_ble_eq_true rfl, Nat.le_of_ble_eq_true rfl⟩, ⟨(by show k9 + 1 + 0 ≤ 601024; omega), (by show n9 + 6 + 0 ≤ 7293034; omega)⟩⟩ (Nat.le_of_ble_eq_true rfl) ?_
        show Go l D ad aC room_1 _ m_Q_law 1023 [some (.ref 217), some (.ref a1), some (.ref a2), some (.ref a3), some (.int x4), some (.int v193.1), some (.int v198.1)] [.int v200] v198.2 (k9 + 1) (n9 + 6)
        refine Go.run (pc' := 1025) [.iload 5] (ls' := [some (.ref 217), some (.ref a1), some (.ref a2), some (.ref a3), some (.int x4), some (.int v193.1), some (.int v198.1)]) (st' := [.int v193.1, .int v200]) (by decide +kernel) rfl rfl ?_
        refine Go.ic_eq (off := 5) (tgt := 1030) (by decide +kernel) (by decide) (fun c202 => ?_) (fun c202 => ?_)
        · replace e := ite_t c202 e
          refine Go.run (pc' := 1032) [.iload 5] (ls' := [some (.ref 217), some (.ref a1), some (.ref a2), some (.ref a3), some (.int x4), some (.int v193.1), some (.int v198.1)]) (st' := [.int v193.1]) (by decide +kernel) rfl rfl ?_
          refine Go.if_ne (off := 15) (tgt := 1047) (by decide +kernel) (by decide) (fun c203 => ?_) (fun c203 => ?_)
          · replace e := ite_f c203 e
            refine Go.wid (k' := k9 + 4) (n' := n9 + 24) (by omega) (by omega) ?_
            refine Go.wk' (wks (wks (wks (wks (wks (wkn (wkn wk0))))))) ?_
            exact x_Q_law_1047 hf hI (by omega) (by omega) (fun kk1 kk2 kk3 qq3 e => ih (by omega) (by omega) kk1 kk2 kk3 qq3 e) k1 k2 k3 q3 e
          · replace e := ite_t c203 e
            refine Go.run (pc' := 1037) [.aload_n 3, .iconst 0] (ls' := [some (.ref 217), some (.ref a1), some (.ref a2), some (.ref a3), some (.int x4), some (.int v193.1), some (.int v198.1)]) (st' := [.int (0 : Int32), .ref a3]) (by decide +kernel) rfl rfl ?_
            obtain ⟨g204, e⟩ := gd_inv e
            refine Go.lald k3 q3 g204 (by decide +kernel) ?_
            refine Go.run (pc' := 1042) [.iload 6, .i2l, .lcmp] (ls' := [some (.ref 217), some (.ref a1), some (.ref a2), some (.ref a3), some (.int x4), some (.int v193.1), some (.int v198.1)]) (st' := [.int (lg_cmp ((v198.2 a3 (0 : Int32).toNatClampNeg).toInt64) v198.1.toInt64)]) (by decide +kernel) rfl rfl ?_
            refine Go.if_eq (off := 5) (tgt := 1047) (by decide +kernel) (by decide) (fun c205 => ?_) (fun c205 => ?_)
            · replace e := ite_t c205 e
              refine Go.wid (k' := k9 + 4) (n' := n9 + 24) (by omega) (by omega) ?_
              refine Go.wk' (wks (wks (wks (wks (wks (wkn (wkn wk0))))))) ?_
              exact x_Q_law_1047 hf hI (by omega) (by omega) (fun kk1 kk2 kk3 qq3 e => ih (by omega) (by omega) kk1 kk2 kk3 qq3 e) k1 k2 k3 q3 e
            · replace e := ite_f c205 e
              refine Go.run (pc' := 1046) [.iconst 0] (ls' := [some (.ref 217), some (.ref a1), some (.ref a2), some (.ref a3), some (.int x4), some (.int v193.1), some (.int v198.1)]) (st' := [.int (0 : Int32)]) (by decide +kernel) rfl rfl ?_
              exact no_none e
        · replace e := ite_f c202 e
          refine Go.run (pc' := 1029) [.iconst 0] (ls' := [some (.ref 217), some (.ref a1), some (.ref a2), some (.ref a3), some (.int x4), some (.int v193.1), some (.int v198.1)]) (st' := [.int (0 : Int32)]) (by decide +kernel) rfl rfl ?_
          exact no_none e
      replace e := ite_f c189 e
      rcases Decidable.em (((xs x4.toNatClampNeg) &&& (31 : Int32)) = 15) with c206 | c206
      · replace e := ite_t c206 e
        refine Go.tsIn (dflt := 1887) (lo := 0) (hi := 27) (offs := #[125, 181, 194, 207, 251, 307, 375, 455, 523, 591, 647, 715, 771, 851, 931, 1011, 1067, 1135, 1191, 1259, 1303, 1383, 1451, 1507, 1575, 1675, 1775, 1831]) (len := 125) (off := 1011) (tgt := 1050) 15 (by decide +kernel) (by rw [c206]; decide) (by decide) (by decide) (by decide) (by decide) ?_
        refine Go.run (pc' := 1056) [.aload_n 1, .aload_n 0, .iload 4, .iconst 1, .iadd] (ls' := [some (.ref 217), some (.ref a1), some (.ref a2), some (.ref a3), some (.int x4), none, none]) (st' := [.int (x4 + (1 : Int32)), .ref 217, .ref a1]) (by decide +kernel) rfl rfl ?_
        obtain ⟨g207, e⟩ := gd_inv e
        refine goSld g207 (by decide +kernel) ?_
        refine Go.run (pc' := 1058) [.aload_n 3] (ls' := [some (.ref 217), some (.ref a1), some (.ref a2), some (.ref a3), some (.int x4), none, none]) (st' := [.ref a3, .int (xs (x4 + (1 : Int32)).toNatClampNeg), .ref a1]) (by decide +kernel) rfl rfl ?_
        obtain ⟨v208, e209, e⟩ := bd_inv e
        refine Go.callH (M2 := m_Q_leave) (as := [.ref a1, .int (xs (x4 + (1 : Int32)).toNatClampNeg), .ref a3]) (rest := []) (v := some (.int v208.1)) (h1 := v208.2) (x_Q_leave hf hI k1 k3 e209) wh_Q_159 (by decide +kernel) rfl rfl ⟨⟨Nat.le_of_ble_eq_true rfl, Nat.le_of_ble_eq_true rfl⟩, ⟨(by show k9 + 2 ≤ 601024; omega), (by show n9 + 12 ≤ 7293034; omega)⟩⟩ (Nat.le_of_ble_eq_true rfl) ?_
        show Go l D ad aC room_1 _ m_Q_law 1061 [some (.ref 217), some (.ref a1), some (.ref a2), some (.ref a3), some (.int x4), none, none] [.int v208.1] v208.2 (k9 + 2) (n9 + 12)
        refine Go.run (pc' := 1069) [.istore 5, .aload_n 2, .aload_n 0, .iload 4, .iconst 1, .iadd] (ls' := [some (.ref 217), some (.ref a1), some (.ref a2), some (.ref a3), some (.int x4), some (.int v208.1), none]) (st' := [.int (x4 + (1 : Int32)), .ref 217, .ref a2]) (by decide +kernel) rfl rfl ?_
        obtain ⟨g210, e⟩ := gd_inv e
        refine goSld g210 (by decide +kernel) ?_
        obtain ⟨v211, e212, e⟩ := bd_inv e
        refine Go.callV (M2 := m_M_leave) (a := a2) (as := [.int (xs (x4 + (1 : Int32)).toNatClampNeg)]) (rest := []) (v := some (.int v211.1)) (h1 := v211.2) (x_M_leave hf hI k2 e212) wv_Q_161 k2 kc_8 (by decide +kernel) rfl rfl ⟨⟨Nat.le_of_ble_eq_true rfl, Nat.le_of_ble_eq_true rfl⟩, ⟨(by show k9 + 2 + 0 ≤ 601024; omega), (by show n9 + 12 + 0 ≤ 7293034; omega)⟩⟩ (Nat.le_of_ble_eq_true rfl) ?_
        show Go l D ad aC room_1 _ m_Q_law 1073 [some (.ref 217), some (.ref a1), some (.ref a2), some (.ref a3), some (.int x4), some (.int v208.1), none] [.int v211.1] v211.2 (k9 + 2) (n9 + 12)
        refine Go.run (pc' := 1076) [.istore 6, .aload_n 2] (ls' := [some (.ref 217), some (.ref a1), some (.ref a2), some (.ref a3), some (.int x4), some (.int v208.1), some (.int v211.1)]) (st' := [.ref a2]) (by decide +kernel) rfl rfl ?_
        obtain ⟨v213, e214, e⟩ := bd_inv e
        refine Go.callV (M2 := m_M_thrown) (a := a2) (as := []) (rest := []) (v := some (.int v213)) (h1 := v211.2) (x_M_thrown hf hI k2 e214) wv_Q_109 k2 kc_8 (by decide +kernel) rfl rfl ⟨⟨Nat.le_of_ble_eq_true rfl, Nat.le_of_ble_eq_true rfl⟩, ⟨(by show k9 + 2 + 0 ≤ 601024; omega), (by show n9 + 12 + 0 ≤ 7293034; omega)⟩⟩ (Nat.le_of_ble_eq_true rfl) ?_
        show Go l D ad aC room_1 _ m_Q_law 1079 [some (.ref 217), some (.ref a1), some (.ref a2), some (.ref a3), some (.int x4), some (.int v208.1), some (.int v211.1)] [.int v213] v211.2 (k9 + 2) (n9 + 12)
        refine Go.run (pc' := 1081) [.iload 5] (ls' := [some (.ref 217), some (.ref a1), some (.ref a2), some (.ref a3), some (.int x4), some (.int v208.1), some (.int v211.1)]) (st' := [.int v208.1, .int v213]) (by decide +kernel) rfl rfl ?_
        refine Go.ic_eq (off := 5) (tgt := 1086) (by decide +kernel) (by decide) (fun c215 => ?_) (fun c215 => ?_)
        · replace e := ite_t c215 e
          refine Go.run (pc' := 1088) [.iload 5] (ls' := [some (.ref 217), some (.ref a1), some (.ref a2), some (.ref a3), some (.int x4), some (.int v208.1), some (.int v211.1)]) (st' := [.int v208.1]) (by decide +kernel) rfl rfl ?_
          refine Go.if_ne (off := 15) (tgt := 1103) (by decide +kernel) (by decide) (fun c216 => ?_) (fun c216 => ?_)
          · replace e := ite_f c216 e
            refine Go.wid (k' := k9 + 4) (n' := n9 + 24) (by omega) (by omega) ?_
            refine Go.wk' (wks (wks (wks (wks (wks (wkn (wkn wk0))))))) ?_
            exact x_Q_law_1103 hf hI (by omega) (by omega) (fun kk1 kk2 kk3 qq3 e => ih (by omega) (by omega) kk1 kk2 kk3 qq3 e) k1 k2 k3 q3 e
          · replace e := ite_t c216 e
            refine Go.run (pc' := 1093) [.aload_n 3, .iconst 0] (ls' := [some (.ref 217), some (.ref a1), some (.ref a2), some (.ref a3), some (.int x4), some (.int v208.1), some (.int v211.1)]) (st' := [.int (0 : Int32), .ref a3]) (by decide +kernel) rfl rfl ?_
            obtain ⟨g217, e⟩ := gd_inv e
            refine Go.lald k3 q3 g217 (by decide +kernel) ?_
            refine Go.run (pc' := 1098) [.iload 6, .i2l, .lcmp] (ls' := [some (.ref 217), some (.ref a1), some (.ref a2), some (.ref a3), some (.int x4), some (.int v208.1), some (.int v211.1)]) (st' := [.int (lg_cmp ((v211.2 a3 (0 : Int32).toNatClampNeg).toInt64) v211.1.toInt64)]) (by decide +kernel) rfl rfl ?_
            refine Go.if_eq (off := 5) (tgt := 1103) (by decide +kernel) (by decide) (fun c218 => ?_) (fun c218 => ?_)
            · replace e := ite_t c218 e
              refine Go.wid (k' := k9 + 4) (n' := n9 + 24) (by omega) (by omega) ?_
              refine Go.wk' (wks (wks (wks (wks (wks (wkn (wkn wk0))))))) ?_
              exact x_Q_law_1103 hf hI (by omega) (by omega) (fun kk1 kk2 kk3 qq3 e => ih (by omega) (by omega) kk1 kk2 kk3 qq3 e) k1 k2 k3 q3 e
            · replace e := ite_f c218 e
              refine Go.run (pc' := 1102) [.iconst 0] (ls' := [some (.ref 217), some (.ref a1), some (.ref a2), some (.ref a3), some (.int x4), some (.int v208.1), some (.int v211.1)]) (st' := [.int (0 : Int32)]) (by decide +kernel) rfl rfl ?_
              exact no_none e
        · replace e := ite_f c215 e
          refine Go.run (pc' := 1085) [.iconst 0] (ls' := [some (.ref 217), some (.ref a1), some (.ref a2), some (.ref a3), some (.int x4), some (.int v208.1), some (.int v211.1)]) (st' := [.int (0 : Int32)]) (by decide +kernel) rfl rfl ?_
          exact no_none e
      replace e := ite_f c206 e
      rcases Decidable.em (((xs x4.toNatClampNeg) &&& (31 : Int32)) = 16) with c219 | c219
      · replace e := ite_t c219 e
        refine Go.tsIn (dflt := 1887) (lo := 0) (hi := 27) (offs := #[125, 181, 194, 207, 251, 307, 375, 455, 523, 591, 647, 715, 771, 851, 931, 1011, 1067, 1135, 1191, 1259, 1303, 1383, 1451, 1507, 1575, 1675, 1775, 1831]) (len := 125) (off := 1067) (tgt := 1106) 16 (by decide +kernel) (by rw [c219]; decide) (by decide) (by decide) (by decide) (by decide) ?_
        refine Go.run (pc' := 1112) [.aload_n 1, .aload_n 0, .iload 4, .iconst 1, .iadd] (ls' := [some (.ref 217), some (.ref a1), some (.ref a2), some (.ref a3), some (.int x4), none, none]) (st' := [.int (x4 + (1 : Int32)), .ref 217, .ref a1]) (by decide +kernel) rfl rfl ?_
        obtain ⟨g220, e⟩ := gd_inv e
        refine goSld g220 (by decide +kernel) ?_
        refine Go.run (pc' := 1118) [.aload_n 0, .iload 4, .iconst 2, .iadd] (ls' := [some (.ref 217), some (.ref a1), some (.ref a2), some (.ref a3), some (.int x4), none, none]) (st' := [.int (x4 + (2 : Int32)), .ref 217, .int (xs (x4 + (1 : Int32)).toNatClampNeg), .ref a1]) (by decide +kernel) rfl rfl ?_
        obtain ⟨g221, e⟩ := gd_inv e
        refine goSld g221 (by decide +kernel) ?_
        refine Go.run (pc' := 1120) [.aload_n 3] (ls' := [some (.ref 217), some (.ref a1), some (.ref a2), some (.ref a3), some (.int x4), none, none]) (st' := [.ref a3, .int (xs (x4 + (2 : Int32)).toNatClampNeg), .int (xs (x4 + (1 : Int32)).toNatClampNeg), .ref a1]) (by decide +kernel) rfl rfl ?_
        obtain ⟨v222, e223, e⟩ := bd_inv e
        refine Go.callH (M2 := m_Q_swap) (as := [.ref a1, .int (xs (x4 + (1 : Int32)).toNatClampNeg), .int (xs (x4 + (2 : Int32)).toNatClampNeg), .ref a3]) (rest := []) (v := some (.int v222.1)) (h1 := v222.2) (x_Q_swap hf hI k1 k3 e223) wh_Q_162 (by decide +kernel) rfl rfl ⟨⟨Nat.le_of_ble_eq_true rfl, Nat.le_of_ble_eq_true rfl⟩, ⟨(by show k9 + 2 ≤ 601024; omega), (by show n9 + 12 ≤ 7293034; omega)⟩⟩ (Nat.le_of_ble_eq_true rfl) ?_
        show Go l D ad aC room_1 _ m_Q_law 1123 [some (.ref 217), some (.ref a1), some (.ref a2), some (.ref a3), some (.int x4), none, none] [.int v222.1] v222.2 (k9 + 2) (n9 + 12)
        refine Go.run (pc' := 1131) [.istore 5, .aload_n 2, .aload_n 0, .iload 4, .iconst 1, .iadd] (ls' := [some (.ref 217), some (.ref a1), some (.ref a2), some (.ref a3), some (.int x4), some (.int v222.1), none]) (st' := [.int (x4 + (1 : Int32)), .ref 217, .ref a2]) (by decide +kernel) rfl rfl ?_
        obtain ⟨g224, e⟩ := gd_inv e
        refine goSld g224 (by decide +kernel) ?_
        refine Go.run (pc' := 1137) [.aload_n 0, .iload 4, .iconst 2, .iadd] (ls' := [some (.ref 217), some (.ref a1), some (.ref a2), some (.ref a3), some (.int x4), some (.int v222.1), none]) (st' := [.int (x4 + (2 : Int32)), .ref 217, .int (xs (x4 + (1 : Int32)).toNatClampNeg), .ref a2]) (by decide +kernel) rfl rfl ?_
        obtain ⟨g225, e⟩ := gd_inv e
        refine goSld g225 (by decide +kernel) ?_
        obtain ⟨v226, e227, e⟩ := bd_inv e
        refine Go.callV (M2 := m_M_swap) (a := a2) (as := [.int (xs (x4 + (1 : Int32)).toNatClampNeg), .int (xs (x4 + (2 : Int32)).toNatClampNeg)]) (rest := []) (v := some (.int v226.1)) (h1 := v226.2) (x_M_swap hf hI k2 e227) wv_Q_164 k2 kc_8 (by decide +kernel) rfl rfl ⟨⟨Nat.le_of_ble_eq_true rfl, Nat.le_of_ble_eq_true rfl⟩, ⟨(by show k9 + 2 + 0 ≤ 601024; omega), (by show n9 + 12 + 0 ≤ 7293034; omega)⟩⟩ (Nat.le_of_ble_eq_true rfl) ?_
        show Go l D ad aC room_1 _ m_Q_law 1141 [some (.ref 217), some (.ref a1), some (.ref a2), some (.ref a3), some (.int x4), some (.int v222.1), none] [.int v226.1] v226.2 (k9 + 2) (n9 + 12)
        refine Go.run (pc' := 1144) [.istore 6, .aload_n 2] (ls' := [some (.ref 217), some (.ref a1), some (.ref a2), some (.ref a3), some (.int x4), some (.int v222.1), some (.int v226.1)]) (st' := [.ref a2]) (by decide +kernel) rfl rfl ?_
        obtain ⟨v228, e229, e⟩ := bd_inv e
        refine Go.callV (M2 := m_M_thrown) (a := a2) (as := []) (rest := []) (v := some (.int v228)) (h1 := v226.2) (x_M_thrown hf hI k2 e229) wv_Q_109 k2 kc_8 (by decide +kernel) rfl rfl ⟨⟨Nat.le_of_ble_eq_true rfl, Nat.le_of_ble_eq_true rfl⟩, ⟨(by show k9 + 2 + 0 ≤ 601024; omega), (by show n9 + 12 + 0 ≤ 7293034; omega)⟩⟩ (Nat.le_of_ble_eq_true rfl) ?_
        show Go l D ad aC room_1 _ m_Q_law 1147 [some (.ref 217), some (.ref a1), some (.ref a2), some (.ref a3), some (.int x4), some (.int v222.1), some (.int v226.1)] [.int v228] v226.2 (k9 + 2) (n9 + 12)
        refine Go.run (pc' := 1149) [.iload 5] (ls' := [some (.ref 217), some (.ref a1), some (.ref a2), some (.ref a3), some (.int x4), some (.int v222.1), some (.int v226.1)]) (st' := [.int v222.1, .int v228]) (by decide +kernel) rfl rfl ?_
        refine Go.ic_eq (off := 5) (tgt := 1154) (by decide +kernel) (by decide) (fun c230 => ?_) (fun c230 => ?_)
        · replace e := ite_t c230 e
          refine Go.run (pc' := 1156) [.iload 5] (ls' := [some (.ref 217), some (.ref a1), some (.ref a2), some (.ref a3), some (.int x4), some (.int v222.1), some (.int v226.1)]) (st' := [.int v222.1]) (by decide +kernel) rfl rfl ?_
          refine Go.if_ne (off := 15) (tgt := 1171) (by decide +kernel) (by decide) (fun c231 => ?_) (fun c231 => ?_)
          · replace e := ite_f c231 e
            refine Go.wid (k' := k9 + 4) (n' := n9 + 24) (by omega) (by omega) ?_
            refine Go.wk' (wks (wks (wks (wks (wks (wkn (wkn wk0))))))) ?_
            exact x_Q_law_1171 hf hI (by omega) (by omega) (fun kk1 kk2 kk3 qq3 e => ih (by omega) (by omega) kk1 kk2 kk3 qq3 e) k1 k2 k3 q3 e
          · replace e := ite_t c231 e
            refine Go.run (pc' := 1161) [.aload_n 3, .iconst 0] (ls' := [some (.ref 217), some (.ref a1), some (.ref a2), some (.ref a3), some (.int x4), some (.int v222.1), some (.int v226.1)]) (st' := [.int (0 : Int32), .ref a3]) (by decide +kernel) rfl rfl ?_
            obtain ⟨g232, e⟩ := gd_inv e
            refine Go.lald k3 q3 g232 (by decide +kernel) ?_
            refine Go.run (pc' := 1166) [.iload 6, .i2l, .lcmp] (ls' := [some (.ref 217), some (.ref a1), some (.ref a2), some (.ref a3), some (.int x4), some (.int v222.1), some (.int v226.1)]) (st' := [.int (lg_cmp ((v226.2 a3 (0 : Int32).toNatClampNeg).toInt64) v226.1.toInt64)]) (by decide +kernel) rfl rfl ?_
            refine Go.if_eq (off := 5) (tgt := 1171) (by decide +kernel) (by decide) (fun c233 => ?_) (fun c233 => ?_)
            · replace e := ite_t c233 e
              refine Go.wid (k' := k9 + 4) (n' := n9 + 24) (by omega) (by omega) ?_
              refine Go.wk' (wks (wks (wks (wks (wks (wkn (wkn wk0))))))) ?_
              exact x_Q_law_1171 hf hI (by omega) (by omega) (fun kk1 kk2 kk3 qq3 e => ih (by omega) (by omega) kk1 kk2 kk3 qq3 e) k1 k2 k3 q3 e
            · replace e := ite_f c233 e
              refine Go.run (pc' := 1170) [.iconst 0] (ls' := [some (.ref 217), some (.ref a1), some (.ref a2), some (.ref a3), some (.int x4), some (.int v222.1), some (.int v226.1)]) (st' := [.int (0 : Int32)]) (by decide +kernel) rfl rfl ?_
              exact no_none e
        · replace e := ite_f c230 e
          refine Go.run (pc' := 1153) [.iconst 0] (ls' := [some (.ref 217), some (.ref a1), some (.ref a2), some (.ref a3), some (.int x4), some (.int v222.1), some (.int v226.1)]) (st' := [.int (0 : Int32)]) (by decide +kernel) rfl rfl ?_
          exact no_none e
      replace e := ite_f c219 e
      rcases Decidable.em (((xs x4.toNatClampNeg) &&& (31 : Int32)) = 17) with c234 | c234
      · replace e := ite_t c234 e
        refine Go.tsIn (dflt := 1887) (lo := 0) (hi := 27) (offs := #[125, 181, 194, 207, 251, 307, 375, 455, 523, 591, 647, 715, 771, 851, 931, 1011, 1067, 1135, 1191, 1259, 1303, 1383, 1451, 1507, 1575, 1675, 1775, 1831]) (len := 125) (off := 1135) (tgt := 1174) 17 (by decide +kernel) (by rw [c234]; decide) (by decide) (by decide) (by decide) (by decide) ?_
        refine Go.run (pc' := 1180) [.aload_n 1, .aload_n 0, .iload 4, .iconst 1, .iadd] (ls' := [some (.ref 217), some (.ref a1), some (.ref a2), some (.ref a3), some (.int x4), none, none]) (st' := [.int (x4 + (1 : Int32)), .ref 217, .ref a1]) (by decide +kernel) rfl rfl ?_
        obtain ⟨g235, e⟩ := gd_inv e
        refine goSld g235 (by decide +kernel) ?_
        refine Go.run (pc' := 1182) [.aload_n 3] (ls' := [some (.ref 217), some (.ref a1), some (.ref a2), some (.ref a3), some (.int x4), none, none]) (st' := [.ref a3, .int (xs (x4 + (1 : Int32)).toNatClampNeg), .ref a1]) (by decide +kernel) rfl rfl ?_
        obtain ⟨v236, e237, e⟩ := bd_inv e
        refine Go.callH (M2 := m_Q_days) (as := [.ref a1, .int (xs (x4 + (1 : Int32)).toNatClampNeg), .ref a3]) (rest := []) (v := some (.int v236.1)) (h1 := v236.2) (x_Q_days hf hI k1 k3 e237) wh_Q_165 (by decide +kernel) rfl rfl ⟨⟨Nat.le_of_ble_eq_true rfl, Nat.le_of_ble_eq_true rfl⟩, ⟨(by show k9 + 1 ≤ 601024; omega), (by show n9 + 6 ≤ 7293034; omega)⟩⟩ (Nat.le_of_ble_eq_true rfl) ?_
        show Go l D ad aC room_1 _ m_Q_law 1185 [some (.ref 217), some (.ref a1), some (.ref a2), some (.ref a3), some (.int x4), none, none] [.int v236.1] v236.2 (k9 + 1) (n9 + 6)
        refine Go.run (pc' := 1193) [.istore 5, .aload_n 2, .aload_n 0, .iload 4, .iconst 1, .iadd] (ls' := [some (.ref 217), some (.ref a1), some (.ref a2), some (.ref a3), some (.int x4), some (.int v236.1), none]) (st' := [.int (x4 + (1 : Int32)), .ref 217, .ref a2]) (by decide +kernel) rfl rfl ?_
        obtain ⟨g238, e⟩ := gd_inv e
        refine goSld g238 (by decide +kernel) ?_
        obtain ⟨v239, e240, e⟩ := bd_inv e
        refine Go.callV (M2 := m_M_days) (a := a2) (as := [.int (xs (x4 + (1 : Int32)).toNatClampNeg)]) (rest := []) (v := some (.int v239.1)) (h1 := v239.2) (x_M_days hf hI k2 e240) wv_Q_167 k2 kc_8 (by decide +kernel) rfl rfl ⟨⟨Nat.le_of_ble_eq_true rfl, Nat.le_of_ble_eq_true rfl⟩, ⟨(by show k9 + 1 + 0 ≤ 601024; omega), (by show n9 + 6 + 0 ≤ 7293034; omega)⟩⟩ (Nat.le_of_ble_eq_true rfl) ?_
        show Go l D ad aC room_1 _ m_Q_law 1197 [some (.ref 217), some (.ref a1), some (.ref a2), some (.ref a3), some (.int x4), some (.int v236.1), none] [.int v239.1] v239.2 (k9 + 1) (n9 + 6)
        refine Go.run (pc' := 1200) [.istore 6, .aload_n 2] (ls' := [some (.ref 217), some (.ref a1), some (.ref a2), some (.ref a3), some (.int x4), some (.int v236.1), some (.int v239.1)]) (st' := [.ref a2]) (by decide +kernel) rfl rfl ?_
        obtain ⟨v241, e242, e⟩ := bd_inv e
        refine Go.callV (M2 := m_M_thrown) (a := a2) (as := []) (rest := []) (v := some (.int v241)) (h1 := v239.2) (x_M_thrown hf hI k2 e242) wv_Q_109 k2 kc_8 (by decide +kernel) rfl rfl ⟨⟨Nat.le_of_ble_eq_true rfl, Nat.le_of_ble_eq_true rfl⟩, ⟨(by show k9 + 1 + 0 ≤ 601024; omega), (by show n9 + 6 + 0 ≤ 7293034; omega)⟩⟩ (Nat.le_of_ble_eq_true rfl) ?_
        show Go l D ad aC room_1 _ m_Q_law 1203 [some (.ref 217), some (.ref a1), some (.ref a2), some (.ref a3), some (.int x4), some (.int v236.1), some (.int v239.1)] [.int v241] v239.2 (k9 + 1) (n9 + 6)
        refine Go.run (pc' := 1205) [.iload 5] (ls' := [some (.ref 217), some (.ref a1), some (.ref a2), some (.ref a3), some (.int x4), some (.int v236.1), some (.int v239.1)]) (st' := [.int v236.1, .int v241]) (by decide +kernel) rfl rfl ?_
        refine Go.ic_eq (off := 5) (tgt := 1210) (by decide +kernel) (by decide) (fun c243 => ?_) (fun c243 => ?_)
        · replace e := ite_t c243 e
          refine Go.run (pc' := 1212) [.iload 5] (ls' := [some (.ref 217), some (.ref a1), some (.ref a2), some (.ref a3), some (.int x4), some (.int v236.1), some (.int v239.1)]) (st' := [.int v236.1]) (by decide +kernel) rfl rfl ?_
          refine Go.if_ne (off := 15) (tgt := 1227) (by decide +kernel) (by decide) (fun c244 => ?_) (fun c244 => ?_)
          · replace e := ite_f c244 e
            refine Go.wid (k' := k9 + 4) (n' := n9 + 24) (by omega) (by omega) ?_
            refine Go.wk' (wks (wks (wks (wks (wks (wkn (wkn wk0))))))) ?_
            exact x_Q_law_1227 hf hI (by omega) (by omega) (fun kk1 kk2 kk3 qq3 e => ih (by omega) (by omega) kk1 kk2 kk3 qq3 e) k1 k2 k3 q3 e
          · replace e := ite_t c244 e
            refine Go.run (pc' := 1217) [.aload_n 3, .iconst 0] (ls' := [some (.ref 217), some (.ref a1), some (.ref a2), some (.ref a3), some (.int x4), some (.int v236.1), some (.int v239.1)]) (st' := [.int (0 : Int32), .ref a3]) (by decide +kernel) rfl rfl ?_
            obtain ⟨g245, e⟩ := gd_inv e
            refine Go.lald k3 q3 g245 (by decide +kernel) ?_
            refine Go.run (pc' := 1222) [.iload 6, .i2l, .lcmp] (ls' := [some (.ref 217), some (.ref a1), some (.ref a2), some (.ref a3), some (.int x4), some (.int v236.1), some (.int v239.1)]) (st' := [.int (lg_cmp ((v239.2 a3 (0 : Int32).toNatClampNeg).toInt64) v239.1.toInt64)]) (by decide +kernel) rfl rfl ?_
            refine Go.if_eq (off := 5) (tgt := 1227) (by decide +kernel) (by decide) (fun c246 => ?_) (fun c246 => ?_)
            · replace e := ite_t c246 e
              refine Go.wid (k' := k9 + 4) (n' := n9 + 24) (by omega) (by omega) ?_
              refine Go.wk' (wks (wks (wks (wks (wks (wkn (wkn wk0))))))) ?_
              exact x_Q_law_1227 hf hI (by omega) (by omega) (fun kk1 kk2 kk3 qq3 e => ih (by omega) (by omega) kk1 kk2 kk3 qq3 e) k1 k2 k3 q3 e
            · replace e := ite_f c246 e
              refine Go.run (pc' := 1226) [.iconst 0] (ls' := [some (.ref 217), some (.ref a1), some (.ref a2), some (.ref a3), some (.int x4), some (.int v236.1), some (.int v239.1)]) (st' := [.int (0 : Int32)]) (by decide +kernel) rfl rfl ?_
              exact no_none e
        · replace e := ite_f c243 e
          refine Go.run (pc' := 1209) [.iconst 0] (ls' := [some (.ref 217), some (.ref a1), some (.ref a2), some (.ref a3), some (.int x4), some (.int v236.1), some (.int v239.1)]) (st' := [.int (0 : Int32)]) (by decide +kernel) rfl rfl ?_
          exact no_none e
      replace e := ite_f c234 e
      rcases Decidable.em (((xs x4.toNatClampNeg) &&& (31 : Int32)) = 18) with c247 | c247
      · replace e := ite_t c247 e
        refine Go.tsIn (dflt := 1887) (lo := 0) (hi := 27) (offs := #[125, 181, 194, 207, 251, 307, 375, 455, 523, 591, 647, 715, 771, 851, 931, 1011, 1067, 1135, 1191, 1259, 1303, 1383, 1451, 1507, 1575, 1675, 1775, 1831]) (len := 125) (off := 1191) (tgt := 1230) 18 (by decide +kernel) (by rw [c247]; decide) (by decide) (by decide) (by decide) (by decide) ?_
        refine Go.run (pc' := 1236) [.aload_n 1, .aload_n 0, .iload 4, .iconst 1, .iadd] (ls' := [some (.ref 217), some (.ref a1), some (.ref a2), some (.ref a3), some (.int x4), none, none]) (st' := [.int (x4 + (1 : Int32)), .ref 217, .ref a1]) (by decide +kernel) rfl rfl ?_
        obtain ⟨g248, e⟩ := gd_inv e
        refine goSld g248 (by decide +kernel) ?_
        refine Go.run (pc' := 1242) [.aload_n 0, .iload 4, .iconst 2, .iadd] (ls' := [some (.ref 217), some (.ref a1), some (.ref a2), some (.ref a3), some (.int x4), none, none]) (st' := [.int (x4 + (2 : Int32)), .ref 217, .int (xs (x4 + (1 : Int32)).toNatClampNeg), .ref a1]) (by decide +kernel) rfl rfl ?_
        obtain ⟨g249, e⟩ := gd_inv e
        refine goSld g249 (by decide +kernel) ?_
        refine Go.run (pc' := 1244) [.aload_n 3] (ls' := [some (.ref 217), some (.ref a1), some (.ref a2), some (.ref a3), some (.int x4), none, none]) (st' := [.ref a3, .int (xs (x4 + (2 : Int32)).toNatClampNeg), .int (xs (x4 + (1 : Int32)).toNatClampNeg), .ref a1]) (by decide +kernel) rfl rfl ?_
        obtain ⟨v250, e251, e⟩ := bd_inv e
        refine Go.callH (M2 := m_Q_set) (as := [.ref a1, .int (xs (x4 + (1 : Int32)).toNatClampNeg), .int (xs (x4 + (2 : Int32)).toNatClampNeg), .ref a3]) (rest := []) (v := some (.int v250.1)) (h1 := v250.2) (x_Q_set hf hI k1 k3 e251) wh_Q_168 (by decide +kernel) rfl rfl ⟨⟨Nat.le_of_ble_eq_true rfl, Nat.le_of_ble_eq_true rfl⟩, ⟨(by show k9 + 1 ≤ 601024; omega), (by show n9 + 6 ≤ 7293034; omega)⟩⟩ (Nat.le_of_ble_eq_true rfl) ?_
        show Go l D ad aC room_1 _ m_Q_law 1247 [some (.ref 217), some (.ref a1), some (.ref a2), some (.ref a3), some (.int x4), none, none] [.int v250.1] v250.2 (k9 + 1) (n9 + 6)
        refine Go.run (pc' := 1255) [.istore 5, .aload_n 2, .aload_n 0, .iload 4, .iconst 1, .iadd] (ls' := [some (.ref 217), some (.ref a1), some (.ref a2), some (.ref a3), some (.int x4), some (.int v250.1), none]) (st' := [.int (x4 + (1 : Int32)), .ref 217, .ref a2]) (by decide +kernel) rfl rfl ?_
        obtain ⟨g252, e⟩ := gd_inv e
        refine goSld g252 (by decide +kernel) ?_
        refine Go.run (pc' := 1261) [.aload_n 0, .iload 4, .iconst 2, .iadd] (ls' := [some (.ref 217), some (.ref a1), some (.ref a2), some (.ref a3), some (.int x4), some (.int v250.1), none]) (st' := [.int (x4 + (2 : Int32)), .ref 217, .int (xs (x4 + (1 : Int32)).toNatClampNeg), .ref a2]) (by decide +kernel) rfl rfl ?_
        obtain ⟨g253, e⟩ := gd_inv e
        refine goSld g253 (by decide +kernel) ?_
        obtain ⟨v254, e255, e⟩ := bd_inv e
        refine Go.callV (M2 := m_M_set) (a := a2) (as := [.int (xs (x4 + (1 : Int32)).toNatClampNeg), .int (xs (x4 + (2 : Int32)).toNatClampNeg)]) (rest := []) (v := some (.int v254.1)) (h1 := v254.2) (x_M_set hf hI k2 e255) wv_Q_170 k2 kc_8 (by decide +kernel) rfl rfl ⟨⟨Nat.le_of_ble_eq_true rfl, Nat.le_of_ble_eq_true rfl⟩, ⟨(by show k9 + 1 + 0 ≤ 601024; omega), (by show n9 + 6 + 0 ≤ 7293034; omega)⟩⟩ (Nat.le_of_ble_eq_true rfl) ?_
        show Go l D ad aC room_1 _ m_Q_law 1265 [some (.ref 217), some (.ref a1), some (.ref a2), some (.ref a3), some (.int x4), some (.int v250.1), none] [.int v254.1] v254.2 (k9 + 1) (n9 + 6)
        refine Go.run (pc' := 1268) [.istore 6, .aload_n 2] (ls' := [some (.ref 217), some (.ref a1), some (.ref a2), some (.ref a3), some (.int x4), some (.int v250.1), some (.int v254.1)]) (st' := [.ref a2]) (by decide +kernel) rfl rfl ?_
        obtain ⟨v256, e257, e⟩ := bd_inv e
        refine Go.callV (M2 := m_M_thrown) (a := a2) (as := []) (rest := []) (v := some (.int v256)) (h1 := v254.2) (x_M_thrown hf hI k2 e257) wv_Q_109 k2 kc_8 (by decide +kernel) rfl rfl ⟨⟨Nat.le_of_ble_eq_true rfl, Nat.le_of_ble_eq_true rfl⟩, ⟨(by show k9 + 1 + 0 ≤ 601024; omega), (by show n9 + 6 + 0 ≤ 7293034; omega)⟩⟩ (Nat.le_of_ble_eq_true rfl) ?_
        show Go l D ad aC room_1 _ m_Q_law 1271 [some (.ref 217), some (.ref a1), some (.ref a2), some (.ref a3), some (.int x4), some (.int v250.1), some (.int v254.1)] [.int v256] v254.2 (k9 + 1) (n9 + 6)
        refine Go.run (pc' := 1273) [.iload 5] (ls' := [some (.ref 217), some (.ref a1), some (.ref a2), some (.ref a3), some (.int x4), some (.int v250.1), some (.int v254.1)]) (st' := [.int v250.1, .int v256]) (by decide +kernel) rfl rfl ?_
        refine Go.ic_eq (off := 5) (tgt := 1278) (by decide +kernel) (by decide) (fun c258 => ?_) (fun c258 => ?_)
        · replace e := ite_t c258 e
          refine Go.run (pc' := 1280) [.iload 5] (ls' := [some (.ref 217), some (.ref a1), some (.ref a2), some (.ref a3), some (.int x4), some (.int v250.1), some (.int v254.1)]) (st' := [.int v250.1]) (by decide +kernel) rfl rfl ?_
          refine Go.if_ne (off := 15) (tgt := 1295) (by decide +kernel) (by decide) (fun c259 => ?_) (fun c259 => ?_)
          · replace e := ite_f c259 e
            refine Go.wid (k' := k9 + 4) (n' := n9 + 24) (by omega) (by omega) ?_
            refine Go.wk' (wks (wks (wks (wks (wks (wkn (wkn wk0))))))) ?_
            exact x_Q_law_1295 hf hI (by omega) (by omega) (fun kk1 kk2 kk3 qq3 e => ih (by omega) (by omega) kk1 kk2 kk3 qq3 e) k1 k2 k3 q3 e
          · replace e := ite_t c259 e
            refine Go.run (pc' := 1285) [.aload_n 3, .iconst 0] (ls' := [some (.ref 217), some (.ref a1), some (.ref a2), some (.ref a3), some (.int x4), some (.int v250.1), some (.int v254.1)]) (st' := [.int (0 : Int32), .ref a3]) (by decide +kernel) rfl rfl ?_
            obtain ⟨g260, e⟩ := gd_inv e
            refine Go.lald k3 q3 g260 (by decide +kernel) ?_
            refine Go.run (pc' := 1290) [.iload 6, .i2l, .lcmp] (ls' := [some (.ref 217), some (.ref a1), some (.ref a2), some (.ref a3), some (.int x4), some (.int v250.1), some (.int v254.1)]) (st' := [.int (lg_cmp ((v254.2 a3 (0 : Int32).toNatClampNeg).toInt64) v254.1.toInt64)]) (by decide +kernel) rfl rfl ?_
            refine Go.if_eq (off := 5) (tgt := 1295) (by decide +kernel) (by decide) (fun c261 => ?_) (fun c261 => ?_)
            · replace e := ite_t c261 e
              refine Go.wid (k' := k9 + 4) (n' := n9 + 24) (by omega) (by omega) ?_
              refine Go.wk' (wks (wks (wks (wks (wks (wkn (wkn wk0))))))) ?_
              exact x_Q_law_1295 hf hI (by omega) (by omega) (fun kk1 kk2 kk3 qq3 e => ih (by omega) (by omega) kk1 kk2 kk3 qq3 e) k1 k2 k3 q3 e
            · replace e := ite_f c261 e
              refine Go.run (pc' := 1294) [.iconst 0] (ls' := [some (.ref 217), some (.ref a1), some (.ref a2), some (.ref a3), some (.int x4), some (.int v250.1), some (.int v254.1)]) (st' := [.int (0 : Int32)]) (by decide +kernel) rfl rfl ?_
              exact no_none e
        · replace e := ite_f c258 e
          refine Go.run (pc' := 1277) [.iconst 0] (ls' := [some (.ref 217), some (.ref a1), some (.ref a2), some (.ref a3), some (.int x4), some (.int v250.1), some (.int v254.1)]) (st' := [.int (0 : Int32)]) (by decide +kernel) rfl rfl ?_
          exact no_none e
      replace e := ite_f c247 e
      rcases Decidable.em (((xs x4.toNatClampNeg) &&& (31 : Int32)) = 19) with c262 | c262
      · replace e := ite_t c262 e
        refine Go.tsIn (dflt := 1887) (lo := 0) (hi := 27) (offs := #[125, 181, 194, 207, 251, 307, 375, 455, 523, 591, 647, 715, 771, 851, 931, 1011, 1067, 1135, 1191, 1259, 1303, 1383, 1451, 1507, 1575, 1675, 1775, 1831]) (len := 125) (off := 1259) (tgt := 1298) 19 (by decide +kernel) (by rw [c262]; decide) (by decide) (by decide) (by decide) (by decide) ?_
        refine Go.run (pc' := 1300) [.aload_n 1, .aload_n 3] (ls' := [some (.ref 217), some (.ref a1), some (.ref a2), some (.ref a3), some (.int x4), none, none]) (st' := [.ref a3, .ref a1]) (by decide +kernel) rfl rfl ?_
        obtain ⟨v263, e264, e⟩ := bd_inv e
        refine Go.callH (M2 := m_Q_undo) (as := [.ref a1, .ref a3]) (rest := []) (v := some (.int v263.1)) (h1 := v263.2) (x_Q_undo hf hI k1 k3 e264) wh_Q_171 (by decide +kernel) rfl rfl ⟨⟨Nat.le_of_ble_eq_true rfl, Nat.le_of_ble_eq_true rfl⟩, ⟨(by show k9 + 1 ≤ 601024; omega), (by show n9 + 6 ≤ 7293034; omega)⟩⟩ (Nat.le_of_ble_eq_true rfl) ?_
        show Go l D ad aC room_1 _ m_Q_law 1303 [some (.ref 217), some (.ref a1), some (.ref a2), some (.ref a3), some (.int x4), none, none] [.int v263.1] v263.2 (k9 + 1) (n9 + 6)
        refine Go.run (pc' := 1306) [.istore 5, .aload_n 2] (ls' := [some (.ref 217), some (.ref a1), some (.ref a2), some (.ref a3), some (.int x4), some (.int v263.1), none]) (st' := [.ref a2]) (by decide +kernel) rfl rfl ?_
        obtain ⟨v265, e266, e⟩ := bd_inv e
        refine Go.callV (M2 := m_M_undo) (a := a2) (as := []) (rest := []) (v := some (.int v265.1)) (h1 := v265.2) (x_M_undo hf hI k2 e266) wv_Q_173 k2 kc_8 (by decide +kernel) rfl rfl ⟨⟨Nat.le_of_ble_eq_true rfl, Nat.le_of_ble_eq_true rfl⟩, ⟨(by show k9 + 1 + 0 ≤ 601024; omega), (by show n9 + 6 + 0 ≤ 7293034; omega)⟩⟩ (Nat.le_of_ble_eq_true rfl) ?_
        show Go l D ad aC room_1 _ m_Q_law 1309 [some (.ref 217), some (.ref a1), some (.ref a2), some (.ref a3), some (.int x4), some (.int v263.1), none] [.int v265.1] v265.2 (k9 + 1) (n9 + 6)
        refine Go.run (pc' := 1312) [.istore 6, .aload_n 2] (ls' := [some (.ref 217), some (.ref a1), some (.ref a2), some (.ref a3), some (.int x4), some (.int v263.1), some (.int v265.1)]) (st' := [.ref a2]) (by decide +kernel) rfl rfl ?_
        obtain ⟨v267, e268, e⟩ := bd_inv e
        refine Go.callV (M2 := m_M_thrown) (a := a2) (as := []) (rest := []) (v := some (.int v267)) (h1 := v265.2) (x_M_thrown hf hI k2 e268) wv_Q_109 k2 kc_8 (by decide +kernel) rfl rfl ⟨⟨Nat.le_of_ble_eq_true rfl, Nat.le_of_ble_eq_true rfl⟩, ⟨(by show k9 + 1 + 0 ≤ 601024; omega), (by show n9 + 6 + 0 ≤ 7293034; omega)⟩⟩ (Nat.le_of_ble_eq_true rfl) ?_
        show Go l D ad aC room_1 _ m_Q_law 1315 [some (.ref 217), some (.ref a1), some (.ref a2), some (.ref a3), some (.int x4), some (.int v263.1), some (.int v265.1)] [.int v267] v265.2 (k9 + 1) (n9 + 6)
        refine Go.run (pc' := 1317) [.iload 5] (ls' := [some (.ref 217), some (.ref a1), some (.ref a2), some (.ref a3), some (.int x4), some (.int v263.1), some (.int v265.1)]) (st' := [.int v263.1, .int v267]) (by decide +kernel) rfl rfl ?_
        refine Go.ic_eq (off := 5) (tgt := 1322) (by decide +kernel) (by decide) (fun c269 => ?_) (fun c269 => ?_)
        · replace e := ite_t c269 e
          refine Go.run (pc' := 1324) [.iload 5] (ls' := [some (.ref 217), some (.ref a1), some (.ref a2), some (.ref a3), some (.int x4), some (.int v263.1), some (.int v265.1)]) (st' := [.int v263.1]) (by decide +kernel) rfl rfl ?_
          refine Go.if_ne (off := 15) (tgt := 1339) (by decide +kernel) (by decide) (fun c270 => ?_) (fun c270 => ?_)
          · replace e := ite_f c270 e
            refine Go.wid (k' := k9 + 4) (n' := n9 + 24) (by omega) (by omega) ?_
            refine Go.wk' (wks (wks (wks (wks (wks (wkn (wkn wk0))))))) ?_
            exact x_Q_law_1339 hf hI (by omega) (by omega) (fun kk1 kk2 kk3 qq3 e => ih (by omega) (by omega) kk1 kk2 kk3 qq3 e) k1 k2 k3 q3 e
          · replace e := ite_t c270 e
            refine Go.run (pc' := 1329) [.aload_n 3, .iconst 0] (ls' := [some (.ref 217), some (.ref a1), some (.ref a2), some (.ref a3), some (.int x4), some (.int v263.1), some (.int v265.1)]) (st' := [.int (0 : Int32), .ref a3]) (by decide +kernel) rfl rfl ?_
            obtain ⟨g271, e⟩ := gd_inv e
            refine Go.lald k3 q3 g271 (by decide +kernel) ?_
            refine Go.run (pc' := 1334) [.iload 6, .i2l, .lcmp] (ls' := [some (.ref 217), some (.ref a1), some (.ref a2), some (.ref a3), some (.int x4), some (.int v263.1), some (.int v265.1)]) (st' := [.int (lg_cmp ((v265.2 a3 (0 : Int32).toNatClampNeg).toInt64) v265.1.toInt64)]) (by decide +kernel) rfl rfl ?_
            refine Go.if_eq (off := 5) (tgt := 1339) (by decide +kernel) (by decide) (fun c272 => ?_) (fun c272 => ?_)
            · replace e := ite_t c272 e
              refine Go.wid (k' := k9 + 4) (n' := n9 + 24) (by omega) (by omega) ?_
              refine Go.wk' (wks (wks (wks (wks (wks (wkn (wkn wk0))))))) ?_
              exact x_Q_law_1339 hf hI (by omega) (by omega) (fun kk1 kk2 kk3 qq3 e => ih (by omega) (by omega) kk1 kk2 kk3 qq3 e) k1 k2 k3 q3 e
            · replace e := ite_f c272 e
              refine Go.run (pc' := 1338) [.iconst 0] (ls' := [some (.ref 217), some (.ref a1), some (.ref a2), some (.ref a3), some (.int x4), some (.int v263.1), some (.int v265.1)]) (st' := [.int (0 : Int32)]) (by decide +kernel) rfl rfl ?_
              exact no_none e
        · replace e := ite_f c269 e
          refine Go.run (pc' := 1321) [.iconst 0] (ls' := [some (.ref 217), some (.ref a1), some (.ref a2), some (.ref a3), some (.int x4), some (.int v263.1), some (.int v265.1)]) (st' := [.int (0 : Int32)]) (by decide +kernel) rfl rfl ?_
          exact no_none e
      replace e := ite_f c262 e
      rcases Decidable.em (((xs x4.toNatClampNeg) &&& (31 : Int32)) = 20) with c273 | c273
      · replace e := ite_t c273 e
        refine Go.tsIn (dflt := 1887) (lo := 0) (hi := 27) (offs := #[125, 181, 194, 207, 251, 307, 375, 455, 523, 591, 647, 715, 771, 851, 931, 1011, 1067, 1135, 1191, 1259, 1303, 1383, 1451, 1507, 1575, 1675, 1775, 1831]) (len := 125) (off := 1303) (tgt := 1342) 20 (by decide +kernel) (by rw [c273]; decide) (by decide) (by decide) (by decide) (by decide) ?_
        refine Go.run (pc' := 1348) [.aload_n 1, .aload_n 0, .iload 4, .iconst 1, .iadd] (ls' := [some (.ref 217), some (.ref a1), some (.ref a2), some (.ref a3), some (.int x4), none, none]) (st' := [.int (x4 + (1 : Int32)), .ref 217, .ref a1]) (by decide +kernel) rfl rfl ?_
        obtain ⟨g274, e⟩ := gd_inv e
        refine goSld g274 (by decide +kernel) ?_
        refine Go.run (pc' := 1354) [.aload_n 0, .iload 4, .iconst 2, .iadd] (ls' := [some (.ref 217), some (.ref a1), some (.ref a2), some (.ref a3), some (.int x4), none, none]) (st' := [.int (x4 + (2 : Int32)), .ref 217, .int (xs (x4 + (1 : Int32)).toNatClampNeg), .ref a1]) (by decide +kernel) rfl rfl ?_
        obtain ⟨g275, e⟩ := gd_inv e
        refine goSld g275 (by decide +kernel) ?_
        refine Go.run (pc' := 1360) [.aload_n 0, .iload 4, .iconst 3, .iadd] (ls' := [some (.ref 217), some (.ref a1), some (.ref a2), some (.ref a3), some (.int x4), none, none]) (st' := [.int (x4 + (3 : Int32)), .ref 217, .int (xs (x4 + (2 : Int32)).toNatClampNeg), .int (xs (x4 + (1 : Int32)).toNatClampNeg), .ref a1]) (by decide +kernel) rfl rfl ?_
        obtain ⟨g276, e⟩ := gd_inv e
        refine goSld g276 (by decide +kernel) ?_
        refine Go.run (pc' := 1362) [.aload_n 3] (ls' := [some (.ref 217), some (.ref a1), some (.ref a2), some (.ref a3), some (.int x4), none, none]) (st' := [.ref a3, .int (xs (x4 + (3 : Int32)).toNatClampNeg), .int (xs (x4 + (2 : Int32)).toNatClampNeg), .int (xs (x4 + (1 : Int32)).toNatClampNeg), .ref a1]) (by decide +kernel) rfl rfl ?_
        obtain ⟨v277, e278, e⟩ := bd_inv e
        refine Go.callH (M2 := m_Q_rentIf) (as := [.ref a1, .int (xs (x4 + (1 : Int32)).toNatClampNeg), .int (xs (x4 + (2 : Int32)).toNatClampNeg), .int (xs (x4 + (3 : Int32)).toNatClampNeg), .ref a3]) (rest := []) (v := some (.int v277.1)) (h1 := v277.2) (x_Q_rentIf hf hI k1 k3 e278) wh_Q_174 (by decide +kernel) rfl rfl ⟨⟨Nat.le_of_ble_eq_true rfl, Nat.le_of_ble_eq_true rfl⟩, ⟨(by show k9 + 1 ≤ 601024; omega), (by show n9 + 6 ≤ 7293034; omega)⟩⟩ (Nat.le_of_ble_eq_true rfl) ?_
        show Go l D ad aC room_1 _ m_Q_law 1365 [some (.ref 217), some (.ref a1), some (.ref a2), some (.ref a3), some (.int x4), none, none] [.int v277.1] v277.2 (k9 + 1) (n9 + 6)
        refine Go.run (pc' := 1373) [.istore 5, .aload_n 2, .aload_n 0, .iload 4, .iconst 1, .iadd] (ls' := [some (.ref 217), some (.ref a1), some (.ref a2), some (.ref a3), some (.int x4), some (.int v277.1), none]) (st' := [.int (x4 + (1 : Int32)), .ref 217, .ref a2]) (by decide +kernel) rfl rfl ?_
        obtain ⟨g279, e⟩ := gd_inv e
        refine goSld g279 (by decide +kernel) ?_
        refine Go.run (pc' := 1379) [.aload_n 0, .iload 4, .iconst 2, .iadd] (ls' := [some (.ref 217), some (.ref a1), some (.ref a2), some (.ref a3), some (.int x4), some (.int v277.1), none]) (st' := [.int (x4 + (2 : Int32)), .ref 217, .int (xs (x4 + (1 : Int32)).toNatClampNeg), .ref a2]) (by decide +kernel) rfl rfl ?_
        obtain ⟨g280, e⟩ := gd_inv e
        refine goSld g280 (by decide +kernel) ?_
        refine Go.run (pc' := 1385) [.aload_n 0, .iload 4, .iconst 3, .iadd] (ls' := [some (.ref 217), some (.ref a1), some (.ref a2), some (.ref a3), some (.int x4), some (.int v277.1), none]) (st' := [.int (x4 + (3 : Int32)), .ref 217, .int (xs (x4 + (2 : Int32)).toNatClampNeg), .int (xs (x4 + (1 : Int32)).toNatClampNeg), .ref a2]) (by decide +kernel) rfl rfl ?_
        obtain ⟨g281, e⟩ := gd_inv e
        refine goSld g281 (by decide +kernel) ?_
        obtain ⟨v282, e283, e⟩ := bd_inv e
        refine Go.callV (M2 := m_M_rentIf) (a := a2) (as := [.int (xs (x4 + (1 : Int32)).toNatClampNeg), .int (xs (x4 + (2 : Int32)).toNatClampNeg), .int (xs (x4 + (3 : Int32)).toNatClampNeg)]) (rest := []) (v := some (.int v282.1)) (h1 := v282.2) (x_M_rentIf hf hI k2 e283) wv_Q_176 k2 kc_8 (by decide +kernel) rfl rfl ⟨⟨Nat.le_of_ble_eq_true rfl, Nat.le_of_ble_eq_true rfl⟩, ⟨(by show k9 + 1 + 0 ≤ 601024; omega), (by show n9 + 6 + 0 ≤ 7293034; omega)⟩⟩ (Nat.le_of_ble_eq_true rfl) ?_
        show Go l D ad aC room_1 _ m_Q_law 1389 [some (.ref 217), some (.ref a1), some (.ref a2), some (.ref a3), some (.int x4), some (.int v277.1), none] [.int v282.1] v282.2 (k9 + 1) (n9 + 6)
        refine Go.run (pc' := 1392) [.istore 6, .aload_n 2] (ls' := [some (.ref 217), some (.ref a1), some (.ref a2), some (.ref a3), some (.int x4), some (.int v277.1), some (.int v282.1)]) (st' := [.ref a2]) (by decide +kernel) rfl rfl ?_
        obtain ⟨v284, e285, e⟩ := bd_inv e
        refine Go.callV (M2 := m_M_thrown) (a := a2) (as := []) (rest := []) (v := some (.int v284)) (h1 := v282.2) (x_M_thrown hf hI k2 e285) wv_Q_109 k2 kc_8 (by decide +kernel) rfl rfl ⟨⟨Nat.le_of_ble_eq_true rfl, Nat.le_of_ble_eq_true rfl⟩, ⟨(by show k9 + 1 + 0 ≤ 601024; omega), (by show n9 + 6 + 0 ≤ 7293034; omega)⟩⟩ (Nat.le_of_ble_eq_true rfl) ?_
        show Go l D ad aC room_1 _ m_Q_law 1395 [some (.ref 217), some (.ref a1), some (.ref a2), some (.ref a3), some (.int x4), some (.int v277.1), some (.int v282.1)] [.int v284] v282.2 (k9 + 1) (n9 + 6)
        refine Go.run (pc' := 1397) [.iload 5] (ls' := [some (.ref 217), some (.ref a1), some (.ref a2), some (.ref a3), some (.int x4), some (.int v277.1), some (.int v282.1)]) (st' := [.int v277.1, .int v284]) (by decide +kernel) rfl rfl ?_
        refine Go.ic_eq (off := 5) (tgt := 1402) (by decide +kernel) (by decide) (fun c286 => ?_) (fun c286 => ?_)
        · replace e := ite_t c286 e
          refine Go.run (pc' := 1404) [.iload 5] (ls' := [some (.ref 217), some (.ref a1), some (.ref a2), some (.ref a3), some (.int x4), some (.int v277.1), some (.int v282.1)]) (st' := [.int v277.1]) (by decide +kernel) rfl rfl ?_
          refine Go.if_ne (off := 15) (tgt := 1419) (by decide +kernel) (by decide) (fun c287 => ?_) (fun c287 => ?_)
          · replace e := ite_f c287 e
            refine Go.wid (k' := k9 + 4) (n' := n9 + 24) (by omega) (by omega) ?_
            refine Go.wk' (wks (wks (wks (wks (wks (wkn (wkn wk0))))))) ?_
            exact x_Q_law_1419 hf hI (by omega) (by omega) (fun kk1 kk2 kk3 qq3 e => ih (by omega) (by omega) kk1 kk2 kk3 qq3 e) k1 k2 k3 q3 e
          · replace e := ite_t c287 e
            refine Go.run (pc' := 1409) [.aload_n 3, .iconst 0] (ls' := [some (.ref 217), some (.ref a1), some (.ref a2), some (.ref a3), some (.int x4), some (.int v277.1), some (.int v282.1)]) (st' := [.int (0 : Int32), .ref a3]) (by decide +kernel) rfl rfl ?_
            obtain ⟨g288, e⟩ := gd_inv e
            refine Go.lald k3 q3 g288 (by decide +kernel) ?_
            refine Go.run (pc' := 1414) [.iload 6, .i2l, .lcmp] (ls' := [some (.ref 217), some (.ref a1), some (.ref a2), some (.ref a3), some (.int x4), some (.int v277.1), some (.int v282.1)]) (st' := [.int (lg_cmp ((v282.2 a3 (0 : Int32).toNatClampNeg).toInt64) v282.1.toInt64)]) (by decide +kernel) rfl rfl ?_
            refine Go.if_eq (off := 5) (tgt := 1419) (by decide +kernel) (by decide) (fun c289 => ?_) (fun c289 => ?_)
            · replace e := ite_t c289 e
              refine Go.wid (k' := k9 + 4) (n' := n9 + 24) (by omega) (by omega) ?_
              refine Go.wk' (wks (wks (wks (wks (wks (wkn (wkn wk0))))))) ?_
              exact x_Q_law_1419 hf hI (by omega) (by omega) (fun kk1 kk2 kk3 qq3 e => ih (by omega) (by omega) kk1 kk2 kk3 qq3 e) k1 k2 k3 q3 e
            · replace e := ite_f c289 e
              refine Go.run (pc' := 1418) [.iconst 0] (ls' := [some (.ref 217), some (.ref a1), some (.ref a2), some (.ref a3), some (.int x4), some (.int v277.1), some (.int v282.1)]) (st' := [.int (0 : Int32)]) (by decide +kernel) rfl rfl ?_
              exact no_none e
        · replace e := ite_f c286 e
          refine Go.run (pc' := 1401) [.iconst 0] (ls' := [some (.ref 217), some (.ref a1), some (.ref a2), some (.ref a3), some (.int x4), some (.int v277.1), some (.int v282.1)]) (st' := [.int (0 : Int32)]) (by decide +kernel) rfl rfl ?_
          exact no_none e
      replace e := ite_f c273 e
      rcases Decidable.em (((xs x4.toNatClampNeg) &&& (31 : Int32)) = 21) with c290 | c290
      · replace e := ite_t c290 e
        refine Go.tsIn (dflt := 1887) (lo := 0) (hi := 27) (offs := #[125, 181, 194, 207, 251, 307, 375, 455, 523, 591, 647, 715, 771, 851, 931, 1011, 1067, 1135, 1191, 1259, 1303, 1383, 1451, 1507, 1575, 1675, 1775, 1831]) (len := 125) (off := 1383) (tgt := 1422) 21 (by decide +kernel) (by rw [c290]; decide) (by decide) (by decide) (by decide) (by decide) ?_
        refine Go.run (pc' := 1428) [.aload_n 1, .aload_n 0, .iload 4, .iconst 1, .iadd] (ls' := [some (.ref 217), some (.ref a1), some (.ref a2), some (.ref a3), some (.int x4), none, none]) (st' := [.int (x4 + (1 : Int32)), .ref 217, .ref a1]) (by decide +kernel) rfl rfl ?_
        obtain ⟨g291, e⟩ := gd_inv e
        refine goSld g291 (by decide +kernel) ?_
        refine Go.run (pc' := 1434) [.aload_n 0, .iload 4, .iconst 2, .iadd] (ls' := [some (.ref 217), some (.ref a1), some (.ref a2), some (.ref a3), some (.int x4), none, none]) (st' := [.int (x4 + (2 : Int32)), .ref 217, .int (xs (x4 + (1 : Int32)).toNatClampNeg), .ref a1]) (by decide +kernel) rfl rfl ?_
        obtain ⟨g292, e⟩ := gd_inv e
        refine goSld g292 (by decide +kernel) ?_
        refine Go.run (pc' := 1436) [.aload_n 3] (ls' := [some (.ref 217), some (.ref a1), some (.ref a2), some (.ref a3), some (.int x4), none, none]) (st' := [.ref a3, .int (xs (x4 + (2 : Int32)).toNatClampNeg), .int (xs (x4 + (1 : Int32)).toNatClampNeg), .ref a1]) (by decide +kernel) rfl rfl ?_
        obtain ⟨v293, e294, e⟩ := bd_inv e
        refine Go.callH (M2 := m_Q_cheapest) (as := [.ref a1, .int (xs (x4 + (1 : Int32)).toNatClampNeg), .int (xs (x4 + (2 : Int32)).toNatClampNeg), .ref a3]) (rest := []) (v := some (.int v293.1)) (h1 := v293.2) (x_Q_cheapest hf hI k1 k3 e294) wh_Q_177 (by decide +kernel) rfl rfl ⟨⟨Nat.le_of_ble_eq_true rfl, Nat.le_of_ble_eq_true rfl⟩, ⟨(by show k9 + 2 ≤ 601024; omega), (by show n9 + 12 ≤ 7293034; omega)⟩⟩ (Nat.le_of_ble_eq_true rfl) ?_
        show Go l D ad aC room_1 _ m_Q_law 1439 [some (.ref 217), some (.ref a1), some (.ref a2), some (.ref a3), some (.int x4), none, none] [.int v293.1] v293.2 (k9 + 2) (n9 + 12)
        refine Go.run (pc' := 1447) [.istore 5, .aload_n 2, .aload_n 0, .iload 4, .iconst 1, .iadd] (ls' := [some (.ref 217), some (.ref a1), some (.ref a2), some (.ref a3), some (.int x4), some (.int v293.1), none]) (st' := [.int (x4 + (1 : Int32)), .ref 217, .ref a2]) (by decide +kernel) rfl rfl ?_
        obtain ⟨g295, e⟩ := gd_inv e
        refine goSld g295 (by decide +kernel) ?_
        refine Go.run (pc' := 1453) [.aload_n 0, .iload 4, .iconst 2, .iadd] (ls' := [some (.ref 217), some (.ref a1), some (.ref a2), some (.ref a3), some (.int x4), some (.int v293.1), none]) (st' := [.int (x4 + (2 : Int32)), .ref 217, .int (xs (x4 + (1 : Int32)).toNatClampNeg), .ref a2]) (by decide +kernel) rfl rfl ?_
        obtain ⟨g296, e⟩ := gd_inv e
        refine goSld g296 (by decide +kernel) ?_
        obtain ⟨v297, e298, e⟩ := bd_inv e
        refine Go.callV (M2 := m_M_cheapest) (a := a2) (as := [.int (xs (x4 + (1 : Int32)).toNatClampNeg), .int (xs (x4 + (2 : Int32)).toNatClampNeg)]) (rest := []) (v := some (.int v297.1)) (h1 := v297.2) (x_M_cheapest hf hI k2 e298) wv_Q_179 k2 kc_8 (by decide +kernel) rfl rfl ⟨⟨Nat.le_of_ble_eq_true rfl, Nat.le_of_ble_eq_true rfl⟩, ⟨(by show k9 + 2 + 0 ≤ 601024; omega), (by show n9 + 12 + 0 ≤ 7293034; omega)⟩⟩ (Nat.le_of_ble_eq_true rfl) ?_
        show Go l D ad aC room_1 _ m_Q_law 1457 [some (.ref 217), some (.ref a1), some (.ref a2), some (.ref a3), some (.int x4), some (.int v293.1), none] [.int v297.1] v297.2 (k9 + 2) (n9 + 12)
        refine Go.run (pc' := 1460) [.istore 6, .aload_n 2] (ls' := [some (.ref 217), some (.ref a1), some (.ref a2), some (.ref a3), some (.int x4), some (.int v293.1), some (.int v297.1)]) (st' := [.ref a2]) (by decide +kernel) rfl rfl ?_
        obtain ⟨v299, e300, e⟩ := bd_inv e
        refine Go.callV (M2 := m_M_thrown) (a := a2) (as := []) (rest := []) (v := some (.int v299)) (h1 := v297.2) (x_M_thrown hf hI k2 e300) wv_Q_109 k2 kc_8 (by decide +kernel) rfl rfl ⟨⟨Nat.le_of_ble_eq_true rfl, Nat.le_of_ble_eq_true rfl⟩, ⟨(by show k9 + 2 + 0 ≤ 601024; omega), (by show n9 + 12 + 0 ≤ 7293034; omega)⟩⟩ (Nat.le_of_ble_eq_true rfl) ?_
        show Go l D ad aC room_1 _ m_Q_law 1463 [some (.ref 217), some (.ref a1), some (.ref a2), some (.ref a3), some (.int x4), some (.int v293.1), some (.int v297.1)] [.int v299] v297.2 (k9 + 2) (n9 + 12)
        refine Go.run (pc' := 1465) [.iload 5] (ls' := [some (.ref 217), some (.ref a1), some (.ref a2), some (.ref a3), some (.int x4), some (.int v293.1), some (.int v297.1)]) (st' := [.int v293.1, .int v299]) (by decide +kernel) rfl rfl ?_
        refine Go.ic_eq (off := 5) (tgt := 1470) (by decide +kernel) (by decide) (fun c301 => ?_) (fun c301 => ?_)
        · replace e := ite_t c301 e
          refine Go.run (pc' := 1472) [.iload 5] (ls' := [some (.ref 217), some (.ref a1), some (.ref a2), some (.ref a3), some (.int x4), some (.int v293.1), some (.int v297.1)]) (st' := [.int v293.1]) (by decide +kernel) rfl rfl ?_
          refine Go.if_ne (off := 15) (tgt := 1487) (by decide +kernel) (by decide) (fun c302 => ?_) (fun c302 => ?_)
          · replace e := ite_f c302 e
            refine Go.wid (k' := k9 + 4) (n' := n9 + 24) (by omega) (by omega) ?_
            refine Go.wk' (wks (wks (wks (wks (wks (wkn (wkn wk0))))))) ?_
            exact x_Q_law_1487 hf hI (by omega) (by omega) (fun kk1 kk2 kk3 qq3 e => ih (by omega) (by omega) kk1 kk2 kk3 qq3 e) k1 k2 k3 q3 e
          · replace e := ite_t c302 e
            refine Go.run (pc' := 1477) [.aload_n 3, .iconst 0] (ls' := [some (.ref 217), some (.ref a1), some (.ref a2), some (.ref a3), some (.int x4), some (.int v293.1), some (.int v297.1)]) (st' := [.int (0 : Int32), .ref a3]) (by decide +kernel) rfl rfl ?_
            obtain ⟨g303, e⟩ := gd_inv e
            refine Go.lald k3 q3 g303 (by decide +kernel) ?_
            refine Go.run (pc' := 1482) [.iload 6, .i2l, .lcmp] (ls' := [some (.ref 217), some (.ref a1), some (.ref a2), some (.ref a3), some (.int x4), some (.int v293.1), some (.int v297.1)]) (st' := [.int (lg_cmp ((v297.2 a3 (0 : Int32).toNatClampNeg).toInt64) v297.1.toInt64)]) (by decide +kernel) rfl rfl ?_
            refine Go.if_eq (off := 5) (tgt := 1487) (by decide +kernel) (by decide) (fun c304 => ?_) (fun c304 => ?_)
            · replace e := ite_t c304 e
              refine Go.wid (k' := k9 + 4) (n' := n9 + 24) (by omega) (by omega) ?_
              refine Go.wk' (wks (wks (wks (wks (wks (wkn (wkn wk0))))))) ?_
              exact x_Q_law_1487 hf hI (by omega) (by omega) (fun kk1 kk2 kk3 qq3 e => ih (by omega) (by omega) kk1 kk2 kk3 qq3 e) k1 k2 k3 q3 e
            · replace e := ite_f c304 e
              refine Go.run (pc' := 1486) [.iconst 0] (ls' := [some (.ref 217), some (.ref a1), some (.ref a2), some (.ref a3), some (.int x4), some (.int v293.1), some (.int v297.1)]) (st' := [.int (0 : Int32)]) (by decide +kernel) rfl rfl ?_
              exact no_none e
        · replace e := ite_f c301 e
          refine Go.run (pc' := 1469) [.iconst 0] (ls' := [some (.ref 217), some (.ref a1), some (.ref a2), some (.ref a3), some (.int x4), some (.int v293.1), some (.int v297.1)]) (st' := [.int (0 : Int32)]) (by decide +kernel) rfl rfl ?_
          exact no_none e
      replace e := ite_f c290 e
      rcases Decidable.em (((xs x4.toNatClampNeg) &&& (31 : Int32)) = 22) with c305 | c305
      · replace e := ite_t c305 e
        refine Go.tsIn (dflt := 1887) (lo := 0) (hi := 27) (offs := #[125, 181, 194, 207, 251, 307, 375, 455, 523, 591, 647, 715, 771, 851, 931, 1011, 1067, 1135, 1191, 1259, 1303, 1383, 1451, 1507, 1575, 1675, 1775, 1831]) (len := 125) (off := 1451) (tgt := 1490) 22 (by decide +kernel) (by rw [c305]; decide) (by decide) (by decide) (by decide) (by decide) ?_
        refine Go.run (pc' := 1496) [.aload_n 1, .aload_n 0, .iload 4, .iconst 1, .iadd] (ls' := [some (.ref 217), some (.ref a1), some (.ref a2), some (.ref a3), some (.int x4), none, none]) (st' := [.int (x4 + (1 : Int32)), .ref 217, .ref a1]) (by decide +kernel) rfl rfl ?_
        obtain ⟨g306, e⟩ := gd_inv e
        refine goSld g306 (by decide +kernel) ?_
        refine Go.run (pc' := 1498) [.aload_n 3] (ls' := [some (.ref 217), some (.ref a1), some (.ref a2), some (.ref a3), some (.int x4), none, none]) (st' := [.ref a3, .int (xs (x4 + (1 : Int32)).toNatClampNeg), .ref a1]) (by decide +kernel) rfl rfl ?_
        obtain ⟨v307, e308, e⟩ := bd_inv e
        refine Go.callH (M2 := m_Q_bestSwap) (as := [.ref a1, .int (xs (x4 + (1 : Int32)).toNatClampNeg), .ref a3]) (rest := []) (v := some (.int v307.1)) (h1 := v307.2) (x_Q_bestSwap hf hI k1 k3 e308) wh_Q_180 (by decide +kernel) rfl rfl ⟨⟨Nat.le_of_ble_eq_true rfl, Nat.le_of_ble_eq_true rfl⟩, ⟨(by show k9 + 1 ≤ 601024; omega), (by show n9 + 6 ≤ 7293034; omega)⟩⟩ (Nat.le_of_ble_eq_true rfl) ?_
        show Go l D ad aC room_1 _ m_Q_law 1501 [some (.ref 217), some (.ref a1), some (.ref a2), some (.ref a3), some (.int x4), none, none] [.int v307.1] v307.2 (k9 + 1) (n9 + 6)
        refine Go.run (pc' := 1509) [.istore 5, .aload_n 2, .aload_n 0, .iload 4, .iconst 1, .iadd] (ls' := [some (.ref 217), some (.ref a1), some (.ref a2), some (.ref a3), some (.int x4), some (.int v307.1), none]) (st' := [.int (x4 + (1 : Int32)), .ref 217, .ref a2]) (by decide +kernel) rfl rfl ?_
        obtain ⟨g309, e⟩ := gd_inv e
        refine goSld g309 (by decide +kernel) ?_
        obtain ⟨v310, e311, e⟩ := bd_inv e
        refine Go.callV (M2 := m_M_bestSwap) (a := a2) (as := [.int (xs (x4 + (1 : Int32)).toNatClampNeg)]) (rest := []) (v := some (.int v310.1)) (h1 := v310.2) (x_M_bestSwap hf hI k2 e311) wv_Q_182 k2 kc_8 (by decide +kernel) rfl rfl ⟨⟨Nat.le_of_ble_eq_true rfl, Nat.le_of_ble_eq_true rfl⟩, ⟨(by show k9 + 1 + 0 ≤ 601024; omega), (by show n9 + 6 + 0 ≤ 7293034; omega)⟩⟩ (Nat.le_of_ble_eq_true rfl) ?_
        show Go l D ad aC room_1 _ m_Q_law 1513 [some (.ref 217), some (.ref a1), some (.ref a2), some (.ref a3), some (.int x4), some (.int v307.1), none] [.int v310.1] v310.2 (k9 + 1) (n9 + 6)
        refine Go.run (pc' := 1516) [.istore 6, .aload_n 2] (ls' := [some (.ref 217), some (.ref a1), some (.ref a2), some (.ref a3), some (.int x4), some (.int v307.1), some (.int v310.1)]) (st' := [.ref a2]) (by decide +kernel) rfl rfl ?_
        obtain ⟨v312, e313, e⟩ := bd_inv e
        refine Go.callV (M2 := m_M_thrown) (a := a2) (as := []) (rest := []) (v := some (.int v312)) (h1 := v310.2) (x_M_thrown hf hI k2 e313) wv_Q_109 k2 kc_8 (by decide +kernel) rfl rfl ⟨⟨Nat.le_of_ble_eq_true rfl, Nat.le_of_ble_eq_true rfl⟩, ⟨(by show k9 + 1 + 0 ≤ 601024; omega), (by show n9 + 6 + 0 ≤ 7293034; omega)⟩⟩ (Nat.le_of_ble_eq_true rfl) ?_
        show Go l D ad aC room_1 _ m_Q_law 1519 [some (.ref 217), some (.ref a1), some (.ref a2), some (.ref a3), some (.int x4), some (.int v307.1), some (.int v310.1)] [.int v312] v310.2 (k9 + 1) (n9 + 6)
        refine Go.run (pc' := 1521) [.iload 5] (ls' := [some (.ref 217), some (.ref a1), some (.ref a2), some (.ref a3), some (.int x4), some (.int v307.1), some (.int v310.1)]) (st' := [.int v307.1, .int v312]) (by decide +kernel) rfl rfl ?_
        refine Go.ic_eq (off := 5) (tgt := 1526) (by decide +kernel) (by decide) (fun c314 => ?_) (fun c314 => ?_)
        · replace e := ite_t c314 e
          refine Go.run (pc' := 1528) [.iload 5] (ls' := [some (.ref 217), some (.ref a1), some (.ref a2), some (.ref a3), some (.int x4), some (.int v307.1), some (.int v310.1)]) (st' := [.int v307.1]) (by decide +kernel) rfl rfl ?_
          refine Go.if_ne (off := 15) (tgt := 1543) (by decide +kernel) (by decide) (fun c315 => ?_) (fun c315 => ?_)
          · replace e := ite_f c315 e
            refine Go.wid (k' := k9 + 4) (n' := n9 + 24) (by omega) (by omega) ?_
            refine Go.wk' (wks (wks (wks (wks (wks (wkn (wkn wk0))))))) ?_
            exact x_Q_law_1543 hf hI (by omega) (by omega) (fun kk1 kk2 kk3 qq3 e => ih (by omega) (by omega) kk1 kk2 kk3 qq3 e) k1 k2 k3 q3 e
          · replace e := ite_t c315 e
            refine Go.run (pc' := 1533) [.aload_n 3, .iconst 0] (ls' := [some (.ref 217), some (.ref a1), some (.ref a2), some (.ref a3), some (.int x4), some (.int v307.1), some (.int v310.1)]) (st' := [.int (0 : Int32), .ref a3]) (by decide +kernel) rfl rfl ?_
            obtain ⟨g316, e⟩ := gd_inv e
            refine Go.lald k3 q3 g316 (by decide +kernel) ?_
            refine Go.run (pc' := 1538) [.iload 6, .i2l, .lcmp] (ls' := [some (.ref 217), some (.ref a1), some (.ref a2), some (.ref a3), some (.int x4), some (.int v307.1), some (.int v310.1)]) (st' := [.int (lg_cmp ((v310.2 a3 (0 : Int32).toNatClampNeg).toInt64) v310.1.toInt64)]) (by decide +kernel) rfl rfl ?_
            refine Go.if_eq (off := 5) (tgt := 1543) (by decide +kernel) (by decide) (fun c317 => ?_) (fun c317 => ?_)
            · replace e := ite_t c317 e
              refine Go.wid (k' := k9 + 4) (n' := n9 + 24) (by omega) (by omega) ?_
              refine Go.wk' (wks (wks (wks (wks (wks (wkn (wkn wk0))))))) ?_
              exact x_Q_law_1543 hf hI (by omega) (by omega) (fun kk1 kk2 kk3 qq3 e => ih (by omega) (by omega) kk1 kk2 kk3 qq3 e) k1 k2 k3 q3 e
            · replace e := ite_f c317 e
              refine Go.run (pc' := 1542) [.iconst 0] (ls' := [some (.ref 217), some (.ref a1), some (.ref a2), some (.ref a3), some (.int x4), some (.int v307.1), some (.int v310.1)]) (st' := [.int (0 : Int32)]) (by decide +kernel) rfl rfl ?_
              exact no_none e
        · replace e := ite_f c314 e
          refine Go.run (pc' := 1525) [.iconst 0] (ls' := [some (.ref 217), some (.ref a1), some (.ref a2), some (.ref a3), some (.int x4), some (.int v307.1), some (.int v310.1)]) (st' := [.int (0 : Int32)]) (by decide +kernel) rfl rfl ?_
          exact no_none e
      replace e := ite_f c305 e
      rcases Decidable.em (((xs x4.toNatClampNeg) &&& (31 : Int32)) = 23) with c318 | c318
      · replace e := ite_t c318 e
        refine Go.tsIn (dflt := 1887) (lo := 0) (hi := 27) (offs := #[125, 181, 194, 207, 251, 307, 375, 455, 523, 591, 647, 715, 771, 851, 931, 1011, 1067, 1135, 1191, 1259, 1303, 1383, 1451, 1507, 1575, 1675, 1775, 1831]) (len := 125) (off := 1507) (tgt := 1546) 23 (by decide +kernel) (by rw [c318]; decide) (by decide) (by decide) (by decide) (by decide) ?_
        refine Go.run (pc' := 1552) [.aload_n 1, .aload_n 0, .iload 4, .iconst 1, .iadd] (ls' := [some (.ref 217), some (.ref a1), some (.ref a2), some (.ref a3), some (.int x4), none, none]) (st' := [.int (x4 + (1 : Int32)), .ref 217, .ref a1]) (by decide +kernel) rfl rfl ?_
        obtain ⟨g319, e⟩ := gd_inv e
        refine goSld g319 (by decide +kernel) ?_
        refine Go.run (pc' := 1558) [.aload_n 0, .iload 4, .iconst 2, .iadd] (ls' := [some (.ref 217), some (.ref a1), some (.ref a2), some (.ref a3), some (.int x4), none, none]) (st' := [.int (x4 + (2 : Int32)), .ref 217, .int (xs (x4 + (1 : Int32)).toNatClampNeg), .ref a1]) (by decide +kernel) rfl rfl ?_
        obtain ⟨g320, e⟩ := gd_inv e
        refine goSld g320 (by decide +kernel) ?_
        refine Go.run (pc' := 1560) [.aload_n 3] (ls' := [some (.ref 217), some (.ref a1), some (.ref a2), some (.ref a3), some (.int x4), none, none]) (st' := [.ref a3, .int (xs (x4 + (2 : Int32)).toNatClampNeg), .int (xs (x4 + (1 : Int32)).toNatClampNeg), .ref a1]) (by decide +kernel) rfl rfl ?_
        obtain ⟨v321, e322, e⟩ := bd_inv e
        refine Go.callH (M2 := m_Q_why) (as := [.ref a1, .int (xs (x4 + (1 : Int32)).toNatClampNeg), .int (xs (x4 + (2 : Int32)).toNatClampNeg), .ref a3]) (rest := []) (v := some (.int v321.1)) (h1 := v321.2) (x_Q_why hf hI k1 k3 e322) wh_Q_183 (by decide +kernel) rfl rfl ⟨⟨Nat.le_of_ble_eq_true rfl, Nat.le_of_ble_eq_true rfl⟩, ⟨(by show k9 + 2 ≤ 601024; omega), (by show n9 + 12 ≤ 7293034; omega)⟩⟩ (Nat.le_of_ble_eq_true rfl) ?_
        show Go l D ad aC room_1 _ m_Q_law 1563 [some (.ref 217), some (.ref a1), some (.ref a2), some (.ref a3), some (.int x4), none, none] [.int v321.1] v321.2 (k9 + 2) (n9 + 12)
        refine Go.run (pc' := 1571) [.istore 5, .aload_n 2, .aload_n 0, .iload 4, .iconst 1, .iadd] (ls' := [some (.ref 217), some (.ref a1), some (.ref a2), some (.ref a3), some (.int x4), some (.int v321.1), none]) (st' := [.int (x4 + (1 : Int32)), .ref 217, .ref a2]) (by decide +kernel) rfl rfl ?_
        obtain ⟨g323, e⟩ := gd_inv e
        refine goSld g323 (by decide +kernel) ?_
        refine Go.run (pc' := 1577) [.aload_n 0, .iload 4, .iconst 2, .iadd] (ls' := [some (.ref 217), some (.ref a1), some (.ref a2), some (.ref a3), some (.int x4), some (.int v321.1), none]) (st' := [.int (x4 + (2 : Int32)), .ref 217, .int (xs (x4 + (1 : Int32)).toNatClampNeg), .ref a2]) (by decide +kernel) rfl rfl ?_
        obtain ⟨g324, e⟩ := gd_inv e
        refine goSld g324 (by decide +kernel) ?_
        obtain ⟨v325, e326, e⟩ := bd_inv e
        refine Go.callV (M2 := m_M_why) (a := a2) (as := [.int (xs (x4 + (1 : Int32)).toNatClampNeg), .int (xs (x4 + (2 : Int32)).toNatClampNeg)]) (rest := []) (v := some (.int v325.1)) (h1 := v325.2) (x_M_why hf hI k2 e326) wv_Q_185 k2 kc_8 (by decide +kernel) rfl rfl ⟨⟨Nat.le_of_ble_eq_true rfl, Nat.le_of_ble_eq_true rfl⟩, ⟨(by show k9 + 2 + 0 ≤ 601024; omega), (by show n9 + 12 + 0 ≤ 7293034; omega)⟩⟩ (Nat.le_of_ble_eq_true rfl) ?_
        show Go l D ad aC room_1 _ m_Q_law 1581 [some (.ref 217), some (.ref a1), some (.ref a2), some (.ref a3), some (.int x4), some (.int v321.1), none] [.int v325.1] v325.2 (k9 + 2) (n9 + 12)
        refine Go.run (pc' := 1584) [.istore 6, .aload_n 2] (ls' := [some (.ref 217), some (.ref a1), some (.ref a2), some (.ref a3), some (.int x4), some (.int v321.1), some (.int v325.1)]) (st' := [.ref a2]) (by decide +kernel) rfl rfl ?_
        obtain ⟨v327, e328, e⟩ := bd_inv e
        refine Go.callV (M2 := m_M_thrown) (a := a2) (as := []) (rest := []) (v := some (.int v327)) (h1 := v325.2) (x_M_thrown hf hI k2 e328) wv_Q_109 k2 kc_8 (by decide +kernel) rfl rfl ⟨⟨Nat.le_of_ble_eq_true rfl, Nat.le_of_ble_eq_true rfl⟩, ⟨(by show k9 + 2 + 0 ≤ 601024; omega), (by show n9 + 12 + 0 ≤ 7293034; omega)⟩⟩ (Nat.le_of_ble_eq_true rfl) ?_
        show Go l D ad aC room_1 _ m_Q_law 1587 [some (.ref 217), some (.ref a1), some (.ref a2), some (.ref a3), some (.int x4), some (.int v321.1), some (.int v325.1)] [.int v327] v325.2 (k9 + 2) (n9 + 12)
        refine Go.run (pc' := 1589) [.iload 5] (ls' := [some (.ref 217), some (.ref a1), some (.ref a2), some (.ref a3), some (.int x4), some (.int v321.1), some (.int v325.1)]) (st' := [.int v321.1, .int v327]) (by decide +kernel) rfl rfl ?_
        refine Go.ic_eq (off := 5) (tgt := 1594) (by decide +kernel) (by decide) (fun c329 => ?_) (fun c329 => ?_)
        · replace e := ite_t c329 e
          refine Go.run (pc' := 1596) [.iload 5] (ls' := [some (.ref 217), some (.ref a1), some (.ref a2), some (.ref a3), some (.int x4), some (.int v321.1), some (.int v325.1)]) (st' := [.int v321.1]) (by decide +kernel) rfl rfl ?_
          refine Go.if_ne (off := 15) (tgt := 1611) (by decide +kernel) (by decide) (fun c330 => ?_) (fun c330 => ?_)
          · replace e := ite_f c330 e
            refine Go.wid (k' := k9 + 4) (n' := n9 + 24) (by omega) (by omega) ?_
            refine Go.wk' (wks (wks (wks (wks (wks (wkn (wkn wk0))))))) ?_
            exact x_Q_law_1611 hf hI (by omega) (by omega) (fun kk1 kk2 kk3 qq3 e => ih (by omega) (by omega) kk1 kk2 kk3 qq3 e) k1 k2 k3 q3 e
          · replace e := ite_t c330 e
            refine Go.run (pc' := 1601) [.aload_n 3, .iconst 0] (ls' := [some (.ref 217), some (.ref a1), some (.ref a2), some (.ref a3), some (.int x4), some (.int v321.1), some (.int v325.1)]) (st' := [.int (0 : Int32), .ref a3]) (by decide +kernel) rfl rfl ?_
            obtain ⟨g331, e⟩ := gd_inv e
            refine Go.lald k3 q3 g331 (by decide +kernel) ?_
            refine Go.run (pc' := 1606) [.iload 6, .i2l, .lcmp] (ls' := [some (.ref 217), some (.ref a1), some (.ref a2), some (.ref a3), some (.int x4), some (.int v321.1), some (.int v325.1)]) (st' := [.int (lg_cmp ((v325.2 a3 (0 : Int32).toNatClampNeg).toInt64) v325.1.toInt64)]) (by decide +kernel) rfl rfl ?_
            refine Go.if_eq (off := 5) (tgt := 1611) (by decide +kernel) (by decide) (fun c332 => ?_) (fun c332 => ?_)
            · replace e := ite_t c332 e
              refine Go.wid (k' := k9 + 4) (n' := n9 + 24) (by omega) (by omega) ?_
              refine Go.wk' (wks (wks (wks (wks (wks (wkn (wkn wk0))))))) ?_
              exact x_Q_law_1611 hf hI (by omega) (by omega) (fun kk1 kk2 kk3 qq3 e => ih (by omega) (by omega) kk1 kk2 kk3 qq3 e) k1 k2 k3 q3 e
            · replace e := ite_f c332 e
              refine Go.run (pc' := 1610) [.iconst 0] (ls' := [some (.ref 217), some (.ref a1), some (.ref a2), some (.ref a3), some (.int x4), some (.int v321.1), some (.int v325.1)]) (st' := [.int (0 : Int32)]) (by decide +kernel) rfl rfl ?_
              exact no_none e
        · replace e := ite_f c329 e
          refine Go.run (pc' := 1593) [.iconst 0] (ls' := [some (.ref 217), some (.ref a1), some (.ref a2), some (.ref a3), some (.int x4), some (.int v321.1), some (.int v325.1)]) (st' := [.int (0 : Int32)]) (by decide +kernel) rfl rfl ?_
          exact no_none e
      replace e := ite_f c318 e
      rcases Decidable.em (((xs x4.toNatClampNeg) &&& (31 : Int32)) = 24) with c333 | c333
      · replace e := ite_t c333 e
        refine Go.tsIn (dflt := 1887) (lo := 0) (hi := 27) (offs := #[125, 181, 194, 207, 251, 307, 375, 455, 523, 591, 647, 715, 771, 851, 931, 1011, 1067, 1135, 1191, 1259, 1303, 1383, 1451, 1507, 1575, 1675, 1775, 1831]) (len := 125) (off := 1575) (tgt := 1614) 24 (by decide +kernel) (by rw [c333]; decide) (by decide) (by decide) (by decide) (by decide) ?_
        refine Go.run (pc' := 1620) [.aload_n 1, .aload_n 0, .iload 4, .iconst 1, .iadd] (ls' := [some (.ref 217), some (.ref a1), some (.ref a2), some (.ref a3), some (.int x4), none, none]) (st' := [.int (x4 + (1 : Int32)), .ref 217, .ref a1]) (by decide +kernel) rfl rfl ?_
        obtain ⟨g334, e⟩ := gd_inv e
        refine goSld g334 (by decide +kernel) ?_
        refine Go.run (pc' := 1626) [.aload_n 0, .iload 4, .iconst 2, .iadd] (ls' := [some (.ref 217), some (.ref a1), some (.ref a2), some (.ref a3), some (.int x4), none, none]) (st' := [.int (x4 + (2 : Int32)), .ref 217, .int (xs (x4 + (1 : Int32)).toNatClampNeg), .ref a1]) (by decide +kernel) rfl rfl ?_
        obtain ⟨g335, e⟩ := gd_inv e
        refine goSld g335 (by decide +kernel) ?_
        refine Go.run (pc' := 1636) [.i2l, .bipush (32), .lshl, .aload_n 0, .iload 4, .iconst 3, .iadd] (ls' := [some (.ref 217), some (.ref a1), some (.ref a2), some (.ref a3), some (.int x4), none, none]) (st' := [.int (x4 + (3 : Int32)), .ref 217, .long (((xs (x4 + (2 : Int32)).toNatClampNeg).toInt64) <<< ((32 : Int32).toInt64 &&& 63)), .int (xs (x4 + (1 : Int32)).toNatClampNeg), .ref a1]) (by decide +kernel) rfl rfl ?_
        obtain ⟨g336, e⟩ := gd_inv e
        refine goSld g336 (by decide +kernel) ?_
        refine Go.run (pc' := 1638) [.i2l] (ls' := [some (.ref 217), some (.ref a1), some (.ref a2), some (.ref a3), some (.int x4), none, none]) (st' := [.long ((xs (x4 + (3 : Int32)).toNatClampNeg).toInt64), .long (((xs (x4 + (2 : Int32)).toNatClampNeg).toInt64) <<< ((32 : Int32).toInt64 &&& 63)), .int (xs (x4 + (1 : Int32)).toNatClampNeg), .ref a1]) (by decide +kernel) rfl rfl ?_
        refine Go.ldc2 lo_Q_186 (by decide +kernel) ?_
        refine Go.run (pc' := 1644) [.land, .lor, .aload_n 3] (ls' := [some (.ref 217), some (.ref a1), some (.ref a2), some (.ref a3), some (.int x4), none, none]) (st' := [.ref a3, .long ((((xs (x4 + (2 : Int32)).toNatClampNeg).toInt64) <<< ((32 : Int32).toInt64 &&& 63)) ||| (((xs (x4 + (3 : Int32)).toNatClampNeg).toInt64) &&& (4294967295 : Int64))), .int (xs (x4 + (1 : Int32)).toNatClampNeg), .ref a1]) (by decide +kernel) rfl rfl ?_
        obtain ⟨v337, e338, e⟩ := bd_inv e
        refine Go.callH (M2 := m_Q_runScript) (as := [.ref a1, .int (xs (x4 + (1 : Int32)).toNatClampNeg), .long ((((xs (x4 + (2 : Int32)).toNatClampNeg).toInt64) <<< ((32 : Int32).toInt64 &&& 63)) ||| (((xs (x4 + (3 : Int32)).toNatClampNeg).toInt64) &&& (4294967295 : Int64))), .ref a3]) (rest := []) (v := some (.int v337.1)) (h1 := v337.2) (x_Q_runScript hf hI k1 k3 e338) wh_Q_188 (by decide +kernel) rfl rfl ⟨⟨Nat.le_of_ble_eq_true rfl, Nat.le_of_ble_eq_true rfl⟩, ⟨(by show k9 + 2 ≤ 601024; omega), (by show n9 + 12 ≤ 7293034; omega)⟩⟩ (Nat.le_of_ble_eq_true rfl) ?_
        show Go l D ad aC room_1 _ m_Q_law 1647 [some (.ref 217), some (.ref a1), some (.ref a2), some (.ref a3), some (.int x4), none, none] [.int v337.1] v337.2 (k9 + 2) (n9 + 12)
        refine Go.run (pc' := 1655) [.istore 5, .aload_n 2, .aload_n 0, .iload 4, .iconst 1, .iadd] (ls' := [some (.ref 217), some (.ref a1), some (.ref a2), some (.ref a3), some (.int x4), some (.int v337.1), none]) (st' := [.int (x4 + (1 : Int32)), .ref 217, .ref a2]) (by decide +kernel) rfl rfl ?_
        obtain ⟨g339, e⟩ := gd_inv e
        refine goSld g339 (by decide +kernel) ?_
        refine Go.run (pc' := 1661) [.aload_n 0, .iload 4, .iconst 2, .iadd] (ls' := [some (.ref 217), some (.ref a1), some (.ref a2), some (.ref a3), some (.int x4), some (.int v337.1), none]) (st' := [.int (x4 + (2 : Int32)), .ref 217, .int (xs (x4 + (1 : Int32)).toNatClampNeg), .ref a2]) (by decide +kernel) rfl rfl ?_
        obtain ⟨g340, e⟩ := gd_inv e
        refine goSld g340 (by decide +kernel) ?_
        refine Go.run (pc' := 1671) [.i2l, .bipush (32), .lshl, .aload_n 0, .iload 4, .iconst 3, .iadd] (ls' := [some (.ref 217), some (.ref a1), some (.ref a2), some (.ref a3), some (.int x4), some (.int v337.1), none]) (st' := [.int (x4 + (3 : Int32)), .ref 217, .long (((xs (x4 + (2 : Int32)).toNatClampNeg).toInt64) <<< ((32 : Int32).toInt64 &&& 63)), .int (xs (x4 + (1 : Int32)).toNatClampNeg), .ref a2]) (by decide +kernel) rfl rfl ?_
        obtain ⟨g341, e⟩ := gd_inv e
        refine goSld g341 (by decide +kernel) ?_
        refine Go.run (pc' := 1673) [.i2l] (ls' := [some (.ref 217), some (.ref a1), some (.ref a2), some (.ref a3), some (.int x4), some (.int v337.1), none]) (st' := [.long ((xs (x4 + (3 : Int32)).toNatClampNeg).toInt64), .long (((xs (x4 + (2 : Int32)).toNatClampNeg).toInt64) <<< ((32 : Int32).toInt64 &&& 63)), .int (xs (x4 + (1 : Int32)).toNatClampNeg), .ref a2]) (by decide +kernel) rfl rfl ?_
        refine Go.ldc2 lo_Q_186 (by decide +kernel) ?_
        refine Go.run (pc' := 1678) [.land, .lor] (ls' := [some (.ref 217), some (.ref a1), some (.ref a2), some (.ref a3), some (.int x4), some (.int v337.1), none]) (st' := [.long ((((xs (x4 + (2 : Int32)).toNatClampNeg).toInt64) <<< ((32 : Int32).toInt64 &&& 63)) ||| (((xs (x4 + (3 : Int32)).toNatClampNeg).toInt64) &&& (4294967295 : Int64))), .int (xs (x4 + (1 : Int32)).toNatClampNeg), .ref a2]) (by decide +kernel) rfl rfl ?_
        obtain ⟨v342, e343, e⟩ := bd_inv e
        refine Go.callV (M2 := m_M_runScript) (a := a2) (as := [.int (xs (x4 + (1 : Int32)).toNatClampNeg), .long ((((xs (x4 + (2 : Int32)).toNatClampNeg).toInt64) <<< ((32 : Int32).toInt64 &&& 63)) ||| (((xs (x4 + (3 : Int32)).toNatClampNeg).toInt64) &&& (4294967295 : Int64)))]) (rest := []) (v := some (.int v342.1)) (h1 := v342.2) (x_M_runScript hf hI k2 e343) wv_Q_191 k2 kc_8 (by decide +kernel) rfl rfl ⟨⟨Nat.le_of_ble_eq_true rfl, Nat.le_of_ble_eq_true rfl⟩, ⟨(by show k9 + 2 + 0 ≤ 601024; omega), (by show n9 + 12 + 0 ≤ 7293034; omega)⟩⟩ (Nat.le_of_ble_eq_true rfl) ?_
        show Go l D ad aC room_1 _ m_Q_law 1681 [some (.ref 217), some (.ref a1), some (.ref a2), some (.ref a3), some (.int x4), some (.int v337.1), none] [.int v342.1] v342.2 (k9 + 2) (n9 + 12)
        refine Go.run (pc' := 1684) [.istore 6, .aload_n 2] (ls' := [some (.ref 217), some (.ref a1), some (.ref a2), some (.ref a3), some (.int x4), some (.int v337.1), some (.int v342.1)]) (st' := [.ref a2]) (by decide +kernel) rfl rfl ?_
        obtain ⟨v344, e345, e⟩ := bd_inv e
        refine Go.callV (M2 := m_M_thrown) (a := a2) (as := []) (rest := []) (v := some (.int v344)) (h1 := v342.2) (x_M_thrown hf hI k2 e345) wv_Q_109 k2 kc_8 (by decide +kernel) rfl rfl ⟨⟨Nat.le_of_ble_eq_true rfl, Nat.le_of_ble_eq_true rfl⟩, ⟨(by show k9 + 2 + 0 ≤ 601024; omega), (by show n9 + 12 + 0 ≤ 7293034; omega)⟩⟩ (Nat.le_of_ble_eq_true rfl) ?_
        show Go l D ad aC room_1 _ m_Q_law 1687 [some (.ref 217), some (.ref a1), some (.ref a2), some (.ref a3), some (.int x4), some (.int v337.1), some (.int v342.1)] [.int v344] v342.2 (k9 + 2) (n9 + 12)
        refine Go.run (pc' := 1689) [.iload 5] (ls' := [some (.ref 217), some (.ref a1), some (.ref a2), some (.ref a3), some (.int x4), some (.int v337.1), some (.int v342.1)]) (st' := [.int v337.1, .int v344]) (by decide +kernel) rfl rfl ?_
        refine Go.ic_eq (off := 5) (tgt := 1694) (by decide +kernel) (by decide) (fun c346 => ?_) (fun c346 => ?_)
        · replace e := ite_t c346 e
          refine Go.run (pc' := 1696) [.iload 5] (ls' := [some (.ref 217), some (.ref a1), some (.ref a2), some (.ref a3), some (.int x4), some (.int v337.1), some (.int v342.1)]) (st' := [.int v337.1]) (by decide +kernel) rfl rfl ?_
          refine Go.if_ne (off := 15) (tgt := 1711) (by decide +kernel) (by decide) (fun c347 => ?_) (fun c347 => ?_)
          · replace e := ite_f c347 e
            refine Go.wid (k' := k9 + 4) (n' := n9 + 24) (by omega) (by omega) ?_
            refine Go.wk' (wks (wks (wks (wks (wks (wkn (wkn wk0))))))) ?_
            exact x_Q_law_1711 hf hI (by omega) (by omega) (fun kk1 kk2 kk3 qq3 e => ih (by omega) (by omega) kk1 kk2 kk3 qq3 e) k1 k2 k3 q3 e
          · replace e := ite_t c347 e
            refine Go.run (pc' := 1701) [.aload_n 3, .iconst 0] (ls' := [some (.ref 217), some (.ref a1), some (.ref a2), some (.ref a3), some (.int x4), some (.int v337.1), some (.int v342.1)]) (st' := [.int (0 : Int32), .ref a3]) (by decide +kernel) rfl rfl ?_
            obtain ⟨g348, e⟩ := gd_inv e
            refine Go.lald k3 q3 g348 (by decide +kernel) ?_
            refine Go.run (pc' := 1706) [.iload 6, .i2l, .lcmp] (ls' := [some (.ref 217), some (.ref a1), some (.ref a2), some (.ref a3), some (.int x4), some (.int v337.1), some (.int v342.1)]) (st' := [.int (lg_cmp ((v342.2 a3 (0 : Int32).toNatClampNeg).toInt64) v342.1.toInt64)]) (by decide +kernel) rfl rfl ?_
            refine Go.if_eq (off := 5) (tgt := 1711) (by decide +kernel) (by decide) (fun c349 => ?_) (fun c349 => ?_)
            · replace e := ite_t c349 e
              refine Go.wid (k' := k9 + 4) (n' := n9 + 24) (by omega) (by omega) ?_
              refine Go.wk' (wks (wks (wks (wks (wks (wkn (wkn wk0))))))) ?_
              exact x_Q_law_1711 hf hI (by omega) (by omega) (fun kk1 kk2 kk3 qq3 e => ih (by omega) (by omega) kk1 kk2 kk3 qq3 e) k1 k2 k3 q3 e
            · replace e := ite_f c349 e
              refine Go.run (pc' := 1710) [.iconst 0] (ls' := [some (.ref 217), some (.ref a1), some (.ref a2), some (.ref a3), some (.int x4), some (.int v337.1), some (.int v342.1)]) (st' := [.int (0 : Int32)]) (by decide +kernel) rfl rfl ?_
              exact no_none e
        · replace e := ite_f c346 e
          refine Go.run (pc' := 1693) [.iconst 0] (ls' := [some (.ref 217), some (.ref a1), some (.ref a2), some (.ref a3), some (.int x4), some (.int v337.1), some (.int v342.1)]) (st' := [.int (0 : Int32)]) (by decide +kernel) rfl rfl ?_
          exact no_none e
      replace e := ite_f c333 e
      rcases Decidable.em (((xs x4.toNatClampNeg) &&& (31 : Int32)) = 25) with c350 | c350
      · replace e := ite_t c350 e
        refine Go.tsIn (dflt := 1887) (lo := 0) (hi := 27) (offs := #[125, 181, 194, 207, 251, 307, 375, 455, 523, 591, 647, 715, 771, 851, 931, 1011, 1067, 1135, 1191, 1259, 1303, 1383, 1451, 1507, 1575, 1675, 1775, 1831]) (len := 125) (off := 1675) (tgt := 1714) 25 (by decide +kernel) (by rw [c350]; decide) (by decide) (by decide) (by decide) (by decide) ?_
        refine Go.run (pc' := 1720) [.aload_n 1, .aload_n 0, .iload 4, .iconst 1, .iadd] (ls' := [some (.ref 217), some (.ref a1), some (.ref a2), some (.ref a3), some (.int x4), none, none]) (st' := [.int (x4 + (1 : Int32)), .ref 217, .ref a1]) (by decide +kernel) rfl rfl ?_
        obtain ⟨g351, e⟩ := gd_inv e
        refine goSld g351 (by decide +kernel) ?_
        refine Go.run (pc' := 1730) [.i2l, .bipush (32), .lshl, .aload_n 0, .iload 4, .iconst 2, .iadd] (ls' := [some (.ref 217), some (.ref a1), some (.ref a2), some (.ref a3), some (.int x4), none, none]) (st' := [.int (x4 + (2 : Int32)), .ref 217, .long (((xs (x4 + (1 : Int32)).toNatClampNeg).toInt64) <<< ((32 : Int32).toInt64 &&& 63)), .ref a1]) (by decide +kernel) rfl rfl ?_
        obtain ⟨g352, e⟩ := gd_inv e
        refine goSld g352 (by decide +kernel) ?_
        refine Go.run (pc' := 1732) [.i2l] (ls' := [some (.ref 217), some (.ref a1), some (.ref a2), some (.ref a3), some (.int x4), none, none]) (st' := [.long ((xs (x4 + (2 : Int32)).toNatClampNeg).toInt64), .long (((xs (x4 + (1 : Int32)).toNatClampNeg).toInt64) <<< ((32 : Int32).toInt64 &&& 63)), .ref a1]) (by decide +kernel) rfl rfl ?_
        refine Go.ldc2 lo_Q_186 (by decide +kernel) ?_
        refine Go.run (pc' := 1742) [.land, .lor, .aload_n 0, .iload 4, .iconst 3, .iadd] (ls' := [some (.ref 217), some (.ref a1), some (.ref a2), some (.ref a3), some (.int x4), none, none]) (st' := [.int (x4 + (3 : Int32)), .ref 217, .long ((((xs (x4 + (1 : Int32)).toNatClampNeg).toInt64) <<< ((32 : Int32).toInt64 &&& 63)) ||| (((xs (x4 + (2 : Int32)).toNatClampNeg).toInt64) &&& (4294967295 : Int64))), .ref a1]) (by decide +kernel) rfl rfl ?_
        obtain ⟨g353, e⟩ := gd_inv e
        refine goSld g353 (by decide +kernel) ?_
        refine Go.run (pc' := 1744) [.aload_n 3] (ls' := [some (.ref 217), some (.ref a1), some (.ref a2), some (.ref a3), some (.int x4), none, none]) (st' := [.ref a3, .int (xs (x4 + (3 : Int32)).toNatClampNeg), .long ((((xs (x4 + (1 : Int32)).toNatClampNeg).toInt64) <<< ((32 : Int32).toInt64 &&& 63)) ||| (((xs (x4 + (2 : Int32)).toNatClampNeg).toInt64) &&& (4294967295 : Int64))), .ref a1]) (by decide +kernel) rfl rfl ?_
        obtain ⟨v354, e355, e⟩ := bd_inv e
        refine Go.callH (M2 := m_Q_simulate) (as := [.ref a1, .long ((((xs (x4 + (1 : Int32)).toNatClampNeg).toInt64) <<< ((32 : Int32).toInt64 &&& 63)) ||| (((xs (x4 + (2 : Int32)).toNatClampNeg).toInt64) &&& (4294967295 : Int64))), .int (xs (x4 + (3 : Int32)).toNatClampNeg), .ref a3]) (rest := []) (v := some (.int v354.1)) (h1 := v354.2) (x_Q_simulate hf hI k1 k3 e355) wh_Q_192 (by decide +kernel) rfl rfl ⟨⟨Nat.le_of_ble_eq_true rfl, Nat.le_of_ble_eq_true rfl⟩, ⟨(by show k9 + 1 ≤ 601024; omega), (by show n9 + 6 ≤ 7293034; omega)⟩⟩ (Nat.le_of_ble_eq_true rfl) ?_
        show Go l D ad aC room_1 _ m_Q_law 1747 [some (.ref 217), some (.ref a1), some (.ref a2), some (.ref a3), some (.int x4), none, none] [.int v354.1] v354.2 (k9 + 1) (n9 + 6)
        refine Go.run (pc' := 1755) [.istore 5, .aload_n 2, .aload_n 0, .iload 4, .iconst 1, .iadd] (ls' := [some (.ref 217), some (.ref a1), some (.ref a2), some (.ref a3), some (.int x4), some (.int v354.1), none]) (st' := [.int (x4 + (1 : Int32)), .ref 217, .ref a2]) (by decide +kernel) rfl rfl ?_
        obtain ⟨g356, e⟩ := gd_inv e
        refine goSld g356 (by decide +kernel) ?_
        refine Go.run (pc' := 1765) [.i2l, .bipush (32), .lshl, .aload_n 0, .iload 4, .iconst 2, .iadd] (ls' := [some (.ref 217), some (.ref a1), some (.ref a2), some (.ref a3), some (.int x4), some (.int v354.1), none]) (st' := [.int (x4 + (2 : Int32)), .ref 217, .long (((xs (x4 + (1 : Int32)).toNatClampNeg).toInt64) <<< ((32 : Int32).toInt64 &&& 63)), .ref a2]) (by decide +kernel) rfl rfl ?_
        obtain ⟨g357, e⟩ := gd_inv e
        refine goSld g357 (by decide +kernel) ?_
        refine Go.run (pc' := 1767) [.i2l] (ls' := [some (.ref 217), some (.ref a1), some (.ref a2), some (.ref a3), some (.int x4), some (.int v354.1), none]) (st' := [.long ((xs (x4 + (2 : Int32)).toNatClampNeg).toInt64), .long (((xs (x4 + (1 : Int32)).toNatClampNeg).toInt64) <<< ((32 : Int32).toInt64 &&& 63)), .ref a2]) (by decide +kernel) rfl rfl ?_
        refine Go.ldc2 lo_Q_186 (by decide +kernel) ?_
        refine Go.run (pc' := 1777) [.land, .lor, .aload_n 0, .iload 4, .iconst 3, .iadd] (ls' := [some (.ref 217), some (.ref a1), some (.ref a2), some (.ref a3), some (.int x4), some (.int v354.1), none]) (st' := [.int (x4 + (3 : Int32)), .ref 217, .long ((((xs (x4 + (1 : Int32)).toNatClampNeg).toInt64) <<< ((32 : Int32).toInt64 &&& 63)) ||| (((xs (x4 + (2 : Int32)).toNatClampNeg).toInt64) &&& (4294967295 : Int64))), .ref a2]) (by decide +kernel) rfl rfl ?_
        obtain ⟨g358, e⟩ := gd_inv e
        refine goSld g358 (by decide +kernel) ?_
        obtain ⟨v359, e360, e⟩ := bd_inv e
        refine Go.callV (M2 := m_M_simulate) (a := a2) (as := [.long ((((xs (x4 + (1 : Int32)).toNatClampNeg).toInt64) <<< ((32 : Int32).toInt64 &&& 63)) ||| (((xs (x4 + (2 : Int32)).toNatClampNeg).toInt64) &&& (4294967295 : Int64))), .int (xs (x4 + (3 : Int32)).toNatClampNeg)]) (rest := []) (v := some (.int v359.1)) (h1 := v359.2) (x_M_simulate hf hI k2 e360) wv_Q_195 k2 kc_8 (by decide +kernel) rfl rfl ⟨⟨Nat.le_of_ble_eq_true rfl, Nat.le_of_ble_eq_true rfl⟩, ⟨(by show k9 + 1 + 0 ≤ 601024; omega), (by show n9 + 6 + 0 ≤ 7293034; omega)⟩⟩ (Nat.le_of_ble_eq_true rfl) ?_
        show Go l D ad aC room_1 _ m_Q_law 1781 [some (.ref 217), some (.ref a1), some (.ref a2), some (.ref a3), some (.int x4), some (.int v354.1), none] [.int v359.1] v359.2 (k9 + 1) (n9 + 6)
        refine Go.run (pc' := 1784) [.istore 6, .aload_n 2] (ls' := [some (.ref 217), some (.ref a1), some (.ref a2), some (.ref a3), some (.int x4), some (.int v354.1), some (.int v359.1)]) (st' := [.ref a2]) (by decide +kernel) rfl rfl ?_
        obtain ⟨v361, e362, e⟩ := bd_inv e
        refine Go.callV (M2 := m_M_thrown) (a := a2) (as := []) (rest := []) (v := some (.int v361)) (h1 := v359.2) (x_M_thrown hf hI k2 e362) wv_Q_109 k2 kc_8 (by decide +kernel) rfl rfl ⟨⟨Nat.le_of_ble_eq_true rfl, Nat.le_of_ble_eq_true rfl⟩, ⟨(by show k9 + 1 + 0 ≤ 601024; omega), (by show n9 + 6 + 0 ≤ 7293034; omega)⟩⟩ (Nat.le_of_ble_eq_true rfl) ?_
        show Go l D ad aC room_1 _ m_Q_law 1787 [some (.ref 217), some (.ref a1), some (.ref a2), some (.ref a3), some (.int x4), some (.int v354.1), some (.int v359.1)] [.int v361] v359.2 (k9 + 1) (n9 + 6)
        refine Go.run (pc' := 1789) [.iload 5] (ls' := [some (.ref 217), some (.ref a1), some (.ref a2), some (.ref a3), some (.int x4), some (.int v354.1), some (.int v359.1)]) (st' := [.int v354.1, .int v361]) (by decide +kernel) rfl rfl ?_
        refine Go.ic_eq (off := 5) (tgt := 1794) (by decide +kernel) (by decide) (fun c363 => ?_) (fun c363 => ?_)
        · replace e := ite_t c363 e
          refine Go.run (pc' := 1796) [.iload 5] (ls' := [some (.ref 217), some (.ref a1), some (.ref a2), some (.ref a3), some (.int x4), some (.int v354.1), some (.int v359.1)]) (st' := [.int v354.1]) (by decide +kernel) rfl rfl ?_
          refine Go.if_ne (off := 15) (tgt := 1811) (by decide +kernel) (by decide) (fun c364 => ?_) (fun c364 => ?_)
          · replace e := ite_f c364 e
            refine Go.wid (k' := k9 + 4) (n' := n9 + 24) (by omega) (by omega) ?_
            refine Go.wk' (wks (wks (wks (wks (wks (wkn (wkn wk0))))))) ?_
            exact x_Q_law_1811 hf hI (by omega) (by omega) (fun kk1 kk2 kk3 qq3 e => ih (by omega) (by omega) kk1 kk2 kk3 qq3 e) k1 k2 k3 q3 e
          · replace e := ite_t c364 e
            refine Go.run (pc' := 1801) [.aload_n 3, .iconst 0] (ls' := [some (.ref 217), some (.ref a1), some (.ref a2), some (.ref a3), some (.int x4), some (.int v354.1), some (.int v359.1)]) (st' := [.int (0 : Int32), .ref a3]) (by decide +kernel) rfl rfl ?_
            obtain ⟨g365, e⟩ := gd_inv e
            refine Go.lald k3 q3 g365 (by decide +kernel) ?_
            refine Go.run (pc' := 1806) [.iload 6, .i2l, .lcmp] (ls' := [some (.ref 217), some (.ref a1), some (.ref a2), some (.ref a3), some (.int x4), some (.int v354.1), some (.int v359.1)]) (st' := [.int (lg_cmp ((v359.2 a3 (0 : Int32).toNatClampNeg).toInt64) v359.1.toInt64)]) (by decide +kernel) rfl rfl ?_
            refine Go.if_eq (off := 5) (tgt := 1811) (by decide +kernel) (by decide) (fun c366 => ?_) (fun c366 => ?_)
            · replace e := ite_t c366 e
              refine Go.wid (k' := k9 + 4) (n' := n9 + 24) (by omega) (by omega) ?_
              refine Go.wk' (wks (wks (wks (wks (wks (wkn (wkn wk0))))))) ?_
              exact x_Q_law_1811 hf hI (by omega) (by omega) (fun kk1 kk2 kk3 qq3 e => ih (by omega) (by omega) kk1 kk2 kk3 qq3 e) k1 k2 k3 q3 e
            · replace e := ite_f c366 e
              refine Go.run (pc' := 1810) [.iconst 0] (ls' := [some (.ref 217), some (.ref a1), some (.ref a2), some (.ref a3), some (.int x4), some (.int v354.1), some (.int v359.1)]) (st' := [.int (0 : Int32)]) (by decide +kernel) rfl rfl ?_
              exact no_none e
        · replace e := ite_f c363 e
          refine Go.run (pc' := 1793) [.iconst 0] (ls' := [some (.ref 217), some (.ref a1), some (.ref a2), some (.ref a3), some (.int x4), some (.int v354.1), some (.int v359.1)]) (st' := [.int (0 : Int32)]) (by decide +kernel) rfl rfl ?_
          exact no_none e
      replace e := ite_f c350 e
      rcases Decidable.em (((xs x4.toNatClampNeg) &&& (31 : Int32)) = 26) with c367 | c367
      · replace e := ite_t c367 e
        refine Go.tsIn (dflt := 1887) (lo := 0) (hi := 27) (offs := #[125, 181, 194, 207, 251, 307, 375, 455, 523, 591, 647, 715, 771, 851, 931, 1011, 1067, 1135, 1191, 1259, 1303, 1383, 1451, 1507, 1575, 1675, 1775, 1831]) (len := 125) (off := 1775) (tgt := 1814) 26 (by decide +kernel) (by rw [c367]; decide) (by decide) (by decide) (by decide) (by decide) ?_
        refine Go.run (pc' := 1820) [.aload_n 1, .aload_n 0, .iload 4, .iconst 1, .iadd] (ls' := [some (.ref 217), some (.ref a1), some (.ref a2), some (.ref a3), some (.int x4), none, none]) (st' := [.int (x4 + (1 : Int32)), .ref 217, .ref a1]) (by decide +kernel) rfl rfl ?_
        obtain ⟨g368, e⟩ := gd_inv e
        refine goSld g368 (by decide +kernel) ?_
        refine Go.run (pc' := 1822) [.aload_n 3] (ls' := [some (.ref 217), some (.ref a1), some (.ref a2), some (.ref a3), some (.int x4), none, none]) (st' := [.ref a3, .int (xs (x4 + (1 : Int32)).toNatClampNeg), .ref a1]) (by decide +kernel) rfl rfl ?_
        obtain ⟨v369, e370, e⟩ := bd_inv e
        refine Go.callH (M2 := m_Q_save) (as := [.ref a1, .int (xs (x4 + (1 : Int32)).toNatClampNeg), .ref a3]) (rest := []) (v := some (.int v369.1)) (h1 := v369.2) (x_Q_save hf hI k1 k3 e370) wh_Q_196 (by decide +kernel) rfl rfl ⟨⟨Nat.le_of_ble_eq_true rfl, Nat.le_of_ble_eq_true rfl⟩, ⟨(by show k9 + 1 ≤ 601024; omega), (by show n9 + 6 ≤ 7293034; omega)⟩⟩ (Nat.le_of_ble_eq_true rfl) ?_
        show Go l D ad aC room_1 _ m_Q_law 1825 [some (.ref 217), some (.ref a1), some (.ref a2), some (.ref a3), some (.int x4), none, none] [.int v369.1] v369.2 (k9 + 1) (n9 + 6)
        refine Go.run (pc' := 1833) [.istore 5, .aload_n 2, .aload_n 0, .iload 4, .iconst 1, .iadd] (ls' := [some (.ref 217), some (.ref a1), some (.ref a2), some (.ref a3), some (.int x4), some (.int v369.1), none]) (st' := [.int (x4 + (1 : Int32)), .ref 217, .ref a2]) (by decide +kernel) rfl rfl ?_
        obtain ⟨g371, e⟩ := gd_inv e
        refine goSld g371 (by decide +kernel) ?_
        obtain ⟨v372, e373, e⟩ := bd_inv e
        refine Go.callV (M2 := m_M_save) (a := a2) (as := [.int (xs (x4 + (1 : Int32)).toNatClampNeg)]) (rest := []) (v := some (.int v372.1)) (h1 := v372.2) (x_M_save hf hI k2 e373) wv_Q_198 k2 kc_8 (by decide +kernel) rfl rfl ⟨⟨Nat.le_of_ble_eq_true rfl, Nat.le_of_ble_eq_true rfl⟩, ⟨(by show k9 + 1 + 0 ≤ 601024; omega), (by show n9 + 6 + 0 ≤ 7293034; omega)⟩⟩ (Nat.le_of_ble_eq_true rfl) ?_
        show Go l D ad aC room_1 _ m_Q_law 1837 [some (.ref 217), some (.ref a1), some (.ref a2), some (.ref a3), some (.int x4), some (.int v369.1), none] [.int v372.1] v372.2 (k9 + 1) (n9 + 6)
        refine Go.run (pc' := 1840) [.istore 6, .aload_n 2] (ls' := [some (.ref 217), some (.ref a1), some (.ref a2), some (.ref a3), some (.int x4), some (.int v369.1), some (.int v372.1)]) (st' := [.ref a2]) (by decide +kernel) rfl rfl ?_
        obtain ⟨v374, e375, e⟩ := bd_inv e
        refine Go.callV (M2 := m_M_thrown) (a := a2) (as := []) (rest := []) (v := some (.int v374)) (h1 := v372.2) (x_M_thrown hf hI k2 e375) wv_Q_109 k2 kc_8 (by decide +kernel) rfl rfl ⟨⟨Nat.le_of_ble_eq_true rfl, Nat.le_of_ble_eq_true rfl⟩, ⟨(by show k9 + 1 + 0 ≤ 601024; omega), (by show n9 + 6 + 0 ≤ 7293034; omega)⟩⟩ (Nat.le_of_ble_eq_true rfl) ?_
        show Go l D ad aC room_1 _ m_Q_law 1843 [some (.ref 217), some (.ref a1), some (.ref a2), some (.ref a3), some (.int x4), some (.int v369.1), some (.int v372.1)] [.int v374] v372.2 (k9 + 1) (n9 + 6)
        refine Go.run (pc' := 1845) [.iload 5] (ls' := [some (.ref 217), some (.ref a1), some (.ref a2), some (.ref a3), some (.int x4), some (.int v369.1), some (.int v372.1)]) (st' := [.int v369.1, .int v374]) (by decide +kernel) rfl rfl ?_
        refine Go.ic_eq (off := 5) (tgt := 1850) (by decide +kernel) (by decide) (fun c376 => ?_) (fun c376 => ?_)
        · replace e := ite_t c376 e
          refine Go.run (pc' := 1852) [.iload 5] (ls' := [some (.ref 217), some (.ref a1), some (.ref a2), some (.ref a3), some (.int x4), some (.int v369.1), some (.int v372.1)]) (st' := [.int v369.1]) (by decide +kernel) rfl rfl ?_
          refine Go.if_ne (off := 15) (tgt := 1867) (by decide +kernel) (by decide) (fun c377 => ?_) (fun c377 => ?_)
          · replace e := ite_f c377 e
            refine Go.wid (k' := k9 + 4) (n' := n9 + 24) (by omega) (by omega) ?_
            refine Go.wk' (wks (wks (wks (wks (wks (wkn (wkn wk0))))))) ?_
            exact x_Q_law_1867 hf hI (by omega) (by omega) (fun kk1 kk2 kk3 qq3 e => ih (by omega) (by omega) kk1 kk2 kk3 qq3 e) k1 k2 k3 q3 e
          · replace e := ite_t c377 e
            refine Go.run (pc' := 1857) [.aload_n 3, .iconst 0] (ls' := [some (.ref 217), some (.ref a1), some (.ref a2), some (.ref a3), some (.int x4), some (.int v369.1), some (.int v372.1)]) (st' := [.int (0 : Int32), .ref a3]) (by decide +kernel) rfl rfl ?_
            obtain ⟨g378, e⟩ := gd_inv e
            refine Go.lald k3 q3 g378 (by decide +kernel) ?_
            refine Go.run (pc' := 1862) [.iload 6, .i2l, .lcmp] (ls' := [some (.ref 217), some (.ref a1), some (.ref a2), some (.ref a3), some (.int x4), some (.int v369.1), some (.int v372.1)]) (st' := [.int (lg_cmp ((v372.2 a3 (0 : Int32).toNatClampNeg).toInt64) v372.1.toInt64)]) (by decide +kernel) rfl rfl ?_
            refine Go.if_eq (off := 5) (tgt := 1867) (by decide +kernel) (by decide) (fun c379 => ?_) (fun c379 => ?_)
            · replace e := ite_t c379 e
              refine Go.wid (k' := k9 + 4) (n' := n9 + 24) (by omega) (by omega) ?_
              refine Go.wk' (wks (wks (wks (wks (wks (wkn (wkn wk0))))))) ?_
              exact x_Q_law_1867 hf hI (by omega) (by omega) (fun kk1 kk2 kk3 qq3 e => ih (by omega) (by omega) kk1 kk2 kk3 qq3 e) k1 k2 k3 q3 e
            · replace e := ite_f c379 e
              refine Go.run (pc' := 1866) [.iconst 0] (ls' := [some (.ref 217), some (.ref a1), some (.ref a2), some (.ref a3), some (.int x4), some (.int v369.1), some (.int v372.1)]) (st' := [.int (0 : Int32)]) (by decide +kernel) rfl rfl ?_
              exact no_none e
        · replace e := ite_f c376 e
          refine Go.run (pc' := 1849) [.iconst 0] (ls' := [some (.ref 217), some (.ref a1), some (.ref a2), some (.ref a3), some (.int x4), some (.int v369.1), some (.int v372.1)]) (st' := [.int (0 : Int32)]) (by decide +kernel) rfl rfl ?_
          exact no_none e
      replace e := ite_f c367 e
      rcases Decidable.em (((xs x4.toNatClampNeg) &&& (31 : Int32)) = 27) with c380 | c380
      · replace e := ite_t c380 e
        refine Go.tsIn (dflt := 1887) (lo := 0) (hi := 27) (offs := #[125, 181, 194, 207, 251, 307, 375, 455, 523, 591, 647, 715, 771, 851, 931, 1011, 1067, 1135, 1191, 1259, 1303, 1383, 1451, 1507, 1575, 1675, 1775, 1831]) (len := 125) (off := 1831) (tgt := 1870) 27 (by decide +kernel) (by rw [c380]; decide) (by decide) (by decide) (by decide) (by decide) ?_
        refine Go.run (pc' := 1876) [.aload_n 1, .aload_n 0, .iload 4, .iconst 1, .iadd] (ls' := [some (.ref 217), some (.ref a1), some (.ref a2), some (.ref a3), some (.int x4), none, none]) (st' := [.int (x4 + (1 : Int32)), .ref 217, .ref a1]) (by decide +kernel) rfl rfl ?_
        obtain ⟨g381, e⟩ := gd_inv e
        refine goSld g381 (by decide +kernel) ?_
        refine Go.run (pc' := 1878) [.aload_n 3] (ls' := [some (.ref 217), some (.ref a1), some (.ref a2), some (.ref a3), some (.int x4), none, none]) (st' := [.ref a3, .int (xs (x4 + (1 : Int32)).toNatClampNeg), .ref a1]) (by decide +kernel) rfl rfl ?_
        obtain ⟨v382, e383, e⟩ := bd_inv e
        refine Go.callH (M2 := m_Q_restore) (as := [.ref a1, .int (xs (x4 + (1 : Int32)).toNatClampNeg), .ref a3]) (rest := []) (v := some (.int v382.1)) (h1 := v382.2) (x_Q_restore hf hI k1 k3 e383) wh_Q_199 (by decide +kernel) rfl rfl ⟨⟨Nat.le_of_ble_eq_true rfl, Nat.le_of_ble_eq_true rfl⟩, ⟨(by show k9 + 2 ≤ 601024; omega), (by show n9 + 12 ≤ 7293034; omega)⟩⟩ (Nat.le_of_ble_eq_true rfl) ?_
        show Go l D ad aC room_1 _ m_Q_law 1881 [some (.ref 217), some (.ref a1), some (.ref a2), some (.ref a3), some (.int x4), none, none] [.int v382.1] v382.2 (k9 + 2) (n9 + 12)
        refine Go.run (pc' := 1889) [.istore 5, .aload_n 2, .aload_n 0, .iload 4, .iconst 1, .iadd] (ls' := [some (.ref 217), some (.ref a1), some (.ref a2), some (.ref a3), some (.int x4), some (.int v382.1), none]) (st' := [.int (x4 + (1 : Int32)), .ref 217, .ref a2]) (by decide +kernel) rfl rfl ?_
        obtain ⟨g384, e⟩ := gd_inv e
        refine goSld g384 (by decide +kernel) ?_
        obtain ⟨v385, e386, e⟩ := bd_inv e
        refine Go.callV (M2 := m_M_restore) (a := a2) (as := [.int (xs (x4 + (1 : Int32)).toNatClampNeg)]) (rest := []) (v := some (.int v385.1)) (h1 := v385.2) (x_M_restore hf hI k2 e386) wv_Q_201 k2 kc_8 (by decide +kernel) rfl rfl ⟨⟨Nat.le_of_ble_eq_true rfl, Nat.le_of_ble_eq_true rfl⟩, ⟨(by show k9 + 2 + 0 ≤ 601024; omega), (by show n9 + 12 + 0 ≤ 7293034; omega)⟩⟩ (Nat.le_of_ble_eq_true rfl) ?_
        show Go l D ad aC room_1 _ m_Q_law 1893 [some (.ref 217), some (.ref a1), some (.ref a2), some (.ref a3), some (.int x4), some (.int v382.1), none] [.int v385.1] v385.2 (k9 + 2) (n9 + 12)
        refine Go.run (pc' := 1896) [.istore 6, .aload_n 2] (ls' := [some (.ref 217), some (.ref a1), some (.ref a2), some (.ref a3), some (.int x4), some (.int v382.1), some (.int v385.1)]) (st' := [.ref a2]) (by decide +kernel) rfl rfl ?_
        obtain ⟨v387, e388, e⟩ := bd_inv e
        refine Go.callV (M2 := m_M_thrown) (a := a2) (as := []) (rest := []) (v := some (.int v387)) (h1 := v385.2) (x_M_thrown hf hI k2 e388) wv_Q_109 k2 kc_8 (by decide +kernel) rfl rfl ⟨⟨Nat.le_of_ble_eq_true rfl, Nat.le_of_ble_eq_true rfl⟩, ⟨(by show k9 + 2 + 0 ≤ 601024; omega), (by show n9 + 12 + 0 ≤ 7293034; omega)⟩⟩ (Nat.le_of_ble_eq_true rfl) ?_
        show Go l D ad aC room_1 _ m_Q_law 1899 [some (.ref 217), some (.ref a1), some (.ref a2), some (.ref a3), some (.int x4), some (.int v382.1), some (.int v385.1)] [.int v387] v385.2 (k9 + 2) (n9 + 12)
        refine Go.run (pc' := 1901) [.iload 5] (ls' := [some (.ref 217), some (.ref a1), some (.ref a2), some (.ref a3), some (.int x4), some (.int v382.1), some (.int v385.1)]) (st' := [.int v382.1, .int v387]) (by decide +kernel) rfl rfl ?_
        refine Go.ic_eq (off := 5) (tgt := 1906) (by decide +kernel) (by decide) (fun c389 => ?_) (fun c389 => ?_)
        · replace e := ite_t c389 e
          refine Go.run (pc' := 1908) [.iload 5] (ls' := [some (.ref 217), some (.ref a1), some (.ref a2), some (.ref a3), some (.int x4), some (.int v382.1), some (.int v385.1)]) (st' := [.int v382.1]) (by decide +kernel) rfl rfl ?_
          refine Go.if_ne (off := 15) (tgt := 1923) (by decide +kernel) (by decide) (fun c390 => ?_) (fun c390 => ?_)
          · replace e := ite_f c390 e
            refine Go.wid (k' := k9 + 4) (n' := n9 + 24) (by omega) (by omega) ?_
            refine Go.wk' (wks (wks (wks (wks (wks (wkn (wkn wk0))))))) ?_
            exact x_Q_law_1923 hf hI (by omega) (by omega) (fun kk1 kk2 kk3 qq3 e => ih (by omega) (by omega) kk1 kk2 kk3 qq3 e) k1 k2 k3 q3 e
          · replace e := ite_t c390 e
            refine Go.run (pc' := 1913) [.aload_n 3, .iconst 0] (ls' := [some (.ref 217), some (.ref a1), some (.ref a2), some (.ref a3), some (.int x4), some (.int v382.1), some (.int v385.1)]) (st' := [.int (0 : Int32), .ref a3]) (by decide +kernel) rfl rfl ?_
            obtain ⟨g391, e⟩ := gd_inv e
            refine Go.lald k3 q3 g391 (by decide +kernel) ?_
            refine Go.run (pc' := 1918) [.iload 6, .i2l, .lcmp] (ls' := [some (.ref 217), some (.ref a1), some (.ref a2), some (.ref a3), some (.int x4), some (.int v382.1), some (.int v385.1)]) (st' := [.int (lg_cmp ((v385.2 a3 (0 : Int32).toNatClampNeg).toInt64) v385.1.toInt64)]) (by decide +kernel) rfl rfl ?_
            refine Go.if_eq (off := 5) (tgt := 1923) (by decide +kernel) (by decide) (fun c392 => ?_) (fun c392 => ?_)
            · replace e := ite_t c392 e
              refine Go.wid (k' := k9 + 4) (n' := n9 + 24) (by omega) (by omega) ?_
              refine Go.wk' (wks (wks (wks (wks (wks (wkn (wkn wk0))))))) ?_
              exact x_Q_law_1923 hf hI (by omega) (by omega) (fun kk1 kk2 kk3 qq3 e => ih (by omega) (by omega) kk1 kk2 kk3 qq3 e) k1 k2 k3 q3 e
            · replace e := ite_f c392 e
              refine Go.run (pc' := 1922) [.iconst 0] (ls' := [some (.ref 217), some (.ref a1), some (.ref a2), some (.ref a3), some (.int x4), some (.int v382.1), some (.int v385.1)]) (st' := [.int (0 : Int32)]) (by decide +kernel) rfl rfl ?_
              exact no_none e
        · replace e := ite_f c389 e
          refine Go.run (pc' := 1905) [.iconst 0] (ls' := [some (.ref 217), some (.ref a1), some (.ref a2), some (.ref a3), some (.int x4), some (.int v382.1), some (.int v385.1)]) (st' := [.int (0 : Int32)]) (by decide +kernel) rfl rfl ?_
          exact no_none e
      replace e := ite_f c380 e
      refine Go.tsOut (dflt := 1887) (lo := 0) (hi := 27) (offs := #[125, 181, 194, 207, 251, 307, 375, 455, 523, 591, 647, 715, 771, 851, 931, 1011, 1067, 1135, 1191, 1259, 1303, 1383, 1451, 1507, 1575, 1675, 1775, 1831]) (len := 125) (tgt := 1926) (by decide +kernel) (by have zc3 := lv_neT c3 (a := 0) rfl; have zc16 := lv_neT c16 (a := 1) rfl; have zc22 := lv_neT c22 (a := 2) rfl; have zc28 := lv_neT c28 (a := 3) rfl; have zc39 := lv_neT c39 (a := 4) rfl; have zc52 := lv_neT c52 (a := 5) rfl; have zc67 := lv_neT c67 (a := 6) rfl; have zc84 := lv_neT c84 (a := 7) rfl; have zc99 := lv_neT c99 (a := 8) rfl; have zc114 := lv_neT c114 (a := 9) rfl; have zc127 := lv_neT c127 (a := 10) rfl; have zc142 := lv_neT c142 (a := 11) rfl; have zc155 := lv_neT c155 (a := 12) rfl; have zc172 := lv_neT c172 (a := 13) rfl; have zc189 := lv_neT c189 (a := 14) rfl; have zc206 := lv_neT c206 (a := 15) rfl; have zc219 := lv_neT c219 (a := 16) rfl; have zc234 := lv_neT c234 (a := 17) rfl; have zc247 := lv_neT c247 (a := 18) rfl; have zc262 := lv_neT c262 (a := 19) rfl; have zc273 := lv_neT c273 (a := 20) rfl; have zc290 := lv_neT c290 (a := 21) rfl; have zc305 := lv_neT c305 (a := 22) rfl; have zc318 := lv_neT c318 (a := 23) rfl; have zc333 := lv_neT c333 (a := 24) rfl; have zc350 := lv_neT c350 (a := 25) rfl; have zc367 := lv_neT c367 (a := 26) rfl; have zc380 := lv_neT c380 (a := 27) rfl; omega) (by decide) ?_
      refine Go.wid (k' := k9 + 4) (n' := n9 + 24) (by omega) (by omega) ?_
      exact x_Q_law_1926 hf hI (by omega) (by omega) (fun kk1 kk2 kk3 qq3 e => ih (by omega) (by omega) kk1 kk2 kk3 qq3 e) k1 k2 k3 q3 e
