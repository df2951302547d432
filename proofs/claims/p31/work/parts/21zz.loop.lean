/-! printed by wip/p31/genz.py: the law itself, behind the two makers -/
theorem ws_Q_204 : WS "FairWallsLaw" 204 m_Q_alike 3 := ⟨⟨gtb 1026 (by decide +kernel) (by decide +kernel), iw_Q, cw_Q_alike, rfl, by decide +kernel, by decide +kernel⟩, sw_Q_alike⟩
theorem ws_Q_208 : WS "FairWallsLaw" 208 m_Q_errors 1 := ⟨⟨gtb 650 (by decide +kernel) (by decide +kernel), iw_Q, cw_Q_errors, rfl, by decide +kernel, by decide +kernel⟩, sw_Q_errors⟩
theorem ws_Q_212 : WS "FairWallsLaw" 212 m_Q_kept 1 := ⟨⟨gtb 999 (by decide +kernel) (by decide +kernel), iw_Q, cw_Q_kept, rfl, by decide +kernel, by decide +kernel⟩, sw_Q_kept⟩
theorem ws_Q_215 : WS "FairWallsLaw" 215 m_Q_told 2 := ⟨⟨gtb 1034 (by decide +kernel) (by decide +kernel), iw_Q, cw_Q_told, rfl, by decide +kernel, by decide +kernel⟩, sw_Q_told⟩
theorem wh_Q_219 : WH "FairWallsLaw" 219 m_Q_load 1 := ⟨gtb 242 (by decide +kernel) (by decide +kernel), iw_Q, cw_Q_load, by decide +kernel, by decide +kernel, by decide +kernel, sw_Q_load⟩
theorem ws_Q_221 : WS "FairWallsLaw" 221 m_Q_act 3 := ⟨⟨gtb 1048 (by decide +kernel) (by decide +kernel), iw_Q, cw_Q_act, rfl, by decide +kernel, by decide +kernel⟩, sw_Q_act⟩
theorem ws_Q_224 : WS "FairWallsLaw" 224 m_Q_follows 2 := ⟨⟨gtb 1007 (by decide +kernel) (by decide +kernel), iw_Q, cw_Q_follows, rfl, by decide +kernel, by decide +kernel⟩, sw_Q_follows⟩
def f_Q_law_271 (L : Nat) (xs : Nat → Int32)  (x3 : Int32) (h : HP2) : Option (Unit) :=
  if x3 = 0 then
    none
  else
    (f_Q_alike (h.1, h.2) (10853 : Int32)).bind fun v2 =>
    if v2.1 = 0 then
      none
    else
      some ()
set_option maxRecDepth 100000 in
set_option maxHeartbeats 4000000 in
theorem x_Q_law_271 {l : Launch} {D : va_G} {aA aB : Nat → Nat} {cA cB : Nat → ClassId} (hf : l.flags = flags0) (hI : IZ aA aB) {L : Nat} {xs : Nat → Int32} {k9 n9 : Nat} (hk9 : k9 + 400 ≤ 600130) (hn9 : n9 + 2400 ≤ 7301080) {x3 : Int32} {h : HP2} {r : Unit} (e : f_Q_law_271 L xs x3 h = some r) : Gz l D aA aB cA cB room_1 (QLz aA aB L xs) m_Q_law 271 [some (.ref 217), some (.ref 180), some (.ref 1180), some (.int x3), none, none, none] [] h k9 n9 := by
  unfold f_Q_law_271 at e
  refine Gz.run (pc' := 272) [.iload_n 3] (ls' := [some (.ref 217), some (.ref 180), some (.ref 1180), some (.int x3), none, none, none]) (st' := [.int x3]) (by decide +kernel) rfl rfl ?_
  refine Gz.if_eq (off := 18) (tgt := 290) (by decide +kernel) (by decide) (fun c1 => ?_) (fun c1 => ?_)
  · replace e := ite_t c1 e
    refine Gz.run (pc' := 291) [.iconst 0] (ls' := [some (.ref 217), some (.ref 180), some (.ref 1180), some (.int x3), none, none, none]) (st' := [.int (0 : Int32)]) (by decide +kernel) rfl rfl ?_
    exact no_none e
  · replace e := ite_f c1 e
    refine Gz.run (pc' := 280) [.aload_n 1, .aload_n 2, .sipush (10853)] (ls' := [some (.ref 217), some (.ref 180), some (.ref 1180), some (.int x3), none, none, none]) (st' := [.int (10853 : Int32), .ref 1180, .ref 180]) (by decide +kernel) rfl rfl ?_
    obtain ⟨v2, e3, e⟩ := bd_inv e
    refine Gz.callZ (M2 := m_Q_alike) (as := [.ref 180, .ref 1180, .int (10853 : Int32)]) (rest := []) (v := some (.int v2.1)) (h' := v2.2) (x_Q_alike hf hI e3) ws_Q_204 (by decide +kernel) rfl rfl ⟨⟨Nat.le_of_ble_eq_true rfl, Nat.le_of_ble_eq_true rfl⟩, ⟨(by show k9 + 8 ≤ 600130; omega), (by show n9 + 6 * 8 ≤ 7301080; omega)⟩⟩ (Nat.le_of_ble_eq_true rfl) ?_
    show Gz l D aA aB cA cB _ _ m_Q_law 283 [some (.ref 217), some (.ref 180), some (.ref 1180), some (.int x3), none, none, none] [.int v2.1] v2.2 (k9 + 8) (n9 + 48)
    refine Gz.if_eq (off := 7) (tgt := 290) (by decide +kernel) (by decide) (fun c4 => ?_) (fun c4 => ?_)
    · replace e := ite_t c4 e
      refine Gz.run (pc' := 291) [.iconst 0] (ls' := [some (.ref 217), some (.ref 180), some (.ref 1180), some (.int x3), none, none, none]) (st' := [.int (0 : Int32)]) (by decide +kernel) rfl rfl ?_
      exact no_none e
    · replace e := ite_f c4 e
      refine Gz.run (pc' := 287) [.iconst 1] (ls' := [some (.ref 217), some (.ref 180), some (.ref 1180), some (.int x3), none, none, none]) (st' := [.int (1 : Int32)]) (by decide +kernel) rfl rfl ?_
      refine Gz.goto (off := 4) (tgt := 291) (by decide +kernel) (by decide) ?_
      exact gzLawRet (by omega) (by omega) (by decide +kernel)
def f_Q_law_265 (L : Nat) (xs : Nat → Int32) (k52_ : Int32 → Int32 → HP2 → Option (Unit)) (x3 : Int32) (x4 : Int32) (h : HP2) : Option (Unit) :=
  k52_ x3 (x4 + (1 : Int32)) h
set_option maxRecDepth 100000 in
set_option maxHeartbeats 4000000 in
theorem x_Q_law_265 {l : Launch} {D : va_G} {aA aB : Nat → Nat} {cA cB : Nat → ClassId} (hf : l.flags = flags0) (hI : IZ aA aB) {L : Nat} {xs : Nat → Int32} {k9 n9 : Nat} (hk9 : k9 + 400 ≤ 600130) (hn9 : n9 + 2400 ≤ 7301080) {k52_ : Int32 → Int32 → HP2 → Option (Unit)} (K52_ : ∀ {x3 : Int32} {x4 : Int32} {h : HP2} {r : Unit}, k52_ x3 x4 h = some r → Gz l D aA aB cA cB room_1 (QLz aA aB L xs) m_Q_law 52 [some (.ref 217), some (.ref 180), some (.ref 1180), some (.int x3), some (.int x4), none, none] [] h (k9 + 400) (n9 + 2400)) {x3 : Int32} {x4 : Int32} {h : HP2} {r : Unit} (e : f_Q_law_265 L xs k52_ x3 x4 h = some r) : Gz l D aA aB cA cB room_1 (QLz aA aB L xs) m_Q_law 265 [some (.ref 217), some (.ref 180), some (.ref 1180), some (.int x3), some (.int x4), none, none] [] h (k9 + 93) (n9 + 558) := by
  unfold f_Q_law_265 at e
  refine Gz.run (pc' := 268) [.iinc 4 (1)] (ls' := [some (.ref 217), some (.ref 180), some (.ref 1180), some (.int x3), some (.int (x4 + (1 : Int32))), none, none]) (st' := []) (by decide +kernel) rfl rfl ?_
  refine Gz.goto (off := -216) (tgt := 52) (by decide +kernel) (by decide) ?_
  refine Gz.wid (k' := k9 + 400) (n' := n9 + 2400) (by omega) (by omega) ?_
  exact K52_ e
def f_Q_law_264 (L : Nat) (xs : Nat → Int32) (k52_ : Int32 → Int32 → HP2 → Option (Unit)) (x4 : Int32) (s0 : Int32) (h : HP2) : Option (Unit) :=
  f_Q_law_265 L xs k52_ s0 x4 h
set_option maxRecDepth 100000 in
set_option maxHeartbeats 4000000 in
theorem x_Q_law_264 {l : Launch} {D : va_G} {aA aB : Nat → Nat} {cA cB : Nat → ClassId} (hf : l.flags = flags0) (hI : IZ aA aB) {L : Nat} {xs : Nat → Int32} {k9 n9 : Nat} (hk9 : k9 + 400 ≤ 600130) (hn9 : n9 + 2400 ≤ 7301080) {k52_ : Int32 → Int32 → HP2 → Option (Unit)} (K52_ : ∀ {x3 : Int32} {x4 : Int32} {h : HP2} {r : Unit}, k52_ x3 x4 h = some r → Gz l D aA aB cA cB room_1 (QLz aA aB L xs) m_Q_law 52 [some (.ref 217), some (.ref 180), some (.ref 1180), some (.int x3), some (.int x4), none, none] [] h (k9 + 400) (n9 + 2400)) {x4 : Int32} {s0 : Int32} {h : HP2} {r : Unit} (e : f_Q_law_264 L xs k52_ x4 s0 h = some r) : Gz l D aA aB cA cB room_1 (QLz aA aB L xs) m_Q_law 264 [some (.ref 217), some (.ref 180), some (.ref 1180), none, some (.int x4), none, none] [.int s0] h (k9 + 93) (n9 + 558) := by
  unfold f_Q_law_264 at e
  refine Gz.run (pc' := 265) [.istore_n 3] (ls' := [some (.ref 217), some (.ref 180), some (.ref 1180), some (.int s0), some (.int x4), none, none]) (st' := []) (by decide +kernel) rfl rfl ?_
  exact x_Q_law_265 hf hI (by omega) (by omega) K52_ e
def f_Q_law_263 (L : Nat) (xs : Nat → Int32) (k52_ : Int32 → Int32 → HP2 → Option (Unit)) (x4 : Int32) (h : HP2) : Option (Unit) :=
  f_Q_law_264 L xs k52_ x4 (0 : Int32) h
set_option maxRecDepth 100000 in
set_option maxHeartbeats 4000000 in
theorem x_Q_law_263 {l : Launch} {D : va_G} {aA aB : Nat → Nat} {cA cB : Nat → ClassId} (hf : l.flags = flags0) (hI : IZ aA aB) {L : Nat} {xs : Nat → Int32} {k9 n9 : Nat} (hk9 : k9 + 400 ≤ 600130) (hn9 : n9 + 2400 ≤ 7301080) {k52_ : Int32 → Int32 → HP2 → Option (Unit)} (K52_ : ∀ {x3 : Int32} {x4 : Int32} {h : HP2} {r : Unit}, k52_ x3 x4 h = some r → Gz l D aA aB cA cB room_1 (QLz aA aB L xs) m_Q_law 52 [some (.ref 217), some (.ref 180), some (.ref 1180), some (.int x3), some (.int x4), none, none] [] h (k9 + 400) (n9 + 2400)) {x4 : Int32} {h : HP2} {r : Unit} (e : f_Q_law_263 L xs k52_ x4 h = some r) : Gz l D aA aB cA cB room_1 (QLz aA aB L xs) m_Q_law 263 [some (.ref 217), some (.ref 180), some (.ref 1180), none, some (.int x4), none, none] [] h (k9 + 93) (n9 + 558) := by
  unfold f_Q_law_263 at e
  refine Gz.run (pc' := 264) [.iconst 0] (ls' := [some (.ref 217), some (.ref 180), some (.ref 1180), none, some (.int x4), none, none]) (st' := [.int (0 : Int32)]) (by decide +kernel) rfl rfl ?_
  exact x_Q_law_264 hf hI (by omega) (by omega) K52_ e
def f_Q_law_259 (L : Nat) (xs : Nat → Int32) (k52_ : Int32 → Int32 → HP2 → Option (Unit)) (x4 : Int32) (h : HP2) : Option (Unit) :=
  f_Q_law_264 L xs k52_ x4 (1 : Int32) h
set_option maxRecDepth 100000 in
set_option maxHeartbeats 4000000 in
theorem x_Q_law_259 {l : Launch} {D : va_G} {aA aB : Nat → Nat} {cA cB : Nat → ClassId} (hf : l.flags = flags0) (hI : IZ aA aB) {L : Nat} {xs : Nat → Int32} {k9 n9 : Nat} (hk9 : k9 + 400 ≤ 600130) (hn9 : n9 + 2400 ≤ 7301080) {k52_ : Int32 → Int32 → HP2 → Option (Unit)} (K52_ : ∀ {x3 : Int32} {x4 : Int32} {h : HP2} {r : Unit}, k52_ x3 x4 h = some r → Gz l D aA aB cA cB room_1 (QLz aA aB L xs) m_Q_law 52 [some (.ref 217), some (.ref 180), some (.ref 1180), some (.int x3), some (.int x4), none, none] [] h (k9 + 400) (n9 + 2400)) {x4 : Int32} {h : HP2} {r : Unit} (e : f_Q_law_259 L xs k52_ x4 h = some r) : Gz l D aA aB cA cB room_1 (QLz aA aB L xs) m_Q_law 259 [some (.ref 217), some (.ref 180), some (.ref 1180), none, some (.int x4), none, none] [] h (k9 + 93) (n9 + 558) := by
  unfold f_Q_law_259 at e
  refine Gz.run (pc' := 260) [.iconst 1] (ls' := [some (.ref 217), some (.ref 180), some (.ref 1180), none, some (.int x4), none, none]) (st' := [.int (1 : Int32)]) (by decide +kernel) rfl rfl ?_
  refine Gz.goto (off := 4) (tgt := 264) (by decide +kernel) (by decide) ?_
  exact x_Q_law_264 hf hI (by omega) (by omega) K52_ e
def f_Q_law_237 (L : Nat) (xs : Nat → Int32) (k52_ : Int32 → Int32 → HP2 → Option (Unit)) (x3 : Int32) (x4 : Int32) (x6 : Int32) (h : HP2) : Option (Unit) :=
  if x3 = 0 then
    f_Q_law_263 L xs k52_ x4 h
  else
    if 0 < (x4 - x4 / (10 : Int32) * (10 : Int32)) then
      f_Q_law_259 L xs k52_ x4 h
    else
      (f_Q_alike (h.1, h.2) x6).bind fun v3 =>
      if v3.1 = 0 then
        f_Q_law_263 L xs k52_ x4 v3.2
      else
        f_Q_law_259 L xs k52_ x4 v3.2
set_option maxRecDepth 100000 in
set_option maxHeartbeats 4000000 in
theorem x_Q_law_237 {l : Launch} {D : va_G} {aA aB : Nat → Nat} {cA cB : Nat → ClassId} (hf : l.flags = flags0) (hI : IZ aA aB) {L : Nat} {xs : Nat → Int32} {k9 n9 : Nat} (hk9 : k9 + 400 ≤ 600130) (hn9 : n9 + 2400 ≤ 7301080) {k52_ : Int32 → Int32 → HP2 → Option (Unit)} (K52_ : ∀ {x3 : Int32} {x4 : Int32} {h : HP2} {r : Unit}, k52_ x3 x4 h = some r → Gz l D aA aB cA cB room_1 (QLz aA aB L xs) m_Q_law 52 [some (.ref 217), some (.ref 180), some (.ref 1180), some (.int x3), some (.int x4), none, none] [] h (k9 + 400) (n9 + 2400)) {x3 : Int32} {x4 : Int32} {x6 : Int32} {h : HP2} {r : Unit} (e : f_Q_law_237 L xs k52_ x3 x4 x6 h = some r) : Gz l D aA aB cA cB room_1 (QLz aA aB L xs) m_Q_law 237 [some (.ref 217), some (.ref 180), some (.ref 1180), some (.int x3), some (.int x4), none, some (.int x6)] [] h (k9 + 85) (n9 + 510) := by
  unfold f_Q_law_237 at e
  refine Gz.run (pc' := 238) [.iload_n 3] (ls' := [some (.ref 217), some (.ref 180), some (.ref 1180), some (.int x3), some (.int x4), none, some (.int x6)]) (st' := [.int x3]) (by decide +kernel) rfl rfl ?_
  refine Gz.if_eq (off := 25) (tgt := 263) (by decide +kernel) (by decide) (fun c1 => ?_) (fun c1 => ?_)
  · replace e := ite_t c1 e
    refine Gz.wid (k' := k9 + 93) (n' := n9 + 558) (by omega) (by omega) ?_
    refine Gz.wk' (wks (wks (wks (wkn (wks (wks (wkn wk0))))))) ?_
    exact x_Q_law_263 hf hI (by omega) (by omega) K52_ e
  · replace e := ite_f c1 e
    refine Gz.run (pc' := 246) [.iload 4, .bipush (10), .irem] (ls' := [some (.ref 217), some (.ref 180), some (.ref 1180), some (.int x3), some (.int x4), none, some (.int x6)]) (st' := [.int (x4 - x4 / (10 : Int32) * (10 : Int32))]) (by decide +kernel) rfl rfl ?_
    refine Gz.if_gt (off := 13) (tgt := 259) (by decide +kernel) (by decide) (fun c2 => ?_) (fun c2 => ?_)
    · replace e := ite_t c2 e
      refine Gz.wid (k' := k9 + 93) (n' := n9 + 558) (by omega) (by omega) ?_
      refine Gz.wk' (wks (wks (wks (wkn (wks (wks (wkn wk0))))))) ?_
      exact x_Q_law_259 hf hI (by omega) (by omega) K52_ e
    · replace e := ite_f c2 e
      refine Gz.run (pc' := 253) [.aload_n 1, .aload_n 2, .iload 6] (ls' := [some (.ref 217), some (.ref 180), some (.ref 1180), some (.int x3), some (.int x4), none, some (.int x6)]) (st' := [.int x6, .ref 1180, .ref 180]) (by decide +kernel) rfl rfl ?_
      obtain ⟨v3, e4, e⟩ := bd_inv e
      refine Gz.callZ (M2 := m_Q_alike) (as := [.ref 180, .ref 1180, .int x6]) (rest := []) (v := some (.int v3.1)) (h' := v3.2) (x_Q_alike hf hI e4) ws_Q_204 (by decide +kernel) rfl rfl ⟨⟨Nat.le_of_ble_eq_true rfl, Nat.le_of_ble_eq_true rfl⟩, ⟨(by show k9 + 85 + 8 ≤ 600130; omega), (by show n9 + 510 + 6 * 8 ≤ 7301080; omega)⟩⟩ (Nat.le_of_ble_eq_true rfl) ?_
      show Gz l D aA aB cA cB _ _ m_Q_law 256 [some (.ref 217), some (.ref 180), some (.ref 1180), some (.int x3), some (.int x4), none, some (.int x6)] [.int v3.1] v3.2 (k9 + 93) (n9 + 558)
      refine Gz.if_eq (off := 7) (tgt := 263) (by decide +kernel) (by decide) (fun c5 => ?_) (fun c5 => ?_)
      · replace e := ite_t c5 e
        refine Gz.wk' (wks (wks (wks (wkn (wks (wks (wkn wk0))))))) ?_
        exact x_Q_law_263 hf hI (by omega) (by omega) K52_ e
      · replace e := ite_f c5 e
        refine Gz.wk' (wks (wks (wks (wkn (wks (wks (wkn wk0))))))) ?_
        exact x_Q_law_259 hf hI (by omega) (by omega) K52_ e
def f_Q_law_236 (L : Nat) (xs : Nat → Int32) (k52_ : Int32 → Int32 → HP2 → Option (Unit)) (x4 : Int32) (x6 : Int32) (s0 : Int32) (h : HP2) : Option (Unit) :=
  f_Q_law_237 L xs k52_ s0 x4 x6 h
set_option maxRecDepth 100000 in
set_option maxHeartbeats 4000000 in
theorem x_Q_law_236 {l : Launch} {D : va_G} {aA aB : Nat → Nat} {cA cB : Nat → ClassId} (hf : l.flags = flags0) (hI : IZ aA aB) {L : Nat} {xs : Nat → Int32} {k9 n9 : Nat} (hk9 : k9 + 400 ≤ 600130) (hn9 : n9 + 2400 ≤ 7301080) {k52_ : Int32 → Int32 → HP2 → Option (Unit)} (K52_ : ∀ {x3 : Int32} {x4 : Int32} {h : HP2} {r : Unit}, k52_ x3 x4 h = some r → Gz l D aA aB cA cB room_1 (QLz aA aB L xs) m_Q_law 52 [some (.ref 217), some (.ref 180), some (.ref 1180), some (.int x3), some (.int x4), none, none] [] h (k9 + 400) (n9 + 2400)) {x4 : Int32} {x6 : Int32} {s0 : Int32} {h : HP2} {r : Unit} (e : f_Q_law_236 L xs k52_ x4 x6 s0 h = some r) : Gz l D aA aB cA cB room_1 (QLz aA aB L xs) m_Q_law 236 [some (.ref 217), some (.ref 180), some (.ref 1180), none, some (.int x4), none, some (.int x6)] [.int s0] h (k9 + 85) (n9 + 510) := by
  unfold f_Q_law_236 at e
  refine Gz.run (pc' := 237) [.istore_n 3] (ls' := [some (.ref 217), some (.ref 180), some (.ref 1180), some (.int s0), some (.int x4), none, some (.int x6)]) (st' := []) (by decide +kernel) rfl rfl ?_
  exact x_Q_law_237 hf hI (by omega) (by omega) K52_ e
def f_Q_law_235 (L : Nat) (xs : Nat → Int32) (k52_ : Int32 → Int32 → HP2 → Option (Unit)) (x4 : Int32) (x6 : Int32) (h : HP2) : Option (Unit) :=
  f_Q_law_236 L xs k52_ x4 x6 (0 : Int32) h
set_option maxRecDepth 100000 in
set_option maxHeartbeats 4000000 in
theorem x_Q_law_235 {l : Launch} {D : va_G} {aA aB : Nat → Nat} {cA cB : Nat → ClassId} (hf : l.flags = flags0) (hI : IZ aA aB) {L : Nat} {xs : Nat → Int32} {k9 n9 : Nat} (hk9 : k9 + 400 ≤ 600130) (hn9 : n9 + 2400 ≤ 7301080) {k52_ : Int32 → Int32 → HP2 → Option (Unit)} (K52_ : ∀ {x3 : Int32} {x4 : Int32} {h : HP2} {r : Unit}, k52_ x3 x4 h = some r → Gz l D aA aB cA cB room_1 (QLz aA aB L xs) m_Q_law 52 [some (.ref 217), some (.ref 180), some (.ref 1180), some (.int x3), some (.int x4), none, none] [] h (k9 + 400) (n9 + 2400)) {x4 : Int32} {x6 : Int32} {h : HP2} {r : Unit} (e : f_Q_law_235 L xs k52_ x4 x6 h = some r) : Gz l D aA aB cA cB room_1 (QLz aA aB L xs) m_Q_law 235 [some (.ref 217), some (.ref 180), some (.ref 1180), none, some (.int x4), none, some (.int x6)] [] h (k9 + 85) (n9 + 510) := by
  unfold f_Q_law_235 at e
  refine Gz.run (pc' := 236) [.iconst 0] (ls' := [some (.ref 217), some (.ref 180), some (.ref 1180), none, some (.int x4), none, some (.int x6)]) (st' := [.int (0 : Int32)]) (by decide +kernel) rfl rfl ?_
  exact x_Q_law_236 hf hI (by omega) (by omega) K52_ e
def f_Q_law_188 (L : Nat) (xs : Nat → Int32) (k52_ : Int32 → Int32 → HP2 → Option (Unit)) (x3 : Int32) (x4 : Int32) (x6 : Int32) (h : HP2) : Option (Unit) :=
  if (x4 - x4 / (13 : Int32) * (13 : Int32)) = (12 : Int32) then
    if x3 = 0 then
      f_Q_law_235 L xs k52_ x4 x6 h
    else
      (f_Q_follows h.2 180 x6).bind fun v3 =>
      if v3.1 = 0 then
        f_Q_law_235 L xs k52_ x4 x6 (h.1, v3.2)
      else
        (f_Q_save h.1 180 (1 : Int32)).bind fun v6 =>
        if (lg_cmp v6.1 (0 : Int64)) < 0 then
          f_Q_law_235 L xs k52_ x4 x6 (v6.2, v3.2)
        else
          (f_Q_restore v6.2 180 (1 : Int32)).bind fun v9 =>
          if (lg_cmp v9.1 (0 : Int64)) < 0 then
            f_Q_law_235 L xs k52_ x4 x6 (v9.2, v3.2)
          else
            f_Q_law_236 L xs k52_ x4 x6 (1 : Int32) (v9.2, v3.2)
  else
    f_Q_law_237 L xs k52_ x3 x4 x6 h
set_option maxRecDepth 100000 in
set_option maxHeartbeats 4000000 in
theorem x_Q_law_188 {l : Launch} {D : va_G} {aA aB : Nat → Nat} {cA cB : Nat → ClassId} (hf : l.flags = flags0) (hI : IZ aA aB) {L : Nat} {xs : Nat → Int32} {k9 n9 : Nat} (hk9 : k9 + 400 ≤ 600130) (hn9 : n9 + 2400 ≤ 7301080) {k52_ : Int32 → Int32 → HP2 → Option (Unit)} (K52_ : ∀ {x3 : Int32} {x4 : Int32} {h : HP2} {r : Unit}, k52_ x3 x4 h = some r → Gz l D aA aB cA cB room_1 (QLz aA aB L xs) m_Q_law 52 [some (.ref 217), some (.ref 180), some (.ref 1180), some (.int x3), some (.int x4), none, none] [] h (k9 + 400) (n9 + 2400)) {x3 : Int32} {x4 : Int32} {x6 : Int32} {h : HP2} {r : Unit} (e : f_Q_law_188 L xs k52_ x3 x4 x6 h = some r) : Gz l D aA aB cA cB room_1 (QLz aA aB L xs) m_Q_law 188 [some (.ref 217), some (.ref 180), some (.ref 1180), some (.int x3), some (.int x4), none, some (.int x6)] [] h (k9 + 51) (n9 + 306) := by
  unfold f_Q_law_188 at e
  refine Gz.run (pc' := 195) [.iload 4, .bipush (13), .irem, .bipush (12)] (ls' := [some (.ref 217), some (.ref 180), some (.ref 1180), some (.int x3), some (.int x4), none, some (.int x6)]) (st' := [.int (12 : Int32), .int (x4 - x4 / (13 : Int32) * (13 : Int32))]) (by decide +kernel) rfl rfl ?_
  refine Gz.ic_ne (off := 42) (tgt := 237) (by decide +kernel) (by decide) (fun c1 => ?_) (fun c1 => ?_)
  · replace e := ite_f c1 e
    refine Gz.wid (k' := k9 + 85) (n' := n9 + 510) (by omega) (by omega) ?_
    exact x_Q_law_237 hf hI (by omega) (by omega) K52_ e
  · replace e := ite_t c1 e
    refine Gz.run (pc' := 199) [.iload_n 3] (ls' := [some (.ref 217), some (.ref 180), some (.ref 1180), some (.int x3), some (.int x4), none, some (.int x6)]) (st' := [.int x3]) (by decide +kernel) rfl rfl ?_
    refine Gz.if_eq (off := 36) (tgt := 235) (by decide +kernel) (by decide) (fun c2 => ?_) (fun c2 => ?_)
    · replace e := ite_t c2 e
      refine Gz.wid (k' := k9 + 85) (n' := n9 + 510) (by omega) (by omega) ?_
      refine Gz.wk' (wks (wks (wks (wkn (wks (wks (wks wk0))))))) ?_
      exact x_Q_law_235 hf hI (by omega) (by omega) K52_ e
    · replace e := ite_f c2 e
      refine Gz.run (pc' := 205) [.aload_n 2, .iload 6] (ls' := [some (.ref 217), some (.ref 180), some (.ref 1180), some (.int x3), some (.int x4), none, some (.int x6)]) (st' := [.int x6, .ref 1180]) (by decide +kernel) rfl rfl ?_
      obtain ⟨v3, e4, e⟩ := bd_inv e
      refine Gz.call2S (M2 := m_Q_follows) (as := [.ref 180, .int x6]) (as' := [.ref 1180, .int x6]) (rest := []) (v := some (.int v3.1)) (w := some (.int v3.1)) (h1 := v3.2) hI (x_Q_follows hf hI.2.1 (by decide) e4) ws_Q_224 (by decide +kernel) rfl rfl rfl rfl ⟨⟨Nat.le_of_ble_eq_true rfl, Nat.le_of_ble_eq_true rfl⟩, ⟨(by show k9 + 51 + 32 ≤ 600130; omega), (by show n9 + 306 + 6 * 32 ≤ 7301080; omega)⟩⟩ (Nat.le_of_ble_eq_true rfl) ?_
      show Gz l D aA aB cA cB _ _ m_Q_law 208 [some (.ref 217), some (.ref 180), some (.ref 1180), some (.int x3), some (.int x4), none, some (.int x6)] [.int v3.1] (h.1, v3.2) (k9 + 83) (n9 + 498)
      refine Gz.if_eq (off := 27) (tgt := 235) (by decide +kernel) (by decide) (fun c5 => ?_) (fun c5 => ?_)
      · replace e := ite_t c5 e
        refine Gz.wid (k' := k9 + 85) (n' := n9 + 510) (by omega) (by omega) ?_
        refine Gz.wk' (wks (wks (wks (wkn (wks (wks (wks wk0))))))) ?_
        exact x_Q_law_235 hf hI (by omega) (by omega) K52_ e
      · replace e := ite_f c5 e
        refine Gz.run (pc' := 213) [.aload_n 1, .iconst 1] (ls' := [some (.ref 217), some (.ref 180), some (.ref 1180), some (.int x3), some (.int x4), none, some (.int x6)]) (st' := [.int (1 : Int32), .ref 180]) (by decide +kernel) rfl rfl ?_
        obtain ⟨v6, e7, e⟩ := bd_inv e
        refine Gz.call1H (M2 := m_Q_save) (as := [.ref 180, .int (1 : Int32)]) (as' := [.ref 180, .int (1 : Int32)]) (rest := []) (v := some (.long v6.1)) (w := some (.long v6.1)) (h1 := v6.2) hI (x_Q_save hf hI.1 (by decide) e7) wh_Q_171 (by decide +kernel) rfl rfl rfl rfl ⟨⟨Nat.le_of_ble_eq_true rfl, Nat.le_of_ble_eq_true rfl⟩, ⟨(by show k9 + 83 + 1 ≤ 600130; omega), (by show n9 + 498 + 6 * 1 ≤ 7301080; omega)⟩⟩ (Nat.le_of_ble_eq_true rfl) ?_
        show Gz l D aA aB cA cB _ _ m_Q_law 216 [some (.ref 217), some (.ref 180), some (.ref 1180), some (.int x3), some (.int x4), none, some (.int x6)] [.long v6.1] (v6.2, v3.2) (k9 + 84) (n9 + 504)
        refine Gz.run (pc' := 218) [.lconst 0, .lcmp] (ls' := [some (.ref 217), some (.ref 180), some (.ref 1180), some (.int x3), some (.int x4), none, some (.int x6)]) (st' := [.int (lg_cmp v6.1 (0 : Int64))]) (by decide +kernel) rfl rfl ?_
        refine Gz.if_lt (off := 17) (tgt := 235) (by decide +kernel) (by decide) (fun c8 => ?_) (fun c8 => ?_)
        · replace e := ite_t c8 e
          refine Gz.wid (k' := k9 + 85) (n' := n9 + 510) (by omega) (by omega) ?_
          refine Gz.wk' (wks (wks (wks (wkn (wks (wks (wks wk0))))))) ?_
          exact x_Q_law_235 hf hI (by omega) (by omega) K52_ e
        · replace e := ite_f c8 e
          refine Gz.run (pc' := 223) [.aload_n 1, .iconst 1] (ls' := [some (.ref 217), some (.ref 180), some (.ref 1180), some (.int x3), some (.int x4), none, some (.int x6)]) (st' := [.int (1 : Int32), .ref 180]) (by decide +kernel) rfl rfl ?_
          obtain ⟨v9, e10, e⟩ := bd_inv e
          refine Gz.call1H (M2 := m_Q_restore) (as := [.ref 180, .int (1 : Int32)]) (as' := [.ref 180, .int (1 : Int32)]) (rest := []) (v := some (.long v9.1)) (w := some (.long v9.1)) (h1 := v9.2) hI (x_Q_restore hf hI.1 (by decide) e10) wh_Q_173 (by decide +kernel) rfl rfl rfl rfl ⟨⟨Nat.le_of_ble_eq_true rfl, Nat.le_of_ble_eq_true rfl⟩, ⟨(by show k9 + 84 + 1 ≤ 600130; omega), (by show n9 + 504 + 6 * 1 ≤ 7301080; omega)⟩⟩ (Nat.le_of_ble_eq_true rfl) ?_
          show Gz l D aA aB cA cB _ _ m_Q_law 226 [some (.ref 217), some (.ref 180), some (.ref 1180), some (.int x3), some (.int x4), none, some (.int x6)] [.long v9.1] (v9.2, v3.2) (k9 + 85) (n9 + 510)
          refine Gz.run (pc' := 228) [.lconst 0, .lcmp] (ls' := [some (.ref 217), some (.ref 180), some (.ref 1180), some (.int x3), some (.int x4), none, some (.int x6)]) (st' := [.int (lg_cmp v9.1 (0 : Int64))]) (by decide +kernel) rfl rfl ?_
          refine Gz.if_lt (off := 7) (tgt := 235) (by decide +kernel) (by decide) (fun c11 => ?_) (fun c11 => ?_)
          · replace e := ite_t c11 e
            refine Gz.wk' (wks (wks (wks (wkn (wks (wks (wks wk0))))))) ?_
            exact x_Q_law_235 hf hI (by omega) (by omega) K52_ e
          · replace e := ite_f c11 e
            refine Gz.run (pc' := 232) [.iconst 1] (ls' := [some (.ref 217), some (.ref 180), some (.ref 1180), some (.int x3), some (.int x4), none, some (.int x6)]) (st' := [.int (1 : Int32)]) (by decide +kernel) rfl rfl ?_
            refine Gz.goto (off := 4) (tgt := 236) (by decide +kernel) (by decide) ?_
            refine Gz.wk' (wks (wks (wks (wkn (wks (wks (wks wk0))))))) ?_
            exact x_Q_law_236 hf hI (by omega) (by omega) K52_ e
def f_Q_law_187 (L : Nat) (xs : Nat → Int32) (k52_ : Int32 → Int32 → HP2 → Option (Unit)) (x4 : Int32) (x6 : Int32) (s0 : Int32) (h : HP2) : Option (Unit) :=
  f_Q_law_188 L xs k52_ s0 x4 x6 h
set_option maxRecDepth 100000 in
set_option maxHeartbeats 4000000 in
theorem x_Q_law_187 {l : Launch} {D : va_G} {aA aB : Nat → Nat} {cA cB : Nat → ClassId} (hf : l.flags = flags0) (hI : IZ aA aB) {L : Nat} {xs : Nat → Int32} {k9 n9 : Nat} (hk9 : k9 + 400 ≤ 600130) (hn9 : n9 + 2400 ≤ 7301080) {k52_ : Int32 → Int32 → HP2 → Option (Unit)} (K52_ : ∀ {x3 : Int32} {x4 : Int32} {h : HP2} {r : Unit}, k52_ x3 x4 h = some r → Gz l D aA aB cA cB room_1 (QLz aA aB L xs) m_Q_law 52 [some (.ref 217), some (.ref 180), some (.ref 1180), some (.int x3), some (.int x4), none, none] [] h (k9 + 400) (n9 + 2400)) {x4 : Int32} {x6 : Int32} {s0 : Int32} {h : HP2} {r : Unit} (e : f_Q_law_187 L xs k52_ x4 x6 s0 h = some r) : Gz l D aA aB cA cB room_1 (QLz aA aB L xs) m_Q_law 187 [some (.ref 217), some (.ref 180), some (.ref 1180), none, some (.int x4), none, some (.int x6)] [.int s0] h (k9 + 51) (n9 + 306) := by
  unfold f_Q_law_187 at e
  refine Gz.run (pc' := 188) [.istore_n 3] (ls' := [some (.ref 217), some (.ref 180), some (.ref 1180), some (.int s0), some (.int x4), none, some (.int x6)]) (st' := []) (by decide +kernel) rfl rfl ?_
  exact x_Q_law_188 hf hI (by omega) (by omega) K52_ e
def f_Q_law_186 (L : Nat) (xs : Nat → Int32) (k52_ : Int32 → Int32 → HP2 → Option (Unit)) (x4 : Int32) (x6 : Int32) (h : HP2) : Option (Unit) :=
  f_Q_law_187 L xs k52_ x4 x6 (0 : Int32) h
set_option maxRecDepth 100000 in
set_option maxHeartbeats 4000000 in
theorem x_Q_law_186 {l : Launch} {D : va_G} {aA aB : Nat → Nat} {cA cB : Nat → ClassId} (hf : l.flags = flags0) (hI : IZ aA aB) {L : Nat} {xs : Nat → Int32} {k9 n9 : Nat} (hk9 : k9 + 400 ≤ 600130) (hn9 : n9 + 2400 ≤ 7301080) {k52_ : Int32 → Int32 → HP2 → Option (Unit)} (K52_ : ∀ {x3 : Int32} {x4 : Int32} {h : HP2} {r : Unit}, k52_ x3 x4 h = some r → Gz l D aA aB cA cB room_1 (QLz aA aB L xs) m_Q_law 52 [some (.ref 217), some (.ref 180), some (.ref 1180), some (.int x3), some (.int x4), none, none] [] h (k9 + 400) (n9 + 2400)) {x4 : Int32} {x6 : Int32} {h : HP2} {r : Unit} (e : f_Q_law_186 L xs k52_ x4 x6 h = some r) : Gz l D aA aB cA cB room_1 (QLz aA aB L xs) m_Q_law 186 [some (.ref 217), some (.ref 180), some (.ref 1180), none, some (.int x4), none, some (.int x6)] [] h (k9 + 51) (n9 + 306) := by
  unfold f_Q_law_186 at e
  refine Gz.run (pc' := 187) [.iconst 0] (ls' := [some (.ref 217), some (.ref 180), some (.ref 1180), none, some (.int x4), none, some (.int x6)]) (st' := [.int (0 : Int32)]) (by decide +kernel) rfl rfl ?_
  exact x_Q_law_187 hf hI (by omega) (by omega) K52_ e
def f_Q_law_154 (L : Nat) (xs : Nat → Int32) (k52_ : Int32 → Int32 → HP2 → Option (Unit)) (x4 : Int32) (x6 : Int32) (s0 : Int32) (h : HP2) : Option (Unit) :=
  if (x4 - x4 / (8 : Int32) * (8 : Int32)) = (3 : Int32) then
    if s0 = 0 then
      f_Q_law_186 L xs k52_ x4 x6 h
    else
      (f_Q_errors h.2 180 ).bind fun v3 =>
      if v3.1 = 0 then
        f_Q_law_186 L xs k52_ x4 x6 (h.1, v3.2)
      else
        (f_Q_kept v3.2 180 ).bind fun v6 =>
        if v6.1 = 0 then
          f_Q_law_186 L xs k52_ x4 x6 (h.1, v6.2)
        else
          f_Q_law_187 L xs k52_ x4 x6 (1 : Int32) (h.1, v6.2)
  else
    f_Q_law_188 L xs k52_ s0 x4 x6 h
set_option maxRecDepth 100000 in
set_option maxHeartbeats 4000000 in
theorem x_Q_law_154 {l : Launch} {D : va_G} {aA aB : Nat → Nat} {cA cB : Nat → ClassId} (hf : l.flags = flags0) (hI : IZ aA aB) {L : Nat} {xs : Nat → Int32} {k9 n9 : Nat} (hk9 : k9 + 400 ≤ 600130) (hn9 : n9 + 2400 ≤ 7301080) {k52_ : Int32 → Int32 → HP2 → Option (Unit)} (K52_ : ∀ {x3 : Int32} {x4 : Int32} {h : HP2} {r : Unit}, k52_ x3 x4 h = some r → Gz l D aA aB cA cB room_1 (QLz aA aB L xs) m_Q_law 52 [some (.ref 217), some (.ref 180), some (.ref 1180), some (.int x3), some (.int x4), none, none] [] h (k9 + 400) (n9 + 2400)) {x4 : Int32} {x6 : Int32} {s0 : Int32} {h : HP2} {r : Unit} (e : f_Q_law_154 L xs k52_ x4 x6 s0 h = some r) : Gz l D aA aB cA cB room_1 (QLz aA aB L xs) m_Q_law 154 [some (.ref 217), some (.ref 180), some (.ref 1180), none, some (.int x4), none, some (.int x6)] [.int s0] h (k9 + 2) (n9 + 12) := by
  unfold f_Q_law_154 at e
  refine Gz.run (pc' := 161) [.istore_n 3, .iload 4, .bipush (8), .irem, .iconst 3] (ls' := [some (.ref 217), some (.ref 180), some (.ref 1180), some (.int s0), some (.int x4), none, some (.int x6)]) (st' := [.int (3 : Int32), .int (x4 - x4 / (8 : Int32) * (8 : Int32))]) (by decide +kernel) rfl rfl ?_
  refine Gz.ic_ne (off := 27) (tgt := 188) (by decide +kernel) (by decide) (fun c1 => ?_) (fun c1 => ?_)
  · replace e := ite_f c1 e
    refine Gz.wid (k' := k9 + 51) (n' := n9 + 306) (by omega) (by omega) ?_
    exact x_Q_law_188 hf hI (by omega) (by omega) K52_ e
  · replace e := ite_t c1 e
    refine Gz.run (pc' := 165) [.iload_n 3] (ls' := [some (.ref 217), some (.ref 180), some (.ref 1180), some (.int s0), some (.int x4), none, some (.int x6)]) (st' := [.int s0]) (by decide +kernel) rfl rfl ?_
    refine Gz.if_eq (off := 21) (tgt := 186) (by decide +kernel) (by decide) (fun c2 => ?_) (fun c2 => ?_)
    · replace e := ite_t c2 e
      refine Gz.wid (k' := k9 + 51) (n' := n9 + 306) (by omega) (by omega) ?_
      refine Gz.wk' (wks (wks (wks (wkn (wks (wks (wks wk0))))))) ?_
      exact x_Q_law_186 hf hI (by omega) (by omega) K52_ e
    · replace e := ite_f c2 e
      refine Gz.run (pc' := 169) [.aload_n 2] (ls' := [some (.ref 217), some (.ref 180), some (.ref 1180), some (.int s0), some (.int x4), none, some (.int x6)]) (st' := [.ref 1180]) (by decide +kernel) rfl rfl ?_
      obtain ⟨v3, e4, e⟩ := bd_inv e
      refine Gz.call2S (M2 := m_Q_errors) (as := [.ref 180]) (as' := [.ref 1180]) (rest := []) (v := some (.int v3.1)) (w := some (.int v3.1)) (h1 := v3.2) hI (x_Q_errors hf hI.2.1 (by decide) e4) ws_Q_208 (by decide +kernel) rfl rfl rfl rfl ⟨⟨Nat.le_of_ble_eq_true rfl, Nat.le_of_ble_eq_true rfl⟩, ⟨(by show k9 + 2 + 49 ≤ 600130; omega), (by show n9 + 12 + 6 * 49 ≤ 7301080; omega)⟩⟩ (Nat.le_of_ble_eq_true rfl) ?_
      show Gz l D aA aB cA cB _ _ m_Q_law 172 [some (.ref 217), some (.ref 180), some (.ref 1180), some (.int s0), some (.int x4), none, some (.int x6)] [.int v3.1] (h.1, v3.2) (k9 + 51) (n9 + 306)
      refine Gz.if_eq (off := 14) (tgt := 186) (by decide +kernel) (by decide) (fun c5 => ?_) (fun c5 => ?_)
      · replace e := ite_t c5 e
        refine Gz.wk' (wks (wks (wks (wkn (wks (wks (wks wk0))))))) ?_
        exact x_Q_law_186 hf hI (by omega) (by omega) K52_ e
      · replace e := ite_f c5 e
        refine Gz.run (pc' := 176) [.aload_n 2] (ls' := [some (.ref 217), some (.ref 180), some (.ref 1180), some (.int s0), some (.int x4), none, some (.int x6)]) (st' := [.ref 1180]) (by decide +kernel) rfl rfl ?_
        obtain ⟨v6, e7, e⟩ := bd_inv e
        refine Gz.call2S (M2 := m_Q_kept) (as := [.ref 180]) (as' := [.ref 1180]) (rest := []) (v := some (.int v6.1)) (w := some (.int v6.1)) (h1 := v6.2) hI (x_Q_kept hf hI.2.1 (by decide) e7) ws_Q_212 (by decide +kernel) rfl rfl rfl rfl ⟨⟨Nat.le_of_ble_eq_true rfl, Nat.le_of_ble_eq_true rfl⟩, ⟨(by show k9 + 51 + 0 ≤ 600130; omega), (by show n9 + 306 + 6 * 0 ≤ 7301080; omega)⟩⟩ (Nat.le_of_ble_eq_true rfl) ?_
        show Gz l D aA aB cA cB _ _ m_Q_law 179 [some (.ref 217), some (.ref 180), some (.ref 1180), some (.int s0), some (.int x4), none, some (.int x6)] [.int v6.1] (h.1, v6.2) (k9 + 51) (n9 + 306)
        refine Gz.if_eq (off := 7) (tgt := 186) (by decide +kernel) (by decide) (fun c8 => ?_) (fun c8 => ?_)
        · replace e := ite_t c8 e
          refine Gz.wk' (wks (wks (wks (wkn (wks (wks (wks wk0))))))) ?_
          exact x_Q_law_186 hf hI (by omega) (by omega) K52_ e
        · replace e := ite_f c8 e
          refine Gz.run (pc' := 183) [.iconst 1] (ls' := [some (.ref 217), some (.ref 180), some (.ref 1180), some (.int s0), some (.int x4), none, some (.int x6)]) (st' := [.int (1 : Int32)]) (by decide +kernel) rfl rfl ?_
          refine Gz.goto (off := 4) (tgt := 187) (by decide +kernel) (by decide) ?_
          refine Gz.wk' (wks (wks (wks (wkn (wks (wks (wks wk0))))))) ?_
          exact x_Q_law_187 hf hI (by omega) (by omega) K52_ e
def f_Q_law_125 (L : Nat) (xs : Nat → Int32) (k52_ : Int32 → Int32 → HP2 → Option (Unit)) (x4 : Int32) (s0 : Int32) (h : HP2) : Option (Unit) :=
  f_Q_law_265 L xs k52_ s0 x4 h
set_option maxRecDepth 100000 in
set_option maxHeartbeats 4000000 in
theorem x_Q_law_125 {l : Launch} {D : va_G} {aA aB : Nat → Nat} {cA cB : Nat → ClassId} (hf : l.flags = flags0) (hI : IZ aA aB) {L : Nat} {xs : Nat → Int32} {k9 n9 : Nat} (hk9 : k9 + 400 ≤ 600130) (hn9 : n9 + 2400 ≤ 7301080) {k52_ : Int32 → Int32 → HP2 → Option (Unit)} (K52_ : ∀ {x3 : Int32} {x4 : Int32} {h : HP2} {r : Unit}, k52_ x3 x4 h = some r → Gz l D aA aB cA cB room_1 (QLz aA aB L xs) m_Q_law 52 [some (.ref 217), some (.ref 180), some (.ref 1180), some (.int x3), some (.int x4), none, none] [] h (k9 + 400) (n9 + 2400)) {x4 : Int32} {s0 : Int32} {h : HP2} {r : Unit} (e : f_Q_law_125 L xs k52_ x4 s0 h = some r) : Gz l D aA aB cA cB room_1 (QLz aA aB L xs) m_Q_law 125 [some (.ref 217), some (.ref 180), some (.ref 1180), none, some (.int x4), none, none] [.int s0] h (k9 + 2) (n9 + 12) := by
  unfold f_Q_law_125 at e
  refine Gz.run (pc' := 126) [.istore_n 3] (ls' := [some (.ref 217), some (.ref 180), some (.ref 1180), some (.int s0), some (.int x4), none, none]) (st' := []) (by decide +kernel) rfl rfl ?_
  refine Gz.goto (off := 139) (tgt := 265) (by decide +kernel) (by decide) ?_
  refine Gz.wid (k' := k9 + 93) (n' := n9 + 558) (by omega) (by omega) ?_
  exact x_Q_law_265 hf hI (by omega) (by omega) K52_ e
def f_Q_law_124 (L : Nat) (xs : Nat → Int32) (k52_ : Int32 → Int32 → HP2 → Option (Unit)) (x4 : Int32) (h : HP2) : Option (Unit) :=
  f_Q_law_125 L xs k52_ x4 (0 : Int32) h
set_option maxRecDepth 100000 in
set_option maxHeartbeats 4000000 in
theorem x_Q_law_124 {l : Launch} {D : va_G} {aA aB : Nat → Nat} {cA cB : Nat → ClassId} (hf : l.flags = flags0) (hI : IZ aA aB) {L : Nat} {xs : Nat → Int32} {k9 n9 : Nat} (hk9 : k9 + 400 ≤ 600130) (hn9 : n9 + 2400 ≤ 7301080) {k52_ : Int32 → Int32 → HP2 → Option (Unit)} (K52_ : ∀ {x3 : Int32} {x4 : Int32} {h : HP2} {r : Unit}, k52_ x3 x4 h = some r → Gz l D aA aB cA cB room_1 (QLz aA aB L xs) m_Q_law 52 [some (.ref 217), some (.ref 180), some (.ref 1180), some (.int x3), some (.int x4), none, none] [] h (k9 + 400) (n9 + 2400)) {x4 : Int32} {h : HP2} {r : Unit} (e : f_Q_law_124 L xs k52_ x4 h = some r) : Gz l D aA aB cA cB room_1 (QLz aA aB L xs) m_Q_law 124 [some (.ref 217), some (.ref 180), some (.ref 1180), none, some (.int x4), none, none] [] h (k9 + 2) (n9 + 12) := by
  unfold f_Q_law_124 at e
  refine Gz.run (pc' := 125) [.iconst 0] (ls' := [some (.ref 217), some (.ref 180), some (.ref 1180), none, some (.int x4), none, none]) (st' := [.int (0 : Int32)]) (by decide +kernel) rfl rfl ?_
  exact x_Q_law_125 hf hI (by omega) (by omega) K52_ e
def f_Q_law_52 (L : Nat) (xs : Nat → Int32)  : Nat → Int32 → Int32 → HP2 → Option (Unit)
  | 0, _, _, _ => none
  | n + 1, x3, x4, h =>
    if (40 : Int32) ≤ x4 then
      f_Q_law_271 L xs x3 h
    else
      if x3 = 0 then
        f_Q_law_271 L xs x3 h
      else
        (drO L xs ((2 : Int32) * x4)).bind fun v3 =>
        (drO L xs (((2 : Int32) * x4) + (1 : Int32))).bind fun v5 =>
        if x4 = 0 then
          (f_Q_told h.1 180 v3).bind fun v13 =>
          if v13.1 = 0 then
            f_Q_law_124 L xs (f_Q_law_52 L xs n) x4 (v13.2, h.2)
          else
            (f_Q_told h.2 180 v3).bind fun v16 =>
            if v16.1 = 0 then
              f_Q_law_124 L xs (f_Q_law_52 L xs n) x4 (v13.2, v16.2)
            else
              (f_Q_load v13.2 180 ).bind fun v19 =>
              (f_Q_load v16.2 180 ).bind fun v21 =>
              if (lg_cmp v19.1 v21.1) = 0 then
                f_Q_law_125 L xs (f_Q_law_52 L xs n) x4 (1 : Int32) (v19.2, v21.2)
              else
                f_Q_law_124 L xs (f_Q_law_52 L xs n) x4 (v19.2, v21.2)
        else
          (f_Q_act h.1 180 v3 v5).bind fun v8 =>
          (f_Q_act h.2 180 v3 v5).bind fun v10 =>
          if (lg_cmp v8.1 v10.1) = 0 then
            f_Q_law_154 L xs (f_Q_law_52 L xs n) x4 v5 (1 : Int32) (v8.2, v10.2)
          else
            f_Q_law_154 L xs (f_Q_law_52 L xs n) x4 v5 (0 : Int32) (v8.2, v10.2)
set_option maxRecDepth 100000 in
set_option maxHeartbeats 4000000 in
theorem x_Q_law_52 {l : Launch} {D : va_G} {aA aB : Nat → Nat} {cA cB : Nat → ClassId} (hf : l.flags = flags0) (hI : IZ aA aB) {L : Nat} {xs : Nat → Int32} : ∀ (n : Nat) {k9 n9 : Nat} {x3 : Int32} {x4 : Int32} {h : HP2} {r : Unit}, k9 + 400 * n + 400 ≤ 600130 → n9 + 2400 * n + 2400 ≤ 7301080 → f_Q_law_52 L xs n x3 x4 h = some r → Gz l D aA aB cA cB room_1 (QLz aA aB L xs) m_Q_law 52 [some (.ref 217), some (.ref 180), some (.ref 1180), some (.int x3), some (.int x4), none, none] [] h k9 n9 := by
  intro n
  induction n with
  | zero => intro k9 n9 x3 x4 h r hk9 hn9 e; exact no_none e
  | succ n ih =>
    intro k9 n9 x3 x4 h r hk9 hn9 e
    rw [f_Q_law_52] at e
    refine Gz.run (pc' := 56) [.iload 4, .bipush (40)] (ls' := [some (.ref 217), some (.ref 180), some (.ref 1180), some (.int x3), some (.int x4), none, none]) (st' := [.int (40 : Int32), .int x4]) (by decide +kernel) rfl rfl ?_
    refine Gz.ic_ge (off := 215) (tgt := 271) (by decide +kernel) (by decide) (fun c1 => ?_) (fun c1 => ?_)
    · replace e := ite_t c1 e
      refine Gz.wk' (wks (wks (wks (wks (wkn (wks (wks wk0))))))) ?_
      exact x_Q_law_271 hf hI (by omega) (by omega) e
    · replace e := ite_f c1 e
      refine Gz.run (pc' := 60) [.iload_n 3] (ls' := [some (.ref 217), some (.ref 180), some (.ref 1180), some (.int x3), some (.int x4), none, none]) (st' := [.int x3]) (by decide +kernel) rfl rfl ?_
      refine Gz.if_eq (off := 211) (tgt := 271) (by decide +kernel) (by decide) (fun c2 => ?_) (fun c2 => ?_)
      · replace e := ite_t c2 e
        refine Gz.wk' (wks (wks (wks (wks (wkn (wks (wks wk0))))))) ?_
        exact x_Q_law_271 hf hI (by omega) (by omega) e
      · replace e := ite_f c2 e
        refine Gz.run (pc' := 68) [.aload_n 0, .iconst 2, .iload 4, .imul] (ls' := [some (.ref 217), some (.ref 180), some (.ref 1180), some (.int x3), some (.int x4), none, none]) (st' := [.int ((2 : Int32) * x4), .ref 217]) (by decide +kernel) rfl rfl ?_
        obtain ⟨v3, e4, e⟩ := bd_inv e
        refine Gz.draw (rest := []) hI e4 wdraw_200 (by decide +kernel) rfl ⟨⟨Nat.le_of_ble_eq_true rfl, Nat.le_of_ble_eq_true rfl⟩, ⟨(by show k9 + 0 ≤ 600130; omega), (by show n9 + 6 * 0 ≤ 7301080; omega)⟩⟩ (Nat.le_of_ble_eq_true rfl) ?_
        show Gz l D aA aB cA cB _ _ m_Q_law 71 [some (.ref 217), some (.ref 180), some (.ref 1180), some (.int x3), some (.int x4), none, none] [.int v3] h k9 n9
        refine Gz.run (pc' := 80) [.istore 5, .aload_n 0, .iconst 2, .iload 4, .imul, .iconst 1, .iadd] (ls' := [some (.ref 217), some (.ref 180), some (.ref 1180), some (.int x3), some (.int x4), some (.int v3), none]) (st' := [.int (((2 : Int32) * x4) + (1 : Int32)), .ref 217]) (by decide +kernel) rfl rfl ?_
        obtain ⟨v5, e6, e⟩ := bd_inv e
        refine Gz.draw (rest := []) hI e6 wdraw_200 (by decide +kernel) rfl ⟨⟨Nat.le_of_ble_eq_true rfl, Nat.le_of_ble_eq_true rfl⟩, ⟨(by show k9 + 0 ≤ 600130; omega), (by show n9 + 6 * 0 ≤ 7301080; omega)⟩⟩ (Nat.le_of_ble_eq_true rfl) ?_
        show Gz l D aA aB cA cB _ _ m_Q_law 83 [some (.ref 217), some (.ref 180), some (.ref 1180), some (.int x3), some (.int x4), some (.int v3), none] [.int v5] h k9 n9
        refine Gz.run (pc' := 87) [.istore 6, .iload 4] (ls' := [some (.ref 217), some (.ref 180), some (.ref 1180), some (.int x3), some (.int x4), some (.int v3), some (.int v5)]) (st' := [.int x4]) (by decide +kernel) rfl rfl ?_
        refine Gz.if_ne (off := 42) (tgt := 129) (by decide +kernel) (by decide) (fun c7 => ?_) (fun c7 => ?_)
        · replace e := ite_f c7 e
          refine Gz.run (pc' := 134) [.aload_n 1, .iload 5, .iload 6] (ls' := [some (.ref 217), some (.ref 180), some (.ref 1180), some (.int x3), some (.int x4), some (.int v3), some (.int v5)]) (st' := [.int v5, .int v3, .ref 180]) (by decide +kernel) rfl rfl ?_
          obtain ⟨v8, e9, e⟩ := bd_inv e
          refine Gz.call1S (M2 := m_Q_act) (as := [.ref 180, .int v3, .int v5]) (as' := [.ref 180, .int v3, .int v5]) (rest := []) (v := some (.long v8.1)) (w := some (.long v8.1)) (h1 := v8.2) hI (x_Q_act hf hI.1 (by decide) e9) ws_Q_221 (by decide +kernel) rfl rfl rfl rfl ⟨⟨Nat.le_of_ble_eq_true rfl, Nat.le_of_ble_eq_true rfl⟩, ⟨(by show k9 + 1 ≤ 600130; omega), (by show n9 + 6 * 1 ≤ 7301080; omega)⟩⟩ (Nat.le_of_ble_eq_true rfl) ?_
          show Gz l D aA aB cA cB _ _ m_Q_law 137 [some (.ref 217), some (.ref 180), some (.ref 1180), some (.int x3), some (.int x4), some (.int v3), some (.int v5)] [.long v8.1] (v8.2, h.2) (k9 + 1) (n9 + 6)
          refine Gz.run (pc' := 142) [.aload_n 2, .iload 5, .iload 6] (ls' := [some (.ref 217), some (.ref 180), some (.ref 1180), some (.int x3), some (.int x4), some (.int v3), some (.int v5)]) (st' := [.int v5, .int v3, .ref 1180, .long v8.1]) (by decide +kernel) rfl rfl ?_
          obtain ⟨v10, e11, e⟩ := bd_inv e
          refine Gz.call2S (M2 := m_Q_act) (as := [.ref 180, .int v3, .int v5]) (as' := [.ref 1180, .int v3, .int v5]) (rest := [.long v8.1]) (v := some (.long v10.1)) (w := some (.long v10.1)) (h1 := v10.2) hI (x_Q_act hf hI.2.1 (by decide) e11) ws_Q_221 (by decide +kernel) rfl rfl rfl rfl ⟨⟨Nat.le_of_ble_eq_true rfl, Nat.le_of_ble_eq_true rfl⟩, ⟨(by show k9 + 1 + 1 ≤ 600130; omega), (by show n9 + 6 + 6 * 1 ≤ 7301080; omega)⟩⟩ (Nat.le_of_ble_eq_true rfl) ?_
          show Gz l D aA aB cA cB _ _ m_Q_law 145 [some (.ref 217), some (.ref 180), some (.ref 1180), some (.int x3), some (.int x4), some (.int v3), some (.int v5)] [.long v10.1, .long v8.1] (v8.2, v10.2) (k9 + 2) (n9 + 12)
          refine Gz.run (pc' := 146) [.lcmp] (ls' := [some (.ref 217), some (.ref 180), some (.ref 1180), some (.int x3), some (.int x4), some (.int v3), some (.int v5)]) (st' := [.int (lg_cmp v8.1 v10.1)]) (by decide +kernel) rfl rfl ?_
          refine Gz.if_ne (off := 7) (tgt := 153) (by decide +kernel) (by decide) (fun c12 => ?_) (fun c12 => ?_)
          · replace e := ite_f c12 e
            refine Gz.run (pc' := 154) [.iconst 0] (ls' := [some (.ref 217), some (.ref 180), some (.ref 1180), some (.int x3), some (.int x4), some (.int v3), some (.int v5)]) (st' := [.int (0 : Int32)]) (by decide +kernel) rfl rfl ?_
            refine Gz.wk' (wks (wks (wks (wkn (wks (wkn (wks wk0))))))) ?_
            exact x_Q_law_154 hf hI (by omega) (by omega) (fun e => ih (by omega) (by omega) e) e
          · replace e := ite_t c12 e
            refine Gz.run (pc' := 150) [.iconst 1] (ls' := [some (.ref 217), some (.ref 180), some (.ref 1180), some (.int x3), some (.int x4), some (.int v3), some (.int v5)]) (st' := [.int (1 : Int32)]) (by decide +kernel) rfl rfl ?_
            refine Gz.goto (off := 4) (tgt := 154) (by decide +kernel) (by decide) ?_
            refine Gz.wk' (wks (wks (wks (wkn (wks (wkn (wks wk0))))))) ?_
            exact x_Q_law_154 hf hI (by omega) (by omega) (fun e => ih (by omega) (by omega) e) e
        · replace e := ite_t c7 e
          refine Gz.run (pc' := 93) [.aload_n 1, .iload 5] (ls' := [some (.ref 217), some (.ref 180), some (.ref 1180), some (.int x3), some (.int x4), some (.int v3), some (.int v5)]) (st' := [.int v3, .ref 180]) (by decide +kernel) rfl rfl ?_
          obtain ⟨v13, e14, e⟩ := bd_inv e
          refine Gz.call1S (M2 := m_Q_told) (as := [.ref 180, .int v3]) (as' := [.ref 180, .int v3]) (rest := []) (v := some (.int v13.1)) (w := some (.int v13.1)) (h1 := v13.2) hI (x_Q_told hf hI.1 (by decide) e14) ws_Q_215 (by decide +kernel) rfl rfl rfl rfl ⟨⟨Nat.le_of_ble_eq_true rfl, Nat.le_of_ble_eq_true rfl⟩, ⟨(by show k9 + 0 ≤ 600130; omega), (by show n9 + 6 * 0 ≤ 7301080; omega)⟩⟩ (Nat.le_of_ble_eq_true rfl) ?_
          show Gz l D aA aB cA cB _ _ m_Q_law 96 [some (.ref 217), some (.ref 180), some (.ref 1180), some (.int x3), some (.int x4), some (.int v3), some (.int v5)] [.int v13.1] (v13.2, h.2) k9 n9
          refine Gz.if_eq (off := 28) (tgt := 124) (by decide +kernel) (by decide) (fun c15 => ?_) (fun c15 => ?_)
          · replace e := ite_t c15 e
            refine Gz.wid (k' := k9 + 2) (n' := n9 + 12) (by omega) (by omega) ?_
            refine Gz.wk' (wks (wks (wks (wkn (wks (wkn (wkn wk0))))))) ?_
            exact x_Q_law_124 hf hI (by omega) (by omega) (fun e => ih (by omega) (by omega) e) e
          · replace e := ite_f c15 e
            refine Gz.run (pc' := 102) [.aload_n 2, .iload 5] (ls' := [some (.ref 217), some (.ref 180), some (.ref 1180), some (.int x3), some (.int x4), some (.int v3), some (.int v5)]) (st' := [.int v3, .ref 1180]) (by decide +kernel) rfl rfl ?_
            obtain ⟨v16, e17, e⟩ := bd_inv e
            refine Gz.call2S (M2 := m_Q_told) (as := [.ref 180, .int v3]) (as' := [.ref 1180, .int v3]) (rest := []) (v := some (.int v16.1)) (w := some (.int v16.1)) (h1 := v16.2) hI (x_Q_told hf hI.2.1 (by decide) e17) ws_Q_215 (by decide +kernel) rfl rfl rfl rfl ⟨⟨Nat.le_of_ble_eq_true rfl, Nat.le_of_ble_eq_true rfl⟩, ⟨(by show k9 + 0 ≤ 600130; omega), (by show n9 + 6 * 0 ≤ 7301080; omega)⟩⟩ (Nat.le_of_ble_eq_true rfl) ?_
            show Gz l D aA aB cA cB _ _ m_Q_law 105 [some (.ref 217), some (.ref 180), some (.ref 1180), some (.int x3), some (.int x4), some (.int v3), some (.int v5)] [.int v16.1] (v13.2, v16.2) k9 n9
            refine Gz.if_eq (off := 19) (tgt := 124) (by decide +kernel) (by decide) (fun c18 => ?_) (fun c18 => ?_)
            · replace e := ite_t c18 e
              refine Gz.wid (k' := k9 + 2) (n' := n9 + 12) (by omega) (by omega) ?_
              refine Gz.wk' (wks (wks (wks (wkn (wks (wkn (wkn wk0))))))) ?_
              exact x_Q_law_124 hf hI (by omega) (by omega) (fun e => ih (by omega) (by omega) e) e
            · replace e := ite_f c18 e
              refine Gz.run (pc' := 109) [.aload_n 1] (ls' := [some (.ref 217), some (.ref 180), some (.ref 1180), some (.int x3), some (.int x4), some (.int v3), some (.int v5)]) (st' := [.ref 180]) (by decide +kernel) rfl rfl ?_
              obtain ⟨v19, e20, e⟩ := bd_inv e
              refine Gz.call1H (M2 := m_Q_load) (as := [.ref 180]) (as' := [.ref 180]) (rest := []) (v := some (.long v19.1)) (w := some (.long v19.1)) (h1 := v19.2) hI (x_Q_load hf hI.1 (by decide) e20) wh_Q_219 (by decide +kernel) rfl rfl rfl rfl ⟨⟨Nat.le_of_ble_eq_true rfl, Nat.le_of_ble_eq_true rfl⟩, ⟨(by show k9 + 1 ≤ 600130; omega), (by show n9 + 6 * 1 ≤ 7301080; omega)⟩⟩ (Nat.le_of_ble_eq_true rfl) ?_
              show Gz l D aA aB cA cB _ _ m_Q_law 112 [some (.ref 217), some (.ref 180), some (.ref 1180), some (.int x3), some (.int x4), some (.int v3), some (.int v5)] [.long v19.1] (v19.2, v16.2) (k9 + 1) (n9 + 6)
              refine Gz.run (pc' := 113) [.aload_n 2] (ls' := [some (.ref 217), some (.ref 180), some (.ref 1180), some (.int x3), some (.int x4), some (.int v3), some (.int v5)]) (st' := [.ref 1180, .long v19.1]) (by decide +kernel) rfl rfl ?_
              obtain ⟨v21, e22, e⟩ := bd_inv e
              refine Gz.call2H (M2 := m_Q_load) (as := [.ref 180]) (as' := [.ref 1180]) (rest := [.long v19.1]) (v := some (.long v21.1)) (w := some (.long v21.1)) (h1 := v21.2) hI (x_Q_load hf hI.2.1 (by decide) e22) wh_Q_219 (by decide +kernel) rfl rfl rfl rfl ⟨⟨Nat.le_of_ble_eq_true rfl, Nat.le_of_ble_eq_true rfl⟩, ⟨(by show k9 + 1 + 1 ≤ 600130; omega), (by show n9 + 6 + 6 * 1 ≤ 7301080; omega)⟩⟩ (Nat.le_of_ble_eq_true rfl) ?_
              show Gz l D aA aB cA cB _ _ m_Q_law 116 [some (.ref 217), some (.ref 180), some (.ref 1180), some (.int x3), some (.int x4), some (.int v3), some (.int v5)] [.long v21.1, .long v19.1] (v19.2, v21.2) (k9 + 2) (n9 + 12)
              refine Gz.run (pc' := 117) [.lcmp] (ls' := [some (.ref 217), some (.ref 180), some (.ref 1180), some (.int x3), some (.int x4), some (.int v3), some (.int v5)]) (st' := [.int (lg_cmp v19.1 v21.1)]) (by decide +kernel) rfl rfl ?_
              refine Gz.if_ne (off := 7) (tgt := 124) (by decide +kernel) (by decide) (fun c23 => ?_) (fun c23 => ?_)
              · replace e := ite_f c23 e
                refine Gz.wk' (wks (wks (wks (wkn (wks (wkn (wkn wk0))))))) ?_
                exact x_Q_law_124 hf hI (by omega) (by omega) (fun e => ih (by omega) (by omega) e) e
              · replace e := ite_t c23 e
                refine Gz.run (pc' := 121) [.iconst 1] (ls' := [some (.ref 217), some (.ref 180), some (.ref 1180), some (.int x3), some (.int x4), some (.int v3), some (.int v5)]) (st' := [.int (1 : Int32)]) (by decide +kernel) rfl rfl ?_
                refine Gz.goto (off := 4) (tgt := 125) (by decide +kernel) (by decide) ?_
                refine Gz.wk' (wks (wks (wks (wkn (wks (wkn (wkn wk0))))))) ?_
                exact x_Q_law_125 hf hI (by omega) (by omega) (fun e => ih (by omega) (by omega) e) e
def f_Q_law_48 (L : Nat) (xs : Nat → Int32)  (s0 : Int32) (h : HP2) : Option (Unit) :=
  f_Q_law_52 L xs 41 s0 (0 : Int32) h
set_option maxRecDepth 100000 in
set_option maxHeartbeats 4000000 in
theorem x_Q_law_48 {l : Launch} {D : va_G} {aA aB : Nat → Nat} {cA cB : Nat → ClassId} (hf : l.flags = flags0) (hI : IZ aA aB) {L : Nat} {xs : Nat → Int32} {k9 n9 : Nat} (hk9 : k9 + 17200 ≤ 600130) (hn9 : n9 + 103200 ≤ 7301080) {s0 : Int32} {h : HP2} {r : Unit} (e : f_Q_law_48 L xs s0 h = some r) : Gz l D aA aB cA cB room_1 (QLz aA aB L xs) m_Q_law 48 [some (.ref 217), some (.ref 180), some (.ref 1180), none, none, none, none] [.int s0] h (k9 + 57) (n9 + 342) := by
  unfold f_Q_law_48 at e
  refine Gz.run (pc' := 52) [.istore_n 3, .iconst 0, .istore 4] (ls' := [some (.ref 217), some (.ref 180), some (.ref 1180), some (.int s0), some (.int (0 : Int32)), none, none]) (st' := []) (by decide +kernel) rfl rfl ?_
  refine Gz.wid (k' := k9 + 400) (n' := n9 + 2400) (by omega) (by omega) ?_
  exact x_Q_law_52 hf hI 41 (by omega) (by omega) e
def f_Q_law_47 (L : Nat) (xs : Nat → Int32)   (h : HP2) : Option (Unit) :=
  f_Q_law_48 L xs (0 : Int32) h
set_option maxRecDepth 100000 in
set_option maxHeartbeats 4000000 in
theorem x_Q_law_47 {l : Launch} {D : va_G} {aA aB : Nat → Nat} {cA cB : Nat → ClassId} (hf : l.flags = flags0) (hI : IZ aA aB) {L : Nat} {xs : Nat → Int32} {k9 n9 : Nat} (hk9 : k9 + 17200 ≤ 600130) (hn9 : n9 + 103200 ≤ 7301080)  {h : HP2} {r : Unit} (e : f_Q_law_47 L xs h = some r) : Gz l D aA aB cA cB room_1 (QLz aA aB L xs) m_Q_law 47 [some (.ref 217), some (.ref 180), some (.ref 1180), none, none, none, none] [] h (k9 + 57) (n9 + 342) := by
  unfold f_Q_law_47 at e
  refine Gz.run (pc' := 48) [.iconst 0] (ls' := [some (.ref 217), some (.ref 180), some (.ref 1180), none, none, none, none]) (st' := [.int (0 : Int32)]) (by decide +kernel) rfl rfl ?_
  exact x_Q_law_48 hf hI (by omega) (by omega) e
def f_Q_law_16 (L : Nat) (xs : Nat → Int32)   (h : HP2) : Option (Unit) :=
  (drO L xs (0 : Int32)).bind fun v1 =>
  (f_Q_alike (h.1, h.2) v1).bind fun v3 =>
  if v3.1 = 0 then
    f_Q_law_47 L xs v3.2
  else
    (f_Q_errors v3.2.1 180 ).bind fun v6 =>
    if v6.1 = 0 then
      f_Q_law_47 L xs (v6.2, v3.2.2)
    else
      (f_Q_kept v6.2 180 ).bind fun v9 =>
      if v9.1 = 0 then
        f_Q_law_47 L xs (v9.2, v3.2.2)
      else
        f_Q_law_48 L xs (1 : Int32) (v9.2, v3.2.2)
set_option maxRecDepth 100000 in
set_option maxHeartbeats 4000000 in
theorem x_Q_law_16 {l : Launch} {D : va_G} {aA aB : Nat → Nat} {cA cB : Nat → ClassId} (hf : l.flags = flags0) (hI : IZ aA aB) {L : Nat} {xs : Nat → Int32} {k9 n9 : Nat} (hk9 : k9 + 17200 ≤ 600130) (hn9 : n9 + 103200 ≤ 7301080)  {h : HP2} {r : Unit} (e : f_Q_law_16 L xs h = some r) : Gz l D aA aB cA cB room_1 (QLz aA aB L xs) m_Q_law 16 [some (.ref 217), some (.ref 180), some (.ref 1180), none, none, none, none] [] h k9 n9 := by
  unfold f_Q_law_16 at e
  refine Gz.run (pc' := 20) [.aload_n 1, .aload_n 2, .aload_n 0, .iconst 0] (ls' := [some (.ref 217), some (.ref 180), some (.ref 1180), none, none, none, none]) (st' := [.int (0 : Int32), .ref 217, .ref 1180, .ref 180]) (by decide +kernel) rfl rfl ?_
  obtain ⟨v1, e2, e⟩ := bd_inv e
  refine Gz.draw (rest := [.ref 1180, .ref 180]) hI e2 wdraw_200 (by decide +kernel) rfl ⟨⟨Nat.le_of_ble_eq_true rfl, Nat.le_of_ble_eq_true rfl⟩, ⟨(by show k9 + 0 ≤ 600130; omega), (by show n9 + 6 * 0 ≤ 7301080; omega)⟩⟩ (Nat.le_of_ble_eq_true rfl) ?_
  show Gz l D aA aB cA cB _ _ m_Q_law 23 [some (.ref 217), some (.ref 180), some (.ref 1180), none, none, none, none] [.int v1, .ref 1180, .ref 180] h k9 n9
  obtain ⟨v3, e4, e⟩ := bd_inv e
  refine Gz.callZ (M2 := m_Q_alike) (as := [.ref 180, .ref 1180, .int v1]) (rest := []) (v := some (.int v3.1)) (h' := v3.2) (x_Q_alike hf hI e4) ws_Q_204 (by decide +kernel) rfl rfl ⟨⟨Nat.le_of_ble_eq_true rfl, Nat.le_of_ble_eq_true rfl⟩, ⟨(by show k9 + 8 ≤ 600130; omega), (by show n9 + 6 * 8 ≤ 7301080; omega)⟩⟩ (Nat.le_of_ble_eq_true rfl) ?_
  show Gz l D aA aB cA cB _ _ m_Q_law 26 [some (.ref 217), some (.ref 180), some (.ref 1180), none, none, none, none] [.int v3.1] v3.2 (k9 + 8) (n9 + 48)
  refine Gz.if_eq (off := 21) (tgt := 47) (by decide +kernel) (by decide) (fun c5 => ?_) (fun c5 => ?_)
  · replace e := ite_t c5 e
    refine Gz.wid (k' := k9 + 57) (n' := n9 + 342) (by omega) (by omega) ?_
    exact x_Q_law_47 hf hI (by omega) (by omega) e
  · replace e := ite_f c5 e
    refine Gz.run (pc' := 30) [.aload_n 1] (ls' := [some (.ref 217), some (.ref 180), some (.ref 1180), none, none, none, none]) (st' := [.ref 180]) (by decide +kernel) rfl rfl ?_
    obtain ⟨v6, e7, e⟩ := bd_inv e
    refine Gz.call1S (M2 := m_Q_errors) (as := [.ref 180]) (as' := [.ref 180]) (rest := []) (v := some (.int v6.1)) (w := some (.int v6.1)) (h1 := v6.2) hI (x_Q_errors hf hI.1 (by decide) e7) ws_Q_208 (by decide +kernel) rfl rfl rfl rfl ⟨⟨Nat.le_of_ble_eq_true rfl, Nat.le_of_ble_eq_true rfl⟩, ⟨(by show k9 + 8 + 49 ≤ 600130; omega), (by show n9 + 48 + 6 * 49 ≤ 7301080; omega)⟩⟩ (Nat.le_of_ble_eq_true rfl) ?_
    show Gz l D aA aB cA cB _ _ m_Q_law 33 [some (.ref 217), some (.ref 180), some (.ref 1180), none, none, none, none] [.int v6.1] (v6.2, v3.2.2) (k9 + 57) (n9 + 342)
    refine Gz.if_eq (off := 14) (tgt := 47) (by decide +kernel) (by decide) (fun c8 => ?_) (fun c8 => ?_)
    · replace e := ite_t c8 e
      exact x_Q_law_47 hf hI (by omega) (by omega) e
    · replace e := ite_f c8 e
      refine Gz.run (pc' := 37) [.aload_n 1] (ls' := [some (.ref 217), some (.ref 180), some (.ref 1180), none, none, none, none]) (st' := [.ref 180]) (by decide +kernel) rfl rfl ?_
      obtain ⟨v9, e10, e⟩ := bd_inv e
      refine Gz.call1S (M2 := m_Q_kept) (as := [.ref 180]) (as' := [.ref 180]) (rest := []) (v := some (.int v9.1)) (w := some (.int v9.1)) (h1 := v9.2) hI (x_Q_kept hf hI.1 (by decide) e10) ws_Q_212 (by decide +kernel) rfl rfl rfl rfl ⟨⟨Nat.le_of_ble_eq_true rfl, Nat.le_of_ble_eq_true rfl⟩, ⟨(by show k9 + 57 + 0 ≤ 600130; omega), (by show n9 + 342 + 6 * 0 ≤ 7301080; omega)⟩⟩ (Nat.le_of_ble_eq_true rfl) ?_
      show Gz l D aA aB cA cB _ _ m_Q_law 40 [some (.ref 217), some (.ref 180), some (.ref 1180), none, none, none, none] [.int v9.1] (v9.2, v3.2.2) (k9 + 57) (n9 + 342)
      refine Gz.if_eq (off := 7) (tgt := 47) (by decide +kernel) (by decide) (fun c11 => ?_) (fun c11 => ?_)
      · replace e := ite_t c11 e
        exact x_Q_law_47 hf hI (by omega) (by omega) e
      · replace e := ite_f c11 e
        refine Gz.run (pc' := 44) [.iconst 1] (ls' := [some (.ref 217), some (.ref 180), some (.ref 1180), none, none, none, none]) (st' := [.int (1 : Int32)]) (by decide +kernel) rfl rfl ?_
        refine Gz.goto (off := 4) (tgt := 48) (by decide +kernel) (by decide) ?_
        exact x_Q_law_48 hf hI (by omega) (by omega) e
