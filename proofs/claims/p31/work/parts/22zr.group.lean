/-! commands of a script, turns of a simulation -/
noncomputable def grpZ (z : Nat → Int) (c a b cc dd tl : Int) : Rw := if c = 1 then doP 1 z a b tl else if c = 2 then (if tl = 0 then doS 1 z a b else (false, z)) else if c = 3 then (if b = 0 ∧ tl = 0 then doL z a else (false, z)) else if c = 4 then (if a = 0 ∧ b = 0 then doN z tl else (false, z)) else if c = 5 then (if b = 0 then doE z a tl else (false, z)) else if c = 6 then doO z a (10 * b + cc) dd else if c = 7 then (if b = 0 ∧ okD z a ∧ rentZ z a.toNat ≤ tl then (true, z) else (false, z)) else if c = 8 then (if (b = 0 ∧ cc = 0) ∧ okD z a ∧ dd ≤ (shareZ z).2.1 a.toNat then (true, z) else (false, z)) else if c = 9 then (if b = 0 ∧ (0 ≤ a ∧ a < z 184) ∧ tl ≤ freZ z a.toNat then (true, z) else (false, z)) else (false, z)
noncomputable def cmdZ (z : Nat → Int) (g : Int) : Rw := grpZ z (g / 10000) (g / 1000 % 10) (g / 100 % 10) (g / 10 % 10) (g % 10) (g % 100)
noncomputable def trnZ (z : Nat → Int) (r : Int) : Rw := if r % 16 = 0 then doW z (4 + r / 16 % 27) else if r % 16 = 1 ∨ r % 16 = 2 then doO z (r / 16 % 4) (r / 16 / 4 % 30) (r / 16 / 128 % 5) else if r % 16 = 3 ∨ r % 16 = 4 ∨ r % 16 = 5 then doD z (r / 16 % 6) (1 + r / 16 / 8 % 9) (r / 16 / 128 % 4) else if r % 16 = 6 ∨ r % 16 = 7 ∨ r % 16 = 8 ∨ r % 16 = 9 then doP 1 z (r / 16 % 10) (r / 16 / 16 % 4) (r / 16 / 64 % 30) else if r % 16 = 10 then doL z (r / 16 % 10) else if r % 16 = 11 ∨ r % 16 = 12 then doS 1 z (r / 16 % 10) (r / 16 / 16 % 10) else if r % 16 = 13 then doE z (r / 16 % 6) (r / 16 / 8 % 12) else doN z (1 + r / 16 % 5)
section CMD
variable {h g : HP} {a b p : Nat} {z : Nat → Int} {B : Int}
theorem modI {x m : Int} {M : Int32} (eM : M = iI m) (h1 : 0 ≤ x) (h2 : x < 2147483648) (h3 : 0 < m) (h4 : m < 2147483648) : iI x - iI x / M * M = iI (x % m) := by
  rw [eM, iI_div h1 h2 h3 h4, iI_mul, iI_sub]
  congr 1
  have := Int.emod_add_mul_ediv x m
  rw [Int.mul_comm m] at this
  omega
theorem divI {x m : Int} {M : Int32} (eM : M = iI m) (h1 : 0 ≤ x) (h2 : x < 2147483648) (h3 : 0 < m) (h4 : m < 2147483648) : iI x / M = iI (x / m) := by
  rw [eM, iI_div h1 h2 h3 h4]
theorem fre_b (z : Nat → Int) (F : WF z) {w : Nat} (hw : w < 4) : 0 ≤ freZ z w ∧ freZ z w ≤ 40 := by
  have hL := F.2.2.2.1 w hw
  have := sm_b (G := fun m : Nat => if atZ z w m = -1 then (1 : Int) else 0) (M := 1) (fun i _ => by split <;> omega) (z (31 * w)).toNat 0 (by omega)
  unfold freZ
  omega
theorem grpZ_ok (K : OKz B z) (c a b cc dd tl : Int) : OKz (B + 42000) (grpZ z c a b cc dd tl).2 := by
  have K' : OKz (B + 42000) z := K.mono (by omega)
  unfold grpZ
  repeat' split
  all_goals first | exact K' | exact doP_ok K' _ _ _ _ | exact doS_ok K' _ _ _ | exact doL_ok K' _ | exact doN_ok K _ | exact doE_ok K' _ _ | exact doO_ok K' _ _ _
theorem trnZ_ok (K : OKz B z) (r : Int) : OKz (B + 42000) (trnZ z r).2 := by
  have K' : OKz (B + 42000) z := K.mono (by omega)
  unfold trnZ
  repeat' split
  all_goals first | exact K' | exact doP_ok K' _ _ _ _ | exact doS_ok K' _ _ _ | exact doL_ok K' _ | exact doN_ok K _ | exact doE_ok K' _ _ | exact doO_ok K' _ _ _ | exact doW_ok K' _ | exact doD_ok K' _ _ _
theorem c_group (RA : RepA h a b p z) (K : OKz B z) (hB : B < 2147483648) {g : Int} (hg : 0 ≤ g ∧ g < 100000) : ∃ h', f_C_obeyGroup h a (iI g) = some (if (cmdZ z g).1 = true then 1 else 0, h') ∧ RepA h' a b p (cmdZ z g).2 ∧ (∀ i, ¬ own b p i → h' i = h i) ∧ h' b 13 = h b 13 := by
  obtain ⟨S, R, RP, F⟩ := id RA
  obtain ⟨⟨w1, w2⟩, ⟨n1, n2⟩, -⟩ := id F
  have eA : iI g / (1000 : Int32) - iI g / (1000 : Int32) / (10 : Int32) * (10 : Int32) = iI (g / 1000 % 10) := by rw [divI lI1000 (by omega) (by omega) (by omega) (by omega), modI lI10 (by omega) (by omega) (by omega) (by omega)]
  have eB : iI g / (100 : Int32) - iI g / (100 : Int32) / (10 : Int32) * (10 : Int32) = iI (g / 100 % 10) := by rw [divI lI100 (by omega) (by omega) (by omega) (by omega), modI lI10 (by omega) (by omega) (by omega) (by omega)]
  have eC : iI g / (10 : Int32) - iI g / (10 : Int32) / (10 : Int32) * (10 : Int32) = iI (g / 10 % 10) := by rw [divI lI10 (by omega) (by omega) (by omega) (by omega), modI lI10 (by omega) (by omega) (by omega) (by omega)]
  have eM : iI g / (10 : Int32) - iI g / (10 : Int32) / (100 : Int32) * (100 : Int32) = iI (g / 10 % 100) := by rw [divI lI10 (by omega) (by omega) (by omega) (by omega), modI lI100 (by omega) (by omega) (by omega) (by omega)]
  have eT : iI g - iI g / (100 : Int32) * (100 : Int32) = iI (g % 100) := modI lI100 (by omega) (by omega) (by omega) (by omega)
  have eD : iI g - iI g / (10 : Int32) * (10 : Int32) = iI (g % 10) := modI lI10 (by omega) (by omega) (by omega) (by omega)
  have eX : iI g - iI g / (1000 : Int32) * (1000 : Int32) = iI (g % 1000) := modI lI1000 (by omega) (by omega) (by omega) (by omega)
  have eY : iI g - iI g / (10000 : Int32) * (10000 : Int32) = iI (g % 10000) := modI lI10000 (by omega) (by omega) (by omega) (by omega)
  have eG : iI g / (10000 : Int32) = iI (g / 10000) := divI lI10000 (by omega) (by omega) (by omega) (by omega)
  have no : ∀ (e : Option (Int32 × HP)) (D : Rw), e = some (0, h) → D = (false, z) → ∃ h', e = some (if D.1 = true then 1 else 0, h') ∧ RepA h' a b p D.2 ∧ (∀ i, ¬ own b p i → h' i = h i) ∧ h' b 13 = h b 13 := fun e D q1 q2 => ⟨h, by rw [q1, q2]; rfl, by rw [q2]; exact RA, fun _ _ => rfl, rfl⟩
  have yes : ∀ (e : Option (Int32 × HP)) (D : Rw), e = some (1, h) → D = (true, z) → ∃ h', e = some (if D.1 = true then 1 else 0, h') ∧ RepA h' a b p D.2 ∧ (∀ i, ¬ own b p i → h' i = h i) ∧ h' b 13 = h b 13 := fun e D q1 q2 => ⟨h, by rw [q1, q2]; rfl, by rw [q2]; exact RA, fun _ _ => rfl, rfl⟩
  unfold f_C_obeyGroup cmdZ
  rw [eG, eA, eB, eC, eT, eD]
  have bA : 0 ≤ g / 1000 % 10 ∧ g / 1000 % 10 < 10 := by omega
  have bB : 0 ≤ g / 100 % 10 ∧ g / 100 % 10 < 10 := by omega
  have bC : 0 ≤ g / 10 % 10 ∧ g / 10 % 10 < 10 := by omega
  have bD : 0 ≤ g % 10 ∧ g % 10 < 10 := by omega
  have bT : 0 ≤ g % 100 ∧ g % 100 < 100 := by omega
  have bG : 0 ≤ g / 10000 ∧ g / 10000 < 10 := by omega
  generalize g / 1000 % 10 = A at *
  generalize g / 100 % 10 = Bb at *
  generalize g / 10 % 10 = C at *
  generalize g % 10 = Dd at *
  generalize g % 100 = T at *
  generalize g / 10000 = G at *
  have zA : ∀ {α : Type} (u v : α), (if iI A = 0 then u else v) = if A = 0 then u else v := fun u v => by rw [lI0]; exact tEq (by omega) (by omega) (by omega) (by omega)
  have zB : ∀ {α : Type} (u v : α), (if iI Bb = 0 then u else v) = if Bb = 0 then u else v := fun u v => by rw [lI0]; exact tEq (by omega) (by omega) (by omega) (by omega)
  have zC : ∀ {α : Type} (u v : α), (if iI C = 0 then u else v) = if C = 0 then u else v := fun u v => by rw [lI0]; exact tEq (by omega) (by omega) (by omega) (by omega)
  have zT : ∀ {α : Type} (u v : α), (if iI T = 0 then u else v) = if T = 0 then u else v := fun u v => by rw [lI0]; exact tEq (by omega) (by omega) (by omega) (by omega)
  rcases (by omega : G = 0 ∨ G = 1 ∨ G = 2 ∨ G = 3 ∨ G = 4 ∨ G = 5 ∨ G = 6 ∨ G = 7 ∨ G = 8 ∨ G = 9) with rfl | rfl | rfl | rfl | rfl | rfl | rfl | rfl | rfl | rfl
  · refine no _ _ ?_ ?_
    · rw [if_neg (by decide), if_neg (by decide), if_neg (by decide), if_neg (by decide), if_neg (by decide), if_neg (by decide), if_neg (by decide), if_neg (by decide), if_neg (by decide)]
    · unfold grpZ
      rw [if_neg (by decide), if_neg (by decide), if_neg (by decide), if_neg (by decide), if_neg (by decide), if_neg (by decide), if_neg (by decide), if_neg (by decide), if_neg (by decide)]
  · have eg : grpZ z 1 A Bb C Dd T = doP 1 z A Bb T := by
      unfold grpZ
      rw [if_pos rfl]
    rw [eg, if_pos (by decide)]
    exact (c_place RA 1 ⟨by omega, by omega⟩ ⟨by omega, by omega⟩ ⟨by omega, by omega⟩).t0
  · by_cases cz : T = 0
    · have eg : grpZ z 2 A Bb C Dd T = doS 1 z A Bb := by
        unfold grpZ
        rw [if_neg (by decide), if_pos rfl, if_pos cz]
      rw [eg, if_neg (by decide), if_pos (by decide), zT, if_pos cz]
      exact (c_swap RA 1 ⟨by omega, by omega⟩ ⟨by omega, by omega⟩).t0
    · have eg : grpZ z 2 A Bb C Dd T = (false, z) := by
        unfold grpZ
        rw [if_neg (by decide), if_pos rfl, if_neg cz]
      refine no _ _ ?_ eg
      rw [if_neg (by decide), if_pos (by decide), zT, if_neg cz]
  · by_cases cz : Bb = 0 ∧ T = 0
    · have eg : grpZ z 3 A Bb C Dd T = doL z A := by
        unfold grpZ
        rw [if_neg (by decide), if_neg (by decide), if_pos rfl, if_pos cz]
      rw [eg, if_neg (by decide), if_neg (by decide), if_pos (by decide), zB, if_pos cz.1, zT, if_pos cz.2]
      exact (c_leave RA K.2.1 hB ⟨by omega, by omega⟩).t1
    · have eg : grpZ z 3 A Bb C Dd T = (false, z) := by
        unfold grpZ
        rw [if_neg (by decide), if_neg (by decide), if_pos rfl, if_neg cz]
      refine no _ _ ?_ eg
      by_cases cx : Bb = 0
      · rw [if_neg (by decide), if_neg (by decide), if_pos (by decide), zB, if_pos cx, zT, if_neg (fun q => cz ⟨cx, q⟩)]
      · rw [if_neg (by decide), if_neg (by decide), if_pos (by decide), zB, if_neg cx]
  · by_cases cz : A = 0 ∧ Bb = 0
    · have eg : grpZ z 4 A Bb C Dd T = doN z T := by
        unfold grpZ
        rw [if_neg (by decide), if_neg (by decide), if_neg (by decide), if_pos rfl, if_pos cz]
      rw [eg, if_neg (by decide), if_neg (by decide), if_neg (by decide), if_pos (by decide), zA, if_pos cz.1, zB, if_pos cz.2]
      exact (c_days RA ⟨by omega, by omega⟩).t1
    · have eg : grpZ z 4 A Bb C Dd T = (false, z) := by
        unfold grpZ
        rw [if_neg (by decide), if_neg (by decide), if_neg (by decide), if_pos rfl, if_neg cz]
      refine no _ _ ?_ eg
      by_cases cx : A = 0
      · rw [if_neg (by decide), if_neg (by decide), if_neg (by decide), if_pos (by decide), zA, if_pos cx, zB, if_neg (fun q => cz ⟨cx, q⟩)]
      · rw [if_neg (by decide), if_neg (by decide), if_neg (by decide), if_pos (by decide), zA, if_neg cx]
  · by_cases cz : Bb = 0
    · have eg : grpZ z 5 A Bb C Dd T = doE z A T := by
        unfold grpZ
        rw [if_neg (by decide), if_neg (by decide), if_neg (by decide), if_neg (by decide), if_pos rfl, if_pos cz]
      rw [eg, if_neg (by decide), if_neg (by decide), if_neg (by decide), if_neg (by decide), if_pos (by decide), zB, if_pos cz]
      exact (c_set RA ⟨by omega, by omega⟩ ⟨by omega, by omega⟩).t1
    · have eg : grpZ z 5 A Bb C Dd T = (false, z) := by
        unfold grpZ
        rw [if_neg (by decide), if_neg (by decide), if_neg (by decide), if_neg (by decide), if_pos rfl, if_neg cz]
      refine no _ _ ?_ eg
      rw [if_neg (by decide), if_neg (by decide), if_neg (by decide), if_neg (by decide), if_pos (by decide), zB, if_neg cz]
  · have eg : grpZ z 6 A Bb C Dd T = doO z A (10 * Bb + C) Dd := by
      unfold grpZ
      rw [if_neg (by decide), if_neg (by decide), if_neg (by decide), if_neg (by decide), if_neg (by decide), if_pos rfl]
    rw [eg, if_neg (by decide), if_neg (by decide), if_neg (by decide), if_neg (by decide), if_neg (by decide), if_pos (by decide), lI10, iI_mul, iI_add]
    exact (c_outlet RA ⟨by omega, by omega⟩ ⟨by omega, by omega⟩ ⟨by omega, by omega⟩).t1
  · rw [if_neg (by decide), if_neg (by decide), if_neg (by decide), if_neg (by decide), if_neg (by decide), if_neg (by decide), if_pos (by decide), zB]
    by_cases cb : Bb = 0
    · rw [if_pos cb, S.f0, s_hasDealer R F ⟨by omega, by omega⟩, Option.bind_some]
      by_cases cd : okD z A
      · obtain ⟨d, hd, rfl⟩ : ∃ d : Nat, (d : Int) < z 185 ∧ A = d := ⟨A.toNat, by omega, by omega⟩
        have hb := rent_b F (d := d) (by omega)
        have et : ((d : Nat) : Int).toNat = d := by omega
        rw [if_pos cd, if_neg (by decide), a_rent S R RP F (d := d) (by omega) hd, Option.bind_some, tLt (by omega) (by omega) (by omega) (by omega)]
        by_cases q : T < rentZ z d
        · rw [if_pos q]
          refine no _ _ rfl ?_
          unfold grpZ
          rw [if_neg (by decide), if_neg (by decide), if_neg (by decide), if_neg (by decide), if_neg (by decide), if_neg (by decide), if_pos rfl, if_neg (fun r => by have := r.2.2; rw [et] at this; omega)]
        · rw [if_neg q]
          refine yes _ _ rfl ?_
          unfold grpZ
          rw [if_neg (by decide), if_neg (by decide), if_neg (by decide), if_neg (by decide), if_neg (by decide), if_neg (by decide), if_pos rfl, if_pos ⟨cb, cd, by rw [et]; omega⟩]
      · rw [if_neg cd, if_pos rfl]
        refine no _ _ rfl ?_
        unfold grpZ
        rw [if_neg (by decide), if_neg (by decide), if_neg (by decide), if_neg (by decide), if_neg (by decide), if_neg (by decide), if_pos rfl, if_neg (fun r => cd r.2.1)]
    · rw [if_neg cb]
      refine no _ _ rfl ?_
      unfold grpZ
      rw [if_neg (by decide), if_neg (by decide), if_neg (by decide), if_neg (by decide), if_neg (by decide), if_neg (by decide), if_pos rfl, if_neg (fun r => cb r.1)]
  · rw [if_neg (by decide), if_neg (by decide), if_neg (by decide), if_neg (by decide), if_neg (by decide), if_neg (by decide), if_neg (by decide), if_pos (by decide), zB]
    by_cases cb : Bb = 0
    · rw [if_pos cb, zC]
      by_cases cc : C = 0
      · rw [if_pos cc, S.f0, S.f1, s_hasDealer R F ⟨by omega, by omega⟩, Option.bind_some]
        by_cases cd : okD z A
        · obtain ⟨d, hd, rfl⟩ : ∃ d : Nat, (d : Int) < z 185 ∧ A = d := ⟨A.toNat, by omega, by omega⟩
          have hb := had_b F d
          have et : ((d : Nat) : Int).toNat = d := by omega
          rw [if_pos cd, if_neg (by decide), w_had S.ps RP (d := d) (by omega), Option.bind_some, tLt (by omega) (by omega) (by omega) (by omega)]
          by_cases q : (shareZ z).2.1 d < Dd
          · rw [if_pos q]
            refine no _ _ rfl ?_
            unfold grpZ
            rw [if_neg (by decide), if_neg (by decide), if_neg (by decide), if_neg (by decide), if_neg (by decide), if_neg (by decide), if_neg (by decide), if_pos rfl, if_neg (fun r => by have := r.2.2; rw [et] at this; omega)]
          · rw [if_neg q]
            refine yes _ _ rfl ?_
            unfold grpZ
            rw [if_neg (by decide), if_neg (by decide), if_neg (by decide), if_neg (by decide), if_neg (by decide), if_neg (by decide), if_neg (by decide), if_pos rfl, if_pos ⟨⟨cb, cc⟩, cd, by rw [et]; omega⟩]
        · rw [if_neg cd, if_pos rfl]
          refine no _ _ rfl ?_
          unfold grpZ
          rw [if_neg (by decide), if_neg (by decide), if_neg (by decide), if_neg (by decide), if_neg (by decide), if_neg (by decide), if_neg (by decide), if_pos rfl, if_neg (fun r => cd r.2.1)]
      · rw [if_neg cc]
        refine no _ _ rfl ?_
        unfold grpZ
        rw [if_neg (by decide), if_neg (by decide), if_neg (by decide), if_neg (by decide), if_neg (by decide), if_neg (by decide), if_neg (by decide), if_pos rfl, if_neg (fun r => cc r.1.2)]
    · rw [if_neg cb]
      refine no _ _ rfl ?_
      unfold grpZ
      rw [if_neg (by decide), if_neg (by decide), if_neg (by decide), if_neg (by decide), if_neg (by decide), if_neg (by decide), if_neg (by decide), if_pos rfl, if_neg (fun r => cb r.1.1)]
  · rw [if_neg (by decide), if_neg (by decide), if_neg (by decide), if_neg (by decide), if_neg (by decide), if_neg (by decide), if_neg (by decide), if_neg (by decide), if_pos (by decide), zB]
    by_cases cb : Bb = 0
    · rw [if_pos cb, S.f0, s_hasWall R F ⟨by omega, by omega⟩, Option.bind_some]
      by_cases cd : 0 ≤ A ∧ A < z 184
      · obtain ⟨d, hd, rfl⟩ : ∃ d : Nat, (d : Int) < z 184 ∧ A = d := ⟨A.toNat, by omega, by omega⟩
        have hb := fre_b z F (w := d) (by omega)
        have et : ((d : Nat) : Int).toNat = d := by omega
        rw [if_pos cd, if_neg (by decide), a_freeM S R F hd, Option.bind_some, tLt (by omega) (by omega) (by omega) (by omega)]
        by_cases q : freZ z d < T
        · rw [if_pos q]
          refine no _ _ rfl ?_
          unfold grpZ
          rw [if_neg (by decide), if_neg (by decide), if_neg (by decide), if_neg (by decide), if_neg (by decide), if_neg (by decide), if_neg (by decide), if_neg (by decide), if_pos rfl, if_neg (fun r => by have := r.2.2; rw [et] at this; omega)]
        · rw [if_neg q]
          refine yes _ _ rfl ?_
          unfold grpZ
          rw [if_neg (by decide), if_neg (by decide), if_neg (by decide), if_neg (by decide), if_neg (by decide), if_neg (by decide), if_neg (by decide), if_neg (by decide), if_pos rfl, if_pos ⟨cb, cd, by rw [et]; omega⟩]
      · rw [if_neg cd, if_pos rfl]
        refine no _ _ rfl ?_
        unfold grpZ
        rw [if_neg (by decide), if_neg (by decide), if_neg (by decide), if_neg (by decide), if_neg (by decide), if_neg (by decide), if_neg (by decide), if_neg (by decide), if_pos rfl, if_neg (fun r => cd r.2.1)]
    · rw [if_neg cb]
      refine no _ _ rfl ?_
      unfold grpZ
      rw [if_neg (by decide), if_neg (by decide), if_neg (by decide), if_neg (by decide), if_neg (by decide), if_neg (by decide), if_neg (by decide), if_neg (by decide), if_pos rfl, if_neg (fun r => cb r.1)]
end CMD
