/-! the reference's command of a script -/
section MCMD
variable {h g : HP} {a b p : Nat} {z : Nat → Int} {B : Int}
theorem MR.isb {e : Option (Int32 × HP)} {D : Rw} (M : MR h e D) : MR h (e.bind fun v => if isB v.1 = true then some (v.1, v.2) else none) D := by
  obtain ⟨h', m1, m2, m3⟩ := M
  refine ⟨h', ?_, m2, m3⟩
  rw [m1, Option.bind_some]
  dsimp only
  rw [isB_ite, if_pos rfl]
theorem MR.c {e : Option (Int32 × HP)} {D : Rw} (M : MR h e D) : MR h (e.bind fun v => if v.1 = 0 then some ((0 : Int32), v.2) else some ((1 : Int32), v.2)) D := by
  obtain ⟨h', m1, m2, m3⟩ := M
  refine ⟨h', ?_, m2, m3⟩
  rw [m1, Option.bind_some]
  dsimp only
  by_cases q : D.1 = true
  · rw [if_pos q, if_neg (by decide)]
  · rw [if_neg q, if_pos rfl]
theorem MR.u {e : Option (Int32 × HP)} {D : Rw} (M : MR h e D) : ∃ h', (e.bind fun v => some v.2) = some h' ∧ RepM h' 202 D.2 ∧ ∀ i, i ≠ 202 → i ≠ 207 → i ≠ 208 → i ≠ 209 → h' i = h i := by
  obtain ⟨h', m1, m2, m3⟩ := M
  exact ⟨h', by rw [m1, Option.bind_some], m2, m3⟩
theorem m_group (R : RepM h 202 z) (K : OKz B z) (hB : B < 2147483648) {g : Int} (hg : 0 ≤ g ∧ g < 100000) : MR h (f_M_command h 200 (iI g)) (cmdZ z g) := by
  have F := K.1
  obtain ⟨⟨w1, w2⟩, ⟨n1, n2⟩, -⟩ := id F
  have eA : iI g / (1000 : Int32) - iI g / (1000 : Int32) / (10 : Int32) * (10 : Int32) = iI (g / 1000 % 10) := by rw [divI lI1000 (by omega) (by omega) (by omega) (by omega), modI lI10 (by omega) (by omega) (by omega) (by omega)]
  have eB : iI g / (100 : Int32) - iI g / (100 : Int32) / (10 : Int32) * (10 : Int32) = iI (g / 100 % 10) := by rw [divI lI100 (by omega) (by omega) (by omega) (by omega), modI lI10 (by omega) (by omega) (by omega) (by omega)]
  have eC : iI g / (10 : Int32) - iI g / (10 : Int32) / (10 : Int32) * (10 : Int32) = iI (g / 10 % 10) := by rw [divI lI10 (by omega) (by omega) (by omega) (by omega), modI lI10 (by omega) (by omega) (by omega) (by omega)]
  have eM : iI g / (10 : Int32) - iI g / (10 : Int32) / (100 : Int32) * (100 : Int32) = iI (g / 10 % 100) := by rw [divI lI10 (by omega) (by omega) (by omega) (by omega), modI lI100 (by omega) (by omega) (by omega) (by omega)]
  have eT : iI g - iI g / (100 : Int32) * (100 : Int32) = iI (g % 100) := modI lI100 (by omega) (by omega) (by omega) (by omega)
  have eD : iI g - iI g / (10 : Int32) * (10 : Int32) = iI (g % 10) := modI lI10 (by omega) (by omega) (by omega) (by omega)
  have eX : iI g - iI g / (1000 : Int32) * (1000 : Int32) = iI (g % 1000) := modI lI1000 (by omega) (by omega) (by omega) (by omega)
  have eY : iI g - iI g / (10000 : Int32) * (10000 : Int32) = iI (g % 10000) := modI lI10000 (by omega) (by omega) (by omega) (by omega)
  have eG : iI g / (10000 : Int32) = iI (g / 10000) := divI lI10000 (by omega) (by omega) (by omega) (by omega)
  have eMC : g / 10 % 100 = 10 * (g / 100 % 10) + g / 10 % 10 := by omega
  have eX3 : g % 1000 = 100 * (g / 100 % 10) + g % 100 := by omega
  have eX8 : g % 1000 = 100 * (g / 100 % 10) + 10 * (g / 10 % 10) + g % 10 := by omega
  have eY4 : g % 10000 = 1000 * (g / 1000 % 10) + 100 * (g / 100 % 10) + g % 100 := by omega
  have eT8 : g % 100 = 10 * (g / 10 % 10) + g % 10 := by omega
  unfold f_M_command cmdZ
  rw [eY, eG, eX, eA, eB, eM, eT, eD, eMC, eX3, eY4]
  have bA : 0 ≤ g / 1000 % 10 ∧ g / 1000 % 10 < 10 := by omega
  have bB : 0 ≤ g / 100 % 10 ∧ g / 100 % 10 < 10 := by omega
  have bC : 0 ≤ g / 10 % 10 ∧ g / 10 % 10 < 10 := by omega
  have bD : 0 ≤ g % 10 ∧ g % 10 < 10 := by omega
  have bT : 0 ≤ g % 100 ∧ g % 100 < 100 := by omega
  have bG : 0 ≤ g / 10000 ∧ g / 10000 < 10 := by omega
  clear eX eY eM eX3 eX8 eY4 eMC eG eA eB eC eT eD
  generalize g / 1000 % 10 = A at *
  generalize g / 100 % 10 = Bb at *
  generalize g / 10 % 10 = C at *
  generalize g % 10 = Dd at *
  generalize g % 100 = T at *
  generalize g / 10000 = G at *
  have zB : ∀ {α : Type} (u v : α), (if iI Bb = 0 then u else v) = if Bb = 0 then u else v := fun u v => by rw [lI0]; exact tEq (by omega) (by omega) (by omega) (by omega)
  have zT : ∀ {α : Type} (u v : α), (if iI T = 0 then u else v) = if T = 0 then u else v := fun u v => by rw [lI0]; exact tEq (by omega) (by omega) (by omega) (by omega)
  have zX : ∀ {α : Type} (u v : α), (if iI (100 * Bb + T) = 0 then u else v) = if 100 * Bb + T = 0 then u else v := fun u v => by rw [lI0]; exact tEq (by omega) (by omega) (by omega) (by omega)
  rcases (by omega : G = 0 ∨ G = 1 ∨ G = 2 ∨ G = 3 ∨ G = 4 ∨ G = 5 ∨ G = 6 ∨ G = 7 ∨ G = 8 ∨ G = 9) with rfl | rfl | rfl | rfl | rfl | rfl | rfl | rfl | rfl | rfl
  · refine MR.no R ?_ ?_
    · rw [if_neg (by decide), if_neg (by decide), if_neg (by decide), if_neg (by decide), if_neg (by decide), if_neg (by decide), if_neg (by decide), if_neg (by decide), if_neg (by decide)]
    · unfold grpZ
      rw [if_neg (by decide), if_neg (by decide), if_neg (by decide), if_neg (by decide), if_neg (by decide), if_neg (by decide), if_neg (by decide), if_neg (by decide), if_neg (by decide)]
  · have eg : grpZ z 1 A Bb C Dd T = doP 1 z A Bb T := by
      unfold grpZ
      rw [if_pos rfl]
    rw [eg, if_pos (by decide)]
    exact (m_runPlace R F ⟨by omega, by omega⟩ ⟨by omega, by omega⟩ ⟨by omega, by omega⟩).isb
  · rw [if_neg (by decide), if_pos (by decide), zT]
    by_cases cz : T = 0
    · have eg : grpZ z 2 A Bb C Dd T = doS 1 z A Bb := by
        unfold grpZ
        rw [if_neg (by decide), if_pos rfl, if_pos cz]
      rw [eg, if_pos cz]
      exact (m_runSwap R F ⟨by omega, by omega⟩ ⟨by omega, by omega⟩).c
    · have eg : grpZ z 2 A Bb C Dd T = (false, z) := by
        unfold grpZ
        rw [if_neg (by decide), if_pos rfl, if_neg cz]
      rw [if_neg cz]
      exact MR.no R rfl eg
  · rw [if_neg (by decide), if_neg (by decide), if_pos (by decide), zX]
    by_cases cz : Bb = 0 ∧ T = 0
    · have eg : grpZ z 3 A Bb C Dd T = doL z A := by
        unfold grpZ
        rw [if_neg (by decide), if_neg (by decide), if_pos rfl, if_pos cz]
      rw [eg, if_pos (by omega)]
      exact (m_runLeave R F K.2.1 hB ⟨by omega, by omega⟩).c
    · have eg : grpZ z 3 A Bb C Dd T = (false, z) := by
        unfold grpZ
        rw [if_neg (by decide), if_neg (by decide), if_pos rfl, if_neg cz]
      rw [if_neg (show ¬ (100 * Bb + T = 0) by omega)]
      exact MR.no R rfl eg
  · rw [if_neg (by decide), if_neg (by decide), if_neg (by decide), if_pos (by decide), lI100, tLe (by omega) (by omega) (by omega) (by omega)]
    by_cases cz : A = 0 ∧ Bb = 0
    · have eg : grpZ z 4 A Bb C Dd T = doN z T := by
        unfold grpZ
        rw [if_neg (by decide), if_neg (by decide), if_neg (by decide), if_pos rfl, if_pos cz]
      rw [eg, if_neg (show ¬ (100 ≤ 1000 * A + 100 * Bb + T) by omega)]
      exact (m_runDays R F ⟨by omega, by omega⟩).c
    · have eg : grpZ z 4 A Bb C Dd T = (false, z) := by
        unfold grpZ
        rw [if_neg (by decide), if_neg (by decide), if_neg (by decide), if_pos rfl, if_neg cz]
      rw [if_pos (show 100 ≤ 1000 * A + 100 * Bb + T by omega)]
      exact MR.no R rfl eg
  · rw [if_neg (by decide), if_neg (by decide), if_neg (by decide), if_neg (by decide), if_pos (by decide), zB]
    by_cases cz : Bb = 0
    · have eg : grpZ z 5 A Bb C Dd T = doE z A T := by
        unfold grpZ
        rw [if_neg (by decide), if_neg (by decide), if_neg (by decide), if_neg (by decide), if_pos rfl, if_pos cz]
      rw [eg, if_pos cz]
      exact (m_runSet R F ⟨by omega, by omega⟩ ⟨by omega, by omega⟩).c
    · have eg : grpZ z 5 A Bb C Dd T = (false, z) := by
        unfold grpZ
        rw [if_neg (by decide), if_neg (by decide), if_neg (by decide), if_neg (by decide), if_pos rfl, if_neg cz]
      rw [if_neg cz]
      exact MR.no R rfl eg
  · have eg : grpZ z 6 A Bb C Dd T = doO z A (10 * Bb + C) Dd := by
      unfold grpZ
      rw [if_neg (by decide), if_neg (by decide), if_neg (by decide), if_neg (by decide), if_neg (by decide), if_pos rfl]
    rw [eg, if_neg (by decide), if_neg (by decide), if_neg (by decide), if_neg (by decide), if_neg (by decide), if_pos (by decide)]
    exact (m_runOutlet R F ⟨by omega, by omega⟩ ⟨by omega, by omega⟩ ⟨by omega, by omega⟩).isb
  · rw [if_neg (by decide), if_neg (by decide), if_neg (by decide), if_neg (by decide), if_neg (by decide), if_neg (by decide), if_pos (by decide), zB]
    by_cases cb : Bb = 0
    · obtain ⟨h', q1, q2, q3⟩ := m_isCheap R F (d := A) (t := T) ⟨by omega, by omega⟩ ⟨by omega, by omega⟩
      rw [if_pos cb]
      have eg7 : grpZ z 7 A Bb C Dd T = if Bb = 0 ∧ okD z A ∧ rentZ z A.toNat ≤ T then (true, z) else (false, z) := by
        unfold grpZ
        rw [if_neg (by decide), if_neg (by decide), if_neg (by decide), if_neg (by decide), if_neg (by decide), if_neg (by decide), if_pos rfl]
      refine (MR.c (D := grpZ z 7 A Bb C Dd T) ⟨h', ?_, ?_, q3⟩)
      · rw [q1, eg7]
        by_cases c : okD z A ∧ rentZ z A.toNat ≤ T
        · rw [if_pos c, if_pos (show Bb = 0 ∧ okD z A ∧ rentZ z A.toNat ≤ T from ⟨cb, c⟩)]
          rfl
        · rw [if_neg c, if_neg (show ¬ (Bb = 0 ∧ okD z A ∧ rentZ z A.toNat ≤ T) from fun r => c r.2)]
          rfl
      · have e2 : (grpZ z 7 A Bb C Dd T).2 = z := by
          rw [eg7]
          split <;> rfl
        rw [e2]; exact q2
    · rw [if_neg cb]
      refine MR.no R rfl ?_
      unfold grpZ
      rw [if_neg (by decide), if_neg (by decide), if_neg (by decide), if_neg (by decide), if_neg (by decide), if_neg (by decide), if_pos rfl, if_neg (fun r => cb r.1)]
  · rw [if_neg (by decide), if_neg (by decide), if_neg (by decide), if_neg (by decide), if_neg (by decide), if_neg (by decide), if_neg (by decide), if_pos (by decide), eT8, lI10, tLe (by omega) (by omega) (by omega) (by omega)]
    by_cases cb : Bb = 0 ∧ C = 0
    · obtain ⟨h', q1, q2, q3⟩ := m_isFed R F (d := A) (t := Dd) ⟨by omega, by omega⟩ ⟨by omega, by omega⟩
      rw [if_neg (show ¬ (10 ≤ 100 * Bb + (10 * C + Dd)) by omega)]
      have eg8 : grpZ z 8 A Bb C Dd (10 * C + Dd) = if (Bb = 0 ∧ C = 0) ∧ okD z A ∧ Dd ≤ (shareZ z).2.1 A.toNat then (true, z) else (false, z) := by
        unfold grpZ
        rw [if_neg (by decide), if_neg (by decide), if_neg (by decide), if_neg (by decide), if_neg (by decide), if_neg (by decide), if_neg (by decide), if_pos rfl]
      refine (MR.c (D := grpZ z 8 A Bb C Dd (10 * C + Dd)) ⟨h', ?_, ?_, q3⟩)
      · rw [q1, eg8]
        by_cases c : okD z A ∧ Dd ≤ (shareZ z).2.1 A.toNat
        · rw [if_pos c, if_pos (show (Bb = 0 ∧ C = 0) ∧ okD z A ∧ Dd ≤ (shareZ z).2.1 A.toNat from ⟨cb, c⟩)]
          rfl
        · rw [if_neg c, if_neg (show ¬ ((Bb = 0 ∧ C = 0) ∧ okD z A ∧ Dd ≤ (shareZ z).2.1 A.toNat) from fun r => c r.2)]
          rfl
      · have e2 : (grpZ z 8 A Bb C Dd (10 * C + Dd)).2 = z := by
          rw [eg8]
          split <;> rfl
        rw [e2]; exact q2
    · rw [if_pos (show 10 ≤ 100 * Bb + (10 * C + Dd) by omega)]
      refine MR.no R rfl ?_
      unfold grpZ
      rw [if_neg (by decide), if_neg (by decide), if_neg (by decide), if_neg (by decide), if_neg (by decide), if_neg (by decide), if_neg (by decide), if_pos rfl, if_neg (fun r => cb r.1)]
  · rw [if_neg (by decide), if_neg (by decide), if_neg (by decide), if_neg (by decide), if_neg (by decide), if_neg (by decide), if_neg (by decide), if_neg (by decide), if_pos (by decide), zB]
    by_cases cb : Bb = 0
    · rw [if_pos cb, fA2, m_isWall R F ⟨by omega, by omega⟩, Option.bind_some]
      by_cases cd : 0 ≤ A ∧ A < z 184
      · obtain ⟨d, hd, rfl⟩ : ∃ d : Nat, (d : Int) < z 184 ∧ A = d := ⟨A.toNat, by omega, by omega⟩
        have hb := fre_b z F (w := d) (by omega)
        have et : ((d : Nat) : Int).toNat = d := by omega
        rw [if_pos cd, if_neg (by decide), m_freeAt R F hd, Option.bind_some, tLt (by omega) (by omega) (by omega) (by omega)]
        by_cases q : freZ z d < T
        · rw [if_pos q]
          refine MR.no R rfl ?_
          unfold grpZ
          rw [if_neg (by decide), if_neg (by decide), if_neg (by decide), if_neg (by decide), if_neg (by decide), if_neg (by decide), if_neg (by decide), if_neg (by decide), if_pos rfl, if_neg (fun r => by have := r.2.2; rw [et] at this; omega)]
        · rw [if_neg q]
          refine MR.yes R rfl ?_ (fun _ _ _ _ _ => rfl)
          unfold grpZ
          rw [if_neg (by decide), if_neg (by decide), if_neg (by decide), if_neg (by decide), if_neg (by decide), if_neg (by decide), if_neg (by decide), if_neg (by decide), if_pos rfl, if_pos ⟨cb, cd, by rw [et]; omega⟩]
      · rw [if_neg cd, if_pos rfl]
        refine MR.no R rfl ?_
        unfold grpZ
        rw [if_neg (by decide), if_neg (by decide), if_neg (by decide), if_neg (by decide), if_neg (by decide), if_neg (by decide), if_neg (by decide), if_neg (by decide), if_pos rfl, if_neg (fun r => cd r.2.1)]
    · rw [if_neg cb]
      refine MR.no R rfl ?_
      unfold grpZ
      rw [if_neg (by decide), if_neg (by decide), if_neg (by decide), if_neg (by decide), if_neg (by decide), if_neg (by decide), if_neg (by decide), if_neg (by decide), if_pos rfl, if_neg (fun r => cb r.1)]
end MCMD
