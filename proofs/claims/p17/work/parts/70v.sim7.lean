theorem PLr.free {v : vS} {F : xF} {c : Nat} (h47 : F 47 c = 0) (st : v.2.1 1 2 (c + 1) = 1) (li : v.1 2 2 (c + 1) = F 22 c) (me : v.1 2 4 (c + 1) = F 25 c) (so : v.1 2 3 (c + 1) = F 23 c) (cr : (v.2.1 2 5 (c + 1) : Int) = (F 28 c).toInt + 1 ∧ -1 ≤ (F 28 c).toInt ∧ (F 28 c).toInt < 72) (cd : v.2.1 1 3 (c + 1) = 0 ∧ F 57 c = -1) (hd : v.1 1 5 (c + 1) = 0) (eqs : v.1 1 8 (c + 1) = F 55 c ∧ v.1 1 11 (c + 1) = F 52 c ∧ v.1 1 12 (c + 1) = F 56 c ∧ v.1 1 13 (c + 1) = F 61 c) (row : (v.2.2.1 (ri c)).length = 0) (wt : -1 ≤ (F 24 c).toInt ∧ (0 ≤ (F 24 c).toInt → (F 28 c).toInt < 0 ∧ ¬ F 22 c = 0 ∧ F 23 c = 0)) (tn : ¬ F 23 c = 0 → (F 28 c).toInt < 0 ∧ ¬ F 22 c = 0) : PLr v F c := by
  have z0 : (F 47 c).toInt = 0 := by rw [h47]; rfl
  have m1 : (F 57 c).toInt = -1 := by rw [cd.2]; rfl
  refine ⟨⟨by rw [st, z0]; rfl, by omega, by omega⟩, ⟨li, me, ?_⟩, ⟨by rw [if_pos h47]; exact cr.1, cr.2⟩, ⟨by rw [cd.1, m1]; rfl, by omega⟩, ?_, eqs, fun _ => ⟨by omega, row⟩, ⟨wt.1, fun z => ⟨h47, wt.2 z⟩⟩, fun z => ⟨h47, tn z⟩, fun _ => h47, fun z => absurd h47 z, fun z => absurd z (by omega), fun z => ?_, fun z => ?_, fun z => ?_, fun z => absurd z (by omega), fun z => absurd z (by omega), fun z => absurd z (by omega)⟩
  · unfold tnF
    rw [h47, if_neg (fun z => absurd z.1 (by decide)), if_neg (by decide)]
    exact so
  · rw [h47, if_neg (by decide)]
    exact hd
  · rw [h47] at z; exact absurd z (by decide)
  · rw [h47] at z; exact absurd z (by decide)
  · rw [h47] at z; exact absurd z (by decide)
theorem SX.ite {D : Int} {E J : Nat → Prop} {v : vS} {G G' : xF} {p : Prop} [Decidable p] (a : p → SX D E J v G) (b : ¬ p → SX D E J v G') : SX D E J v (if p then G else G') := by
  by_cases h : p
  · rw [if_pos h]; exact a h
  · rw [if_neg h]; exact b h
section XOV
variable {D : Int} {v : vS} {F t : xF} {c : Nat} {x : Int32}
theorem SX.over (S : SX D (fun y => y = c) (fun _ => False) v F) (hc : c < 72) (pe : PE v F c) (hcb : sCB F) (hhg : ∀ c', c' < 72 → c' ≠ c → F 47 c' = 5 → F 22 (F 57 c').toNatClampNeg = 0 → v.1 1 14 (c' + 1) = F 62 c' ∧ 0 ≤ (F 62 c').toInt ∧ (F 62 c').toInt < 12) (R : EN F c (v.2.2.1 (ri c)) (fun o => v.2.2.1 (30 * o + 2)) t) : Sim D (vend v (c + 1) x) (rover F t c x) := by
  obtain ⟨⟨q1, q2⟩, q3, q4, q5, q6, q7, q8, -⟩ := id pe
  have r0 : (vend1 v (c + 1)).2.2.1 (ri c) = [] := by
    show x_u1 (vend0 v (c + 1)).2.2.1 _ _ (ri c) = []
    obtain ⟨-, -, -, -, -, -, -, o, ho, e7, -⟩ := id pe
    have : (vend0 v (c + 1)).1 1 7 (c + 1) = Int32.ofNat o := by
      show (vclr v (v.2.2.1 (ri c))).1 1 7 (c + 1) = _
      rw [vclr_i.1]; exact e7
    rw [this, (ofN (n := o) (by omega)).2, u1_ne (fun z => ri_no (o := o) (k := 2) hc (by omega) z.symm)]
    exact u1_eq
  have at_ := R.at
  have kk : ∀ {K i : Nat}, (K < 36 ∧ K ≠ 28 ∨ (41 < K ∧ K < 63 ∧ K ≠ 45 ∧ K ≠ 46 ∧ K ≠ 47) ∨ 64 < K) → t K i = F K i := fun h => R.k h
  by_cases h57 : (F 57 c).toInt < 0
  · have e57 : F 57 c = -1 := i32_eq.mpr (by show _ = (-1 : Int); omega)
    have hl : v.2.1 1 3 (c + 1) = 0 := by omega
    have S3 := S.en hc pe (fun z => absurd z (by omega)) R
    rw [vend_f hl, if_pos rfl, rover, if_neg (c := 0 ≤ (F 57 c).toInt ∧ ¬ F 22 (F 57 c).toNatClampNeg = 0) (fun z => absurd z.1 (by omega))]
    have he : LN F c c := Or.inl rfl
    have onl : ∀ y, LN F c y → y = c := fun y z => z.elim id (fun w => absurd w.1 (by omega))
    have S4 := ((((((S3.vr2 he (k := 5) (y := 0)).vi2 he (k := 3) (x := if v.1 2 2 (c + 1) = 0 then 0 else x)).vr1 he (k := 3) (y := 0)).vi1 he (k := 5) (x := 0)).vr1 he (k := 2) (y := 1)).f he he (K := 57) (x := -1) rfl)
    have S5 := SX.ite (p := F 22 c = 0) (fun _ => S4) (fun _ => S4.f he he (K := 23) (x := x) rfl)
    have k23 : (if F 22 c = 0 then x_u2 t 57 c (-1) else x_u2 (x_u2 t 57 c (-1)) 23 c x) 23 c = if F 22 c = 0 then 0 else x := by
      by_cases h : F 22 c = 0
      · rw [if_pos h, if_pos h, u2_ne (by decide), kk (by omega)]; exact q6
      · rw [if_neg h, if_neg h, u2_eq]
    have kn : ∀ K i, K ≠ 23 → K ≠ 57 → (if F 22 c = 0 then x_u2 t 57 c (-1) else x_u2 (x_u2 t 57 c (-1)) 23 c x) K i = t K i := by
      intro K i a b
      by_cases h : F 22 c = 0
      · rw [if_pos h, u2_ne b]
      · rw [if_neg h, u2_ne a, u2_ne b]
    have k57 : ∀ i, (if F 22 c = 0 then x_u2 t 57 c (-1) else x_u2 (x_u2 t 57 c (-1)) 23 c x) 57 i = if i = c then -1 else F 57 i := by
      intro i
      have : (if F 22 c = 0 then x_u2 t 57 c (-1) else x_u2 (x_u2 t 57 c (-1)) 23 c x) 57 i = x_u2 t 57 c (-1) 57 i := by
        by_cases h : F 22 c = 0
        · rw [if_pos h]
        · rw [if_neg h, u2_ne (by decide)]
      rw [this]
      by_cases e : i = c
      · rw [e, u2_eq, if_pos rfl]
      · rw [u2_ni e, if_neg e, kk (by omega)]
    generalize (if F 22 c = 0 then x_u2 t 57 c (-1) else x_u2 (x_u2 t 57 c (-1)) 23 c x) = G at S5 k23 kn k57
    have g22 : ∀ i, G 22 i = F 22 i := fun i => (kn 22 i (by decide) (by decide)).trans (kk (by omega))
    have g28 : ∀ i, G 28 i = F 28 i := fun i => (kn 28 i (by decide) (by decide)).trans (at_.2.2.1 i (fun z => absurd z (by omega)))
    have g47 : G 47 c = 0 := (kn 47 c (by decide) (by decide)).trans at_.1
    have gK : ∀ K i, (K = 24 ∨ K = 25 ∨ K = 55 ∨ K = 52 ∨ K = 56 ∨ K = 61 ∨ K = 62) → G K i = F K i := fun K i h => (kn K i (by omega) (by omega)).trans (kk (by omega))
    refine ⟨(S5.close (E' := fun _ => False) (fun y hy e _ => ?_)).jw (fun _ z => z.elim), fun c' l h1 h2 => ?_, fun c' h1 h5 h6 => ?_⟩
    · have e := onl y e
      subst e
      refine PLr.free g47 (if_pos ⟨rfl, rfl, rfl⟩) ?_ ?_ ?_ ?_ ⟨?_, by rw [k57, if_pos rfl]⟩ ?_ ?_ ?_ ?_ ?_
      · rw [g22, ← q3]
        show (vend1 v (y + 1)).1 2 2 (y + 1) = _
        rw [vend1_1]
      · rw [gK 25 y (by omega), ← q4]
        show (vend1 v (y + 1)).1 2 4 (y + 1) = _
        rw [vend1_1]
      · rw [k23, ← q3]
        exact if_pos ⟨rfl, rfl, rfl⟩
      · rw [g28]
        refine ⟨?_, q8.1, by omega⟩
        show ((x_u3 (vend1 v (y + 1)).2.1 2 5 (y + 1) 0 2 5 (y + 1) : Nat) : Int) = _
        rw [show x_u3 (vend1 v (y + 1)).2.1 2 5 (y + 1) 0 2 5 (y + 1) = 0 from if_pos ⟨rfl, rfl, rfl⟩]
        omega
      · show x_u3 (vpr (vend1 v (y + 1)) 2 5 (y + 1) 0).2.1 1 3 (y + 1) 0 1 3 (y + 1) = 0
        exact if_pos ⟨rfl, rfl, rfl⟩
      · exact if_pos ⟨rfl, rfl, rfl⟩
      · rw [gK 55 y (by omega), gK 52 y (by omega), gK 56 y (by omega), gK 61 y (by omega)]
        show (vend1 v (y + 1)).1 1 8 (y + 1) = _ ∧ (vend1 v (y + 1)).1 1 11 (y + 1) = _ ∧ (vend1 v (y + 1)).1 1 12 (y + 1) = _ ∧ (vend1 v (y + 1)).1 1 13 (y + 1) = _
        rw [vend1_1]
        exact q5
      · show ((vend1 v (y + 1)).2.2.1 (ri y)).length = 0
        rw [r0]; rfl
      · rw [gK 24 y (by omega)]
        exact ⟨q7.1, fun z => absurd z (by omega)⟩
      · rw [k23, g28, g22]
        refine fun z => ⟨q8.2, fun w => z (if_pos w)⟩
    · rw [k57, g28]
      by_cases e : c' = c
      · rw [if_pos e, e, ← hcb c l (by omega) h2, e57]
      · rw [if_neg e]; exact hcb c' l h1 h2
    · by_cases e : c' = c
      · rw [e, g47] at h5; exact absurd h5 (by decide)
      · rw [kn 47 c' (by decide) (by decide), at_.2.1 c' e] at h5
        rw [k57, if_neg e, g22] at h6
        rw [gK 62 c' (by omega)]
        have := hhg c' h1 e h5 h6
        refine ⟨?_, this.2⟩
        rw [← this.1]
        show x_u3 (vend1 v (c + 1)).1 1 5 (c + 1) 0 1 14 (c' + 1) = _
        rw [u3_ne (fun _ z => absurd z (by decide)), vend1_1]
  · have hl0 := x_clamp (show 0 ≤ (F 57 c).toInt by omega)
    obtain ⟨l, hl⟩ : ∃ l, l = (F 57 c).toNatClampNeg := ⟨_, rfl⟩
    rw [← hl] at hl0
    have hl72 : l < 72 := by omega
    have f57 : F 57 c = Int32.ofNat l := by rw [hl]; exact i32_nat (by omega)
    have f28 : F 28 l = Int32.ofNat c := (hcb c l hc hl72).mp f57
    have oc := ofN (n := c) (by omega)
    have hlc : ¬ l = c := fun z => by
      rw [z] at f28
      rw [f28, oc.1] at q8
      omega
    have hcl : ¬ c = l := fun z => hlc z.symm
    obtain ⟨p1, p2, p3, p4, p5, p6, p7, p8, p9, p10, -⟩ := S.pl hl72 hlc
    have l28 : 0 ≤ (F 28 l).toInt := by rw [f28, oc.1]; omega
    have l47 : F 47 l = 0 := p10 l28
    have l23 : F 23 l = 0 := Classical.byContradiction (fun z => absurd (p9 z).2.1 (by omega))
    have l24 : (F 24 l).toInt < 0 := Int.not_le.mp (fun z => absurd (p8.2 z).2.1 (by omega))
    have hv : v.2.1 1 3 (c + 1) = l + 1 := by omega
    have S3 := S.en hc pe (fun _ => by rw [← hl]; exact l47) R
    rw [vend_f hv, if_neg (by omega)]
    have he : LN F c c := Or.inl rfl
    have hel : LN F c l := Or.inr ⟨by omega, hl⟩
    have onl : ∀ y, LN F c y → y = c ∨ y = l := fun y z => z.elim Or.inl (fun w => Or.inr (by rw [w.2, hl]))
    have S4 := ((((((((S3.vr2 he (k := 5) (y := 0)).vi2 he (k := 3) (x := if v.1 2 2 (c + 1) = 0 then 0 else x)).vr2 hel (k := 5) (y := 0)).vi2 hel (k := 3) (x := if v.1 2 2 (l + 1) = 0 then 0 else 3)).vr1 he (k := 3) (y := 0)).vi1 he (k := 5) (x := 0)).vr1 he (k := 2) (y := 1)).f he he (K := 57) (x := -1) rfl)
    have ero : rover F t c x = if ¬ F 22 l = 0 then x_u2 (if F 22 c = 0 then x_u2 t 57 c (-1) else x_u2 (x_u2 t 57 c (-1)) 23 c x) 23 l 3 else if F 22 c = 0 then x_u2 t 57 c (-1) else x_u2 (x_u2 t 57 c (-1)) 23 c x := by
      unfold rover
      rw [← hl]
      by_cases h : F 22 l = 0
      · rw [if_neg (c := 0 ≤ (F 57 c).toInt ∧ ¬ F 22 l = 0) (fun z => z.2 h), if_neg (c := ¬ F 22 l = 0) (fun z => z h)]
      · rw [if_pos (c := 0 ≤ (F 57 c).toInt ∧ ¬ F 22 l = 0) ⟨by omega, h⟩, if_pos (c := ¬ F 22 l = 0) h]
    rw [ero]
    have S5 := SX.ite (p := F 22 c = 0) (fun _ => S4) (fun _ => S4.f he he (K := 23) (x := x) rfl)
    have k23 : (if F 22 c = 0 then x_u2 t 57 c (-1) else x_u2 (x_u2 t 57 c (-1)) 23 c x) 23 c = if F 22 c = 0 then 0 else x := by
      by_cases h : F 22 c = 0
      · rw [if_pos h, if_pos h, u2_ne (by decide), kk (by omega)]; exact q6
      · rw [if_neg h, if_neg h, u2_eq]
    have k23l : (if F 22 c = 0 then x_u2 t 57 c (-1) else x_u2 (x_u2 t 57 c (-1)) 23 c x) 23 l = 0 := by
      by_cases h : F 22 c = 0
      · rw [if_pos h, u2_ne (by decide), kk (by omega)]; exact l23
      · rw [if_neg h, u2_ni hlc, u2_ne (by decide), kk (by omega)]; exact l23
    have kn : ∀ K i, K ≠ 23 → K ≠ 57 → (if F 22 c = 0 then x_u2 t 57 c (-1) else x_u2 (x_u2 t 57 c (-1)) 23 c x) K i = t K i := by
      intro K i a b
      by_cases h : F 22 c = 0
      · rw [if_pos h, u2_ne b]
      · rw [if_neg h, u2_ne a, u2_ne b]
    have k57 : ∀ i, (if F 22 c = 0 then x_u2 t 57 c (-1) else x_u2 (x_u2 t 57 c (-1)) 23 c x) 57 i = if i = c then -1 else F 57 i := by
      intro i
      have : (if F 22 c = 0 then x_u2 t 57 c (-1) else x_u2 (x_u2 t 57 c (-1)) 23 c x) 57 i = x_u2 t 57 c (-1) 57 i := by
        by_cases h : F 22 c = 0
        · rw [if_pos h]
        · rw [if_neg h, u2_ne (by decide)]
      rw [this]
      by_cases e : i = c
      · rw [e, u2_eq, if_pos rfl]
      · rw [u2_ni e, if_neg e, kk (by omega)]
    generalize (if F 22 c = 0 then x_u2 t 57 c (-1) else x_u2 (x_u2 t 57 c (-1)) 23 c x) = G at S5 k23 k23l kn k57
    have S6 := SX.ite (p := ¬ F 22 l = 0) (fun _ => S5.f hel hel (K := 23) (x := 3) rfl) (fun _ => S5)
    have j23c : (if ¬ F 22 l = 0 then x_u2 G 23 l 3 else G) 23 c = if F 22 c = 0 then 0 else x := by
      by_cases h : F 22 l = 0
      · rw [if_neg (fun z => z h)]; exact k23
      · rw [if_pos h, u2_ni hcl]; exact k23
    have j23l : (if ¬ F 22 l = 0 then x_u2 G 23 l 3 else G) 23 l = if F 22 l = 0 then 0 else 3 := by
      by_cases h : F 22 l = 0
      · rw [if_neg (fun z => z h), if_pos h]; exact k23l
      · rw [if_pos h, u2_eq, if_neg h]
    have jn : ∀ K i, K ≠ 23 → (if ¬ F 22 l = 0 then x_u2 G 23 l 3 else G) K i = G K i := by
      intro K i a
      by_cases h : F 22 l = 0
      · rw [if_neg (fun z => z h)]
      · rw [if_pos h, u2_ne a]
    generalize (if ¬ F 22 l = 0 then x_u2 G 23 l 3 else G) = H at S6 j23c j23l jn
    have g22 : ∀ i, H 22 i = F 22 i := fun i => (jn 22 i (by decide)).trans ((kn 22 i (by decide) (by decide)).trans (kk (by omega)))
    have g28 : ∀ i, i ≠ l → H 28 i = F 28 i := fun i hi => (jn 28 i (by decide)).trans ((kn 28 i (by decide) (by decide)).trans (at_.2.2.1 i (fun _ => by rw [← hl]; exact hi)))
    have g28l : H 28 l = -1 := by
      rw [jn 28 l (by decide), kn 28 l (by decide) (by decide)]
      have := at_.2.2.2 (by omega)
      rw [← hl] at this
      exact this
    have g47 : H 47 c = 0 := (jn 47 c (by decide)).trans ((kn 47 c (by decide) (by decide)).trans at_.1)
    have g47n : ∀ i, i ≠ c → H 47 i = F 47 i := fun i hi => (jn 47 i (by decide)).trans ((kn 47 i (by decide) (by decide)).trans (at_.2.1 i hi))
    have g57 : ∀ i, H 57 i = if i = c then -1 else F 57 i := fun i => (jn 57 i (by decide)).trans (k57 i)
    have gK : ∀ K i, (K = 24 ∨ K = 25 ∨ K = 55 ∨ K = 52 ∨ K = 56 ∨ K = 61 ∨ K = 62) → H K i = F K i := fun K i h => (jn K i (by omega)).trans ((kn K i (by omega) (by omega)).trans (kk (by omega)))
    refine ⟨(S6.close (E' := fun _ => False) (fun y hy e _ => ?_)).jw (fun _ z => z.elim), fun c' l' h1 h2 => ?_, fun c' h1 h5 h6 => ?_⟩
    · rcases onl y e with e | e
      · subst e
        refine PLr.free g47 (if_pos ⟨rfl, rfl, rfl⟩) ?_ ?_ ?_ ?_ ⟨?_, by rw [g57, if_pos rfl]⟩ ?_ ?_ ?_ ?_ ?_
        · rw [g22, ← q3]
          show (vend1 v (y + 1)).1 2 2 (y + 1) = _
          rw [vend1_1]
        · rw [gK 25 y (by omega), ← q4]
          show (vend1 v (y + 1)).1 2 4 (y + 1) = _
          rw [vend1_1]
        · rw [j23c, ← q3]
          show x_u3 (x_u3 (vend1 v (y + 1)).1 2 3 (y + 1) _) 2 3 (l + 1) _ 2 3 (y + 1) = _
          rw [show x_u3 (x_u3 (vend1 v (y + 1)).1 2 3 (y + 1) (if v.1 2 2 (y + 1) = 0 then 0 else x)) 2 3 (l + 1) (if v.1 2 2 (l + 1) = 0 then 0 else 3) 2 3 (y + 1) = _ from if_neg (fun z => by omega)]
          exact if_pos ⟨rfl, rfl, rfl⟩
        · rw [g28 y hcl]
          refine ⟨?_, q8.1, by omega⟩
          show ((x_u3 (x_u3 (vend1 v (y + 1)).2.1 2 5 (y + 1) 0) 2 5 (l + 1) 0 2 5 (y + 1) : Nat) : Int) = _
          rw [show x_u3 (x_u3 (vend1 v (y + 1)).2.1 2 5 (y + 1) 0) 2 5 (l + 1) 0 2 5 (y + 1) = 0 from (if_neg (fun z => by omega)).trans (if_pos ⟨rfl, rfl, rfl⟩)]
          omega
        · show x_u3 _ 1 3 (y + 1) 0 1 3 (y + 1) = 0
          exact if_pos ⟨rfl, rfl, rfl⟩
        · exact if_pos ⟨rfl, rfl, rfl⟩
        · rw [gK 55 y (by omega), gK 52 y (by omega), gK 56 y (by omega), gK 61 y (by omega)]
          show (vend1 v (y + 1)).1 1 8 (y + 1) = _ ∧ (vend1 v (y + 1)).1 1 11 (y + 1) = _ ∧ (vend1 v (y + 1)).1 1 12 (y + 1) = _ ∧ (vend1 v (y + 1)).1 1 13 (y + 1) = _
          rw [vend1_1]
          exact q5
        · show ((vend1 v (y + 1)).2.2.1 (ri y)).length = 0
          rw [r0]; rfl
        · rw [gK 24 y (by omega)]
          exact ⟨q7.1, fun z => absurd z (by omega)⟩
        · rw [j23c, g28 y hcl, g22]
          exact fun z => ⟨q8.2, fun w => z (if_pos w)⟩
      · subst e
        have n3 : ¬ (y + 1 = c + 1) := by omega
        refine PLr.free ((g47n y hlc).trans l47) ?_ ?_ ?_ ?_ ?_ ⟨?_, ?_⟩ ?_ ?_ ?_ ?_ ?_
        · show x_u3 (x_u3 (x_u3 (x_u3 (vend1 v (c + 1)).2.1 2 5 (c + 1) 0) 2 5 (y + 1) 0) 1 3 (c + 1) 0) 1 2 (c + 1) 1 1 2 (y + 1) = 1
          rw [show x_u3 (x_u3 (x_u3 (x_u3 (vend1 v (c + 1)).2.1 2 5 (c + 1) 0) 2 5 (y + 1) 0) 1 3 (c + 1) 0) 1 2 (c + 1) 1 1 2 (y + 1) = (vend1 v (c + 1)).2.1 1 2 (y + 1) from if_neg (fun z => n3 z.2.2), vend1_r (by decide) (by decide)]
          have : (F 47 y).toInt = 0 := by rw [l47]; rfl
          omega
        · rw [g22, ← p2.1]
          show (vend1 v (c + 1)).1 2 2 (y + 1) = _
          rw [vend1_1]
        · rw [gK 25 y (by omega), ← p2.2.1]
          show (vend1 v (c + 1)).1 2 4 (y + 1) = _
          rw [vend1_1]
        · rw [j23l, ← p2.1]
          exact if_pos ⟨rfl, rfl, rfl⟩
        · rw [g28l]
          refine ⟨?_, by decide, by decide⟩
          show ((x_u3 (x_u3 (vend1 v (c + 1)).2.1 2 5 (c + 1) 0) 2 5 (y + 1) 0 2 5 (y + 1) : Nat) : Int) = _
          rw [show x_u3 (x_u3 (vend1 v (c + 1)).2.1 2 5 (c + 1) 0) 2 5 (y + 1) 0 2 5 (y + 1) = 0 from if_pos ⟨rfl, rfl, rfl⟩]
          rfl
        · show x_u3 (x_u3 (x_u3 (vend1 v (c + 1)).2.1 2 5 (c + 1) 0) 2 5 (y + 1) 0) 1 3 (c + 1) 0 1 3 (y + 1) = 0
          rw [show x_u3 (x_u3 (x_u3 (vend1 v (c + 1)).2.1 2 5 (c + 1) 0) 2 5 (y + 1) 0) 1 3 (c + 1) 0 1 3 (y + 1) = (vend1 v (c + 1)).2.1 1 3 (y + 1) from if_neg (fun z => n3 z.2.2), vend1_r (by decide) (by decide)]
          have := (p7 l47).1
          omega
        · rw [g57, if_neg hlc]
          have := (p7 l47).1
          exact i32_eq.mpr (by show _ = (-1 : Int); omega)
        · show x_u3 (vend1 v (c + 1)).1 1 5 (c + 1) 0 1 5 (y + 1) = 0
          rw [show x_u3 (vend1 v (c + 1)).1 1 5 (c + 1) 0 1 5 (y + 1) = (vend1 v (c + 1)).1 1 5 (y + 1) from if_neg (fun z => n3 z.2.2), vend1_1, p5, l47, if_neg (by decide)]
        · rw [gK 55 y (by omega), gK 52 y (by omega), gK 56 y (by omega), gK 61 y (by omega)]
          show (vend1 v (c + 1)).1 1 8 (y + 1) = _ ∧ (vend1 v (c + 1)).1 1 11 (y + 1) = _ ∧ (vend1 v (c + 1)).1 1 12 (y + 1) = _ ∧ (vend1 v (c + 1)).1 1 13 (y + 1) = _
          rw [vend1_1]
          exact p6
        · show ((vend1 v (c + 1)).2.2.1 (ri y)).length = 0
          have : (vend1 v (c + 1)).2.2.1 (ri y) = v.2.2.1 (ri y) := by
            obtain ⟨-, -, -, -, -, -, -, o, ho, e7, -⟩ := id pe
            have e8 : (vend0 v (c + 1)).1 1 7 (c + 1) = Int32.ofNat o := by
              show (vclr v (v.2.2.1 (ri c))).1 1 7 (c + 1) = _
              rw [vclr_i.1]; exact e7
            show x_u1 (vend0 v (c + 1)).2.2.1 _ _ (ri y) = _
            rw [e8, (ofN (n := o) (by omega)).2, u1_ne (fun z => ri_no (o := o) (k := 2) hl72 (by omega) z.symm)]
            show x_u1 (vclr v (v.2.2.1 (ri c))).2.2.1 (ri c) [] (ri y) = _
            rw [u1_ne (fun z => hlc (ri_inj hl72 hc z)), vclr_i.2]
          rw [this]
          exact (p7 l47).2
        · rw [gK 24 y (by omega)]
          exact ⟨p8.1, fun z => absurd z (by omega)⟩
        · rw [j23l, g28l, g22]
          exact fun z => ⟨by decide, fun w => z (if_pos w)⟩
    · rw [g57]
      have m1 : ∀ q, q ≤ 100000 → ¬ (-1 : Int32) = Int32.ofNat q := fun q hq z => by
        have := congrArg Int32.toInt z
        rw [(ofN hq).1] at this
        have : (-1 : Int) = q := this
        omega
      by_cases e : c' = c
      · rw [if_pos e]
        refine ⟨fun z => absurd z (m1 l' (by omega)), fun z => ?_⟩
        by_cases e2 : l' = l
        · rw [e2, g28l] at z; exact absurd z (m1 c' (by omega))
        · rw [g28 l' e2, e] at z
          have := (hcb c l' hc h2).mpr z
          rw [f57] at this
          exact absurd (ofN_inj (by omega) (by omega) this).symm e2
      · rw [if_neg e]
        by_cases e2 : l' = l
        · rw [e2, g28l]
          refine ⟨fun z => ?_, fun z => absurd z (m1 c' (by omega))⟩
          have := (hcb c' l h1 hl72).mp z
          rw [f28] at this
          exact absurd (ofN_inj (by omega) (by omega) this).symm e
        · rw [g28 l' e2]; exact hcb c' l' h1 h2
    · by_cases e : c' = c
      · rw [e, g47] at h5; exact absurd h5 (by decide)
      · rw [g47n c' e] at h5
        rw [g57, if_neg e, g22] at h6
        rw [gK 62 c' (by omega)]
        have := hhg c' h1 e h5 h6
        refine ⟨?_, this.2⟩
        rw [← this.1]
        show x_u3 (vend1 v (c + 1)).1 1 5 (c + 1) 0 1 14 (c' + 1) = _
        rw [u3_ne (fun _ z => absurd z (by decide)), vend1_1]
theorem Sim.over (S : Sim D v F) (hc : c < 72) (h : ¬ F 47 c = 0) (R : EN F c (v.2.2.1 (ri c)) (fun o => v.2.2.1 (30 * o + 2)) t) : Sim D (vend v (c + 1) x) (rover F t c x) := (S.1.opn (E' := fun y => y = c) (fun _ z => z.elim)).over hc (S.pe hc h) S.2.1 (fun c' h1 _ h5 h6 => S.2.2 c' h1 h5 h6) R
theorem Sim.fail (S : Sim D v F) (hc : c < 72) (h1 : 1 ≤ (F 47 c).toInt) (h3 : (F 47 c).toInt ≤ 3) (R : EN F c (v.2.2.1 (ri c)) (fun o => v.2.2.1 (30 * o + 2)) t) : Sim D (vend v (c + 1) x) (x_u2 (x_u2 t 57 c (-1)) 23 c x) := by
  have p := (S.pl hc).2.2.2.2.2.2.2.2.2.2.2.1 h1 h3
  have := S.over (x := x) hc (fun z => by rw [z] at h1; exact absurd h1 (by decide)) R
  rw [rover, if_neg (c := 0 ≤ (F 57 c).toInt ∧ ¬ F 22 (F 57 c).toNatClampNeg = 0) (fun z => absurd z.1 (by omega)), if_neg p.1] at this
  exact this
end XOV
