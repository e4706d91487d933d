/-! DIALLING, on both sides -/
section XRO
variable {D : Int} {E J : Nat → Prop} {v : vS} {F : xF} {o c : Nat}
theorem SX.rn (S : SX D E J v F) (ho : o < 3) : ∃ N, RN F o N ∧ rcn v (o + 1) = N ∧ (∀ k, k < N → RTE v F (v.2.1 18 (o + 1) k) (12 * o + k)) ∧ ∀ k k', k < N → k' < N → k ≠ k' → ¬ ovl (F 30 (12 * o + k)).toInt (F 30 (12 * o + k')).toInt := by
  obtain ⟨N, n1, n2, n3, n4, n5⟩ := S.rt.1 o ho
  refine ⟨N, ⟨n1, n3, fun k hk => (n4 k hk).2.2.1⟩, ?_, n4, n5⟩
  show (v.1 3 7 (o + 1)).toInt.toNat = N
  rw [n2, (ofN (n := N) (by omega)).1]
  rfl
theorem rof_e {g : Nat → Int32} {q N : Nat} {X r : Int32} (hR : rcn v (o + 1) = N) (hT : ∀ k, k < N → RTE v F (v.2.1 18 (o + 1) k) (12 * o + k)) (hO : ∀ k k', k < N → k' < N → k ≠ k' → ¬ ovl (F 30 (12 * o + k)).toInt (F 30 (12 * o + k')).toInt) (hq : q ≤ 5) (hd : ∀ i, i < q → 0 ≤ (g i).toInt ∧ (g i).toInt ≤ 9) (hX : X.toInt = dvl g q) (h : (r = -1 ∧ ∀ k, k < N → ¬ FTx g q (F 30 (12 * o + k)).toInt) ∨ ∃ k, k < N ∧ r = Int32.ofNat (12 * o + k) ∧ FTx g q (F 30 (12 * o + k)).toInt) : (r = -1 ∧ rof v (o + 1) X = none ∧ ∀ k, k < N → ¬ FTx g q (F 30 (12 * o + k)).toInt) ∨ ∃ k, k < N ∧ r = Int32.ofNat (12 * o + k) ∧ rof v (o + 1) X = some k ∧ FTx g q (F 30 (12 * o + k)).toInt := by
  have key : ∀ k, k < N → (bwB X.toInt (v.1 4 0 (v.2.1 18 (o + 1) k)).toInt = true ↔ FTx g q (F 30 (12 * o + k)).toInt) := fun k hk => by
    rw [bwB_t, (hT k hk).2.1, hX]
    exact bw_ft hq hd (hT k hk).2.2.1
  unfold rof
  rw [hR]
  cases e : fnd (fun k => bwB X.toInt (v.1 4 0 (v.2.1 18 (o + 1) k)).toInt) 0 N with
  | none =>
    rcases h with ⟨h1, h2⟩ | ⟨k, h1, h2, h3⟩
    · exact Or.inl ⟨h1, rfl, h2⟩
    · have := fnd_none e k (Nat.zero_le _) (by omega)
      rw [(key k h1).mpr h3] at this
      cases this
  | some k' =>
    obtain ⟨-, a2, a3, -⟩ := fnd_some e
    have f' := (key k' (by omega)).mp a3
    rcases h with ⟨h1, h2⟩ | ⟨k, h1, h2, h3⟩
    · exact absurd f' (h2 k' (by omega))
    · have : k' = k := Classical.byContradiction (fun z => hO k' k (by omega) h1 z (ft_ovl hq hd f' h3))
      rw [this]
      exact Or.inr ⟨k, h1, h2, rfl, h3⟩
theorem cbp_e {g : Nat → Int32} {q N : Nat} {X : Int32} (hR : rcn v (o + 1) = N) (hT : ∀ k, k < N → RTE v F (v.2.1 18 (o + 1) k) (12 * o + k)) (hq1 : 1 ≤ q) (hq : q ≤ 5) (hd : ∀ i, i < q → 0 ≤ (g i).toInt ∧ (g i).toInt ≤ 9) (hX : X.toInt = dvl g q) : (cbp v (o + 1) X).isSome = true ↔ ∃ k, k < N ∧ MBp g q (F 30 (12 * o + k)).toInt := by
  have key : ∀ k, k < N → (bwB (v.1 4 0 (v.2.1 18 (o + 1) k)).toInt X.toInt = true ↔ MBp g q (F 30 (12 * o + k)).toInt) := fun k hk => by
    rw [bwB_t, (hT k hk).2.1, hX]
    exact bw_mb hq1 hq hd (hT k hk).2.2.1
  unfold cbp
  rw [hR]
  cases e : fnd (fun k => bwB (v.1 4 0 (v.2.1 18 (o + 1) k)).toInt X.toInt) 0 N with
  | none =>
    refine ⟨fun z => (by cases z), fun ⟨k, h1, h2⟩ => ?_⟩
    have := fnd_none e k (Nat.zero_le _) (by omega)
    rw [(key k h1).mpr h2] at this
    cases this
  | some k' =>
    obtain ⟨-, a2, a3, -⟩ := fnd_some e
    exact ⟨fun _ => ⟨k', by omega, (key k' (by omega)).mp a3⟩, fun _ => rfl⟩
/-- digits behind the prefix -/
theorem dbh_e {g : Nat → Int32} {q m : Nat} {X : Int32} {p : Int} (hq : q ≤ 5) (hd : ∀ i, i < q → 0 ≤ (g i).toInt ∧ (g i).toInt ≤ 9) (hX : X.toInt = dvl g q) (hp : (v.1 4 0 m).toInt = p) (hx : pfx p) : (dbh v m X).toInt = (q : Int) - szN p := by
  have sb := szN_b p
  unfold dbh
  rw [hX, cdg_v hq hd, hp, cdg_p hx]
  have a := ofN (n := q) (by omega)
  have b := ofN (n := szN p) (by omega)
  rw [i32_sub (by omega) (by omega), a.1, b.1]
end XRO
section XDG
variable {D : Int} {v : vS} {F t : xF} {c q : Nat} {z : Int32}
theorem Sim.nr (S : Sim D v F) (hc : c < 72) (h : ¬ F 47 c = 0) : ∃ q, DG F c q ∧ (v.1 1 6 (c + 1)).toInt = dvl (dgs F c) q := by
  obtain ⟨q, a1, a2, a3, a4⟩ := ((S.pl hc).2.2.2.2.2.2.2.2.2.2.1 h).1
  exact ⟨q, ⟨a1, a2, a4⟩, a3⟩
/-- the reference behind a digit -/
abbrev rdig (F : xF) (c q : Nat) (z : Int32) : xF := x_u2 (x_u2 (x_u2 F 49 (8 * c + q) z) 48 c (F 48 c + 1)) 56 c 0
theorem rdig_k {K i : Nat} (h : (K ≠ 48 ∧ K ≠ 56 ∨ i ≠ c) ∧ K ≠ 49) : rdig F c q z K i = F K i := by
  unfold rdig x_u2
  rw [if_neg (by omega), if_neg (by omega), if_neg (by omega)]
theorem rdig_dg (hD : DG F c q) (h4 : q ≤ 4) (hz : 0 ≤ z.toInt ∧ z.toInt ≤ 9) : DG (rdig F c q z) c (q + 1) ∧ dvl (dgs (rdig F c q z) c) (q + 1) = dvl (dgs F c) q * 10 + z.toInt := by
  have g1 : ∀ i, i < q → rdig F c q z 49 (8 * c + i) = F 49 (8 * c + i) := fun i hi => by
    unfold rdig
    rw [u2_ne (by decide), u2_ne (by decide), u2_ni (by omega)]
  have g2 : rdig F c q z 49 (8 * c + q) = z := by
    unfold rdig
    rw [u2_ne (by decide), u2_ne (by decide), u2_eq]
  have k : ∀ t, t ≤ q → dvl (dgs (rdig F c q z) c) t = dvl (dgs F c) t := by
    intro t
    induction t with
    | zero => intro _; rfl
    | succ t ih =>
      intro ht
      show dvl (dgs (rdig F c q z) c) t * 10 + (rdig F c q z 49 (8 * c + t)).toInt = dvl (dgs F c) t * 10 + (F 49 (8 * c + t)).toInt
      rw [ih (by omega), g1 t (by omega)]
  refine ⟨⟨by omega, ?_, fun i hi => ?_⟩, ?_⟩
  · unfold rdig
    rw [u2_ne (by decide), u2_eq, hD.2.1]
    exact ofN_add q 1
  · by_cases e : i = q
    · rw [e, g2]; exact hz
    · rw [g1 i (by omega)]; exact hD.2.2 i (by omega)
  · show dvl (dgs (rdig F c q z) c) q * 10 + (rdig F c q z 49 (8 * c + q)).toInt = _
    rw [k q (Nat.le_refl _), g2]
theorem num_e (hD : DG F c q) (h4 : q ≤ 4) (hz : 0 ≤ z.toInt ∧ z.toInt ≤ 9) (hx : (v.1 1 6 (c + 1)).toInt = dvl (dgs F c) q) : (v.1 1 6 (c + 1) * 10 + z).toInt = dvl (dgs (rdig F c q z) c) (q + 1) := by
  have b := dvl_b (g := dgs F c) (q := q) (by omega) hD.2.2
  have b2 : (10 : Int) ^ q ≤ 10000 := by
    have := pow_mono (a := q) (b := 4) h4
    have h : (10 : Int) ^ 4 = 10000 := by decide
    omega
  have b3 := pw10 q
  have e1 : (v.1 1 6 (c + 1) * 10).toInt = (v.1 1 6 (c + 1)).toInt * 10 := i32_mul (by show _ ≤ _ * (10 : Int); omega) (by show _ * (10 : Int) < _; omega)
  rw [(rdig_dg hD h4 hz).2, ← hx, i32_add (by rw [e1]; omega) (by rw [e1]; omega), e1]
theorem SX.dig (S : Sim D v F) (_hc : c < 72) (hq : q < 8) : SX D (fun y => y = c) (fun _ => False) (vd0 v (c + 1) z) (rdig F c q z) := ((((((S.1.opn (E' := fun y => y = c) (fun _ z => z.elim)).vi1 (c := c) rfl (k := 6) (x := v.1 1 6 (c + 1) * 10 + z)).vi1 (c := c) rfl (k := 12) (x := 0)).vi2 (c := c) rfl (k := 3) (x := 0)).g (c := c) rfl (i := q) (x := z) hq).fj (c := c) rfl (K := 48) (x := F 48 c + 1) rfl ⟨by decide, by decide, by decide⟩).fj (c := c) rfl (K := 56) (x := 0) rfl ⟨by decide, by decide, by decide⟩
theorem Sim.dig (S : Sim D v F) (hc : c < 72) (h47 : F 47 c = 1) (hD : DG F c q) (h4 : q ≤ 3) (hz : 0 ≤ z.toInt ∧ z.toInt ≤ 9) (hx : (v.1 1 6 (c + 1)).toInt = dvl (dgs F c) q) : Sim D (vd0 v (c + 1) z) (rdig F c q z) := by
  obtain ⟨p1, p2, p3, p4, p5, p6, p7, p8, p9, p10, p11, p12, p13, p14, p15, p16, p17, p18⟩ := S.pl hc
  have n0 : ¬ F 47 c = 0 := by rw [h47]; decide
  obtain ⟨⟨d1, d2, d3⟩, -⟩ := rdig_dg hD (by omega) hz
  have nx := num_e (v := v) hD (by omega) hz hx
  have oq := ofN (n := q + 1) (by omega)
  have k56 : rdig F c q z 56 c = 0 := u2_eq
  have k : ∀ K i, (K ≠ 48 ∧ K ≠ 56 ∨ i ≠ c) ∧ K ≠ 49 → rdig F c q z K i = F K i := fun K i h => rdig_k h
  have S1 := SX.dig (z := z) (q := q) S hc (by omega)
  generalize rdig F c q z = G at d1 d2 d3 nx k56 k S1 ⊢
  refine ⟨S1.close (fun y hy e _ => ?_), fun c' l h1 h2 => by rw [k 57 c' (by omega), k 28 l (by omega)]; exact S.2.1 c' l h1 h2, fun c' h1 h5 h6 => ?_⟩
  · subst e
    have h23 : F 23 y = 0 := Classical.byContradiction (fun w => n0 (p9 w).1)
    unfold PLr tnF
    rw [k56, k 47 y (by omega), k 22 y (by omega), k 23 y (by omega), k 24 y (by omega), k 25 y (by omega), k 28 y (by omega), k 57 y (by omega), k 60 y (by omega), k 55 y (by omega), k 52 y (by omega), k 61 y (by omega), k 50 y (by omega), k 51 y (by omega), k 53 y (by omega), k 54 y (by omega), k 58 y (by omega), k 29 _ (by omega)]
    refine ⟨p1, ⟨p2.1, p2.2.1, ?_⟩, p3, p4, p5, ⟨p6.1, p6.2.1, ?_, p6.2.2.2⟩, p7, p8, p9, p10, fun w => ⟨⟨q + 1, d1, d2, ?_, d3⟩, (p11 w).2⟩, p12, fun w => ⟨(p13 w).1, (p13 w).2.1, by decide, ?_, (p13 w).2.2.2.2⟩, p14, p15, p16, p17, p18⟩
    · rw [d2, if_neg, if_neg (fun w => absurd (h47.symm.trans w) (by decide)), h23]
      · exact if_pos ⟨rfl, rfl, rfl⟩
      · rintro ⟨-, w⟩
        have := congrArg Int32.toInt w
        rw [oq.1] at this
        have : ((q + 1 : Nat) : Int) = 0 := this
        omega
    · exact if_pos ⟨rfl, rfl, rfl⟩
    · rw [vd0_6]; exact nx
    · rw [d2, oq.1]; omega
  · rw [k 47 c' (by omega)] at h5
    rw [k 57 c' (by omega), k 22 _ (by omega)] at h6
    rw [k 62 c' (by omega)]
    exact S.2.2 c' h1 h5 h6
theorem Sim.digF (S : Sim D v F) (hc : c < 72) (h47 : F 47 c = 1) (hq : q < 8) {x : Int32} (R : EN (rdig F c q z) c (v.2.2.1 (ri c)) (fun o => v.2.2.1 (30 * o + 2)) t) : Sim D (vend (vd0 v (c + 1) z) (c + 1) x) (x_u2 (x_u2 t 57 c (-1)) 23 c x) := by
  have p12 := (S.pl hc).2.2.2.2.2.2.2.2.2.2.2.1 (by rw [h47]; decide) (by rw [h47]; decide)
  obtain ⟨q1, q2, q3, q4, q5, q6, q7, q8⟩ := S.pe hc (by rw [h47]; decide)
  have k : ∀ K i, (K ≠ 48 ∧ K ≠ 56 ∨ i ≠ c) ∧ K ≠ 49 → rdig F c q z K i = F K i := fun K i h => rdig_k h
  have := (SX.dig (z := z) S hc hq).over (x := x) hc ⟨by rw [k 57 c (by omega)]; exact q1, by rw [k 22 c (by omega)]; exact q2, by rw [k 25 c (by omega)]; exact q3, ?_, by rw [k 23 c (by omega)]; exact q5, by rw [k 24 c (by omega)]; exact q6, by rw [k 28 c (by omega)]; exact q7, q8⟩ (fun c' l h1 h2 => by rw [k 57 c' (by omega), k 28 l (by omega)]; exact S.2.1 c' l h1 h2) (fun c' h1 _ h5 h6 => ?_) R
  · rw [rover, if_neg (c := 0 ≤ (rdig F c q z 57 c).toInt ∧ ¬ rdig F c q z 22 (rdig F c q z 57 c).toNatClampNeg = 0) (fun w => absurd w.1 (by rw [k 57 c (by omega)]; exact Int.not_le.mpr p12.2.1)), if_neg (by rw [k 22 c (by omega)]; exact p12.1)] at this
    exact this
  · rw [k 55 c (by omega), k 52 c (by omega), k 61 c (by omega), show rdig F c q z 56 c = 0 from u2_eq]
    exact ⟨q4.1, q4.2.1, if_pos ⟨rfl, rfl, rfl⟩, q4.2.2.2⟩
  · rw [k 47 c' (by omega)] at h5
    rw [k 57 c' (by omega), k 22 _ (by omega)] at h6
    rw [k 62 c' (by omega)]
    exact S.2.2 c' h1 h5 h6
theorem Sim.digJ {k : Nat} (S : Sim D v F) (hc : c < 72) (h47 : F 47 c = 1) (hD : DG F c q) (h4 : q ≤ 4) (hz : 0 ≤ z.toInt ∧ z.toInt ≤ 9) (hx : (v.1 1 6 (c + 1)).toInt = dvl (dgs F c) q) (hk : (k : Int) < (F 29 (c / 24)).toInt) (h12 : k < 12) (hDD : (F 8 1).toInt < D) : Sim D (vjob (vpr (vd0 v (c + 1) z) 1 4 (c + 1) (v.2.1 18 (c / 24 + 1) k)) (c / 24 + 1) (c + 1)) (raddj (x_u2 (rdig F c q z) 58 c (Int32.ofNat (12 * (c / 24) + k))) c (c / 24) (v.2.2.1 (30 * (c / 24) + 2)).length) := by
  have ho : c / 24 < 3 := by omega
  have n0 : ¬ F 47 c = 0 := by rw [h47]; decide
  obtain ⟨r, r1, r2, r3, r4, r5, r6, r7⟩ := (S.pl hc).reg (S.1.hl hc) S.1.tr.1 (by rw [h47]; decide) (by rw [h47]; decide)
  obtain ⟨p1, p2, p3, p4, p5, p6, p7, p8, p9, p10, p11, p12, p13, p14, p15, p16, p17, p18⟩ := S.pl hc
  have q13 := p13 h47
  have q12 := p12 (by rw [h47]; decide) (by rw [h47]; decide)
  have q11 := p11 n0
  clear p12 p15 p17
  have e50 := q13.1
  have oo := ofN (n := c / 24) (by omega)
  rw [e50, oo.2] at r7
  obtain ⟨⟨d1, d2, d3⟩, -⟩ := rdig_dg hD h4 hz
  have nx := num_e (v := v) hD h4 hz hx
  have kr : ∀ K i, (K ≠ 48 ∧ K ≠ 56 ∨ i ≠ c) ∧ K ≠ 49 → rdig F c q z K i = F K i := fun K i h => rdig_k h
  have k56 : rdig F c q z 56 c = 0 := u2_eq
  have he : c = c := rfl
  have S0 := (SX.dig (z := z) (q := q) S hc (by omega)).jn (J' := fun y => y = c) (fun y hy w _ => by subst w; exact S.nj hy (by rw [h47]; decide))
  generalize rdig F c q z = G at d1 d2 d3 nx k56 kr S0 ⊢
  have S1 := ((((((S0.vr1 he (k := 4) (y := v.2.1 18 (c / 24 + 1) k)).f he he (K := 58) (x := Int32.ofNat (12 * (c / 24) + k)) rfl).vr1 he (k := 2) (y := 3)).f he he (K := 47) (x := 2) rfl).f he he (K := 50) (x := Int32.ofNat (c / 24)) rfl).f he he (K := 59) (x := G 8 1) rfl)
  have km : ∀ K i, (K ≠ 58 ∧ K ≠ 47 ∧ K ≠ 50 ∧ K ≠ 59) ∨ i ≠ c → x_u2 (x_u2 (x_u2 (x_u2 G 58 c (Int32.ofNat (12 * (c / 24) + k))) 47 c 2) 50 c (Int32.ofNat (c / 24))) 59 c (G 8 1) K i = G K i := by
    intro K i h
    unfold x_u2
    rw [if_neg (by omega), if_neg (by omega), if_neg (by omega), if_neg (by omega)]
  have m47 : x_u2 (x_u2 (x_u2 (x_u2 G 58 c (Int32.ofNat (12 * (c / 24) + k))) 47 c 2) 50 c (Int32.ofNat (c / 24))) 59 c (G 8 1) 47 c = 2 := by rw [u2_ne (by decide), u2_ne (by decide), u2_eq]
  have m50 : x_u2 (x_u2 (x_u2 (x_u2 G 58 c (Int32.ofNat (12 * (c / 24) + k))) 47 c 2) 50 c (Int32.ofNat (c / 24))) 59 c (G 8 1) 50 c = Int32.ofNat (c / 24) := by rw [u2_ne (by decide), u2_eq]
  have m58 : x_u2 (x_u2 (x_u2 (x_u2 G 58 c (Int32.ofNat (12 * (c / 24) + k))) 47 c 2) 50 c (Int32.ofNat (c / 24))) 59 c (G 8 1) 58 c = Int32.ofNat (12 * (c / 24) + k) := by rw [u2_ne (by decide), u2_ne (by decide), u2_ne (by decide), u2_eq]
  have m59 : x_u2 (x_u2 (x_u2 (x_u2 G 58 c (Int32.ofNat (12 * (c / 24) + k))) 47 c 2) 50 c (Int32.ofNat (c / 24))) 59 c (G 8 1) 59 c = G 8 1 := u2_eq
  have e8 : G 8 1 = F 8 1 := kr 8 1 (by omega)
  have ev : vjob (vpr (vd0 v (c + 1) z) 1 4 (c + 1) (v.2.1 18 (c / 24 + 1) k)) (c / 24 + 1) (c + 1) = vrw (vpr (vpr (vd0 v (c + 1) z) 1 4 (c + 1) (v.2.1 18 (c / 24 + 1) k)) 1 2 (c + 1) 3) (30 * (c / 24) + 2) (radd (cap (30 * (c / 24) + 2)) ((vpr (vpr (vd0 v (c + 1) z) 1 4 (c + 1) (v.2.1 18 (c / 24 + 1) k)) 1 2 (c + 1) 3).2.2.1 (30 * (c / 24) + 2)) (Int32.ofNat c)) := rfl
  have eF : raddj (x_u2 G 58 c (Int32.ofNat (12 * (c / 24) + k))) c (c / 24) (v.2.2.1 (30 * (c / 24) + 2)).length = x_u2 (x_u2 (x_u2 (x_u2 (x_u2 (x_u2 G 58 c (Int32.ofNat (12 * (c / 24) + k))) 47 c 2) 50 c (Int32.ofNat (c / 24))) 59 c (G 8 1)) 46 (72 * (c / 24) + (v.2.2.1 (30 * (c / 24) + 2)).length) (Int32.ofNat c)) 45 (c / 24) (Int32.ofNat ((v.2.2.1 (30 * (c / 24) + 2)).length + 1)) := rfl
  rw [ev, eF]
  generalize x_u2 (x_u2 (x_u2 (x_u2 G 58 c (Int32.ofNat (12 * (c / 24) + k))) 47 c 2) 50 c (Int32.ofNat (c / 24))) 59 c (G 8 1) = H at S1 km m47 m50 m58 m59 ⊢
  have kH : ∀ K i, (K ≠ 58 ∧ K ≠ 47 ∧ K ≠ 50 ∧ K ≠ 59 ∧ K ≠ 48 ∧ K ≠ 56 ∨ i ≠ c) ∧ K ≠ 49 → H K i = F K i := fun K i h => (km K i (by omega)).trans (kr K i (by omega))
  have rm := S1.room hc rfl (fun _ w => w) ho r1 (by rw [kH 38 _ (by omega)]; exact r7)
  have h23 : F 23 c = 0 := Classical.byContradiction (fun w => n0 (p9 w).1)
  have PLc : PLr (vpr (vpr (vd0 v (c + 1) z) 1 4 (c + 1) (v.2.1 18 (c / 24 + 1) k)) 1 2 (c + 1) 3) H c := by
    unfold PLr tnF
    rw [m47, m50, m58, show H 48 c = G 48 c from km 48 c (by omega), show H 56 c = 0 from (km 56 c (by omega)).trans k56, kH 22 c (by omega), kH 23 c (by omega), kH 24 c (by omega), kH 25 c (by omega), kH 28 c (by omega), kH 57 c (by omega), kH 60 c (by omega), kH 55 c (by omega), kH 52 c (by omega), kH 61 c (by omega), kH 51 c (by omega), kH 53 c (by omega), kH 54 c (by omega), kH 29 _ (by omega)]
    refine ⟨⟨?_, by decide, by decide⟩, ⟨p2.1, p2.2.1, ?_⟩, ⟨?_, p3.2⟩, p4, ?_, ⟨p6.1, p6.2.1, ?_, p6.2.2.2⟩, fun w => absurd w (by decide), ⟨p8.1, fun w => absurd (p8.2 w).1 n0⟩, fun w => absurd h23 w, fun w => absurd (p10 w) n0, fun _ => ⟨?_, ?_, q11.2.2.1, q11.2.2.2.1, q11.2.2.2.2.1, ?_⟩, fun _ _ => ⟨q12.1, q12.2.1, q12.2.2.1, ?_⟩, fun w => absurd w (by decide), fun _ => ⟨?_, fun _ => q13.2.2.2.2⟩, fun w => absurd w (by decide), fun w => absurd w (by decide), fun _ => ⟨k, hk, rfl, ?_⟩, fun _ _ => p18 (by rw [h47]; decide) (by rw [h47]; decide)⟩
    · show ((x_u3 _ 1 2 (c + 1) 3 1 2 (c + 1) : Nat) : Int) = _
      rw [show x_u3 (vpr (vd0 v (c + 1) z) 1 4 (c + 1) (v.2.1 18 (c / 24 + 1) k)).2.1 1 2 (c + 1) 3 1 2 (c + 1) = 3 from if_pos ⟨rfl, rfl, rfl⟩]
      rfl
    · rw [if_neg (fun w => absurd w.1 (by decide)), if_neg (by decide), h23]
      exact if_pos ⟨rfl, rfl, rfl⟩
    · rw [if_neg (by decide)]
      have := p3.1
      rw [if_neg n0] at this
      exact this
    · rw [if_neg (by decide)]
      show v.1 1 5 (c + 1) = 0
      rw [p5, h47, if_neg (by decide)]
    · exact if_pos ⟨rfl, rfl, rfl⟩
    · refine NR.cg (g := dgs G c) ⟨q + 1, d1, d2, ?_, d3⟩ (fun i _ => km 49 _ (by omega))
      show ((vd0 v (c + 1) z).1 1 6 (c + 1)).toInt = _
      rw [vd0_6]; exact nx
    · rw [oo.1]; omega
    · rw [oo.2]; exact q11.2.2.2.2.1
    · refine ⟨r, r1, r2, ?_, r4⟩
      rw [oo.2]
      have := r3
      rw [e50, oo.2] at this
      exact this
    · exact q13.2.1.trans e50
    · show x_u3 (vd0 v (c + 1) z).2.1 1 4 (c + 1) (v.2.1 18 (c / 24 + 1) k) 1 4 (c + 1) = _
      exact if_pos ⟨rfl, rfl, rfl⟩
  have S5 := (S1.close (E' := fun _ => False) (fun y hy e _ => by subst e; exact PLc)).jw (J' := fun _ => False) (fun _ w => w.elim)
  have S6 := S5.addj hc (fun w => w) ho rm.1 rm.2 m47 m50 (by rw [m59, e8]; exact hDD)
  refine ⟨S6, fun c' l h1 h2 => ?_, fun c' h1 h5 h6 => ?_⟩
  · rw [u2_ne (by decide), u2_ne (by decide), u2_ne (by decide), u2_ne (by decide), kH 57 c' (by omega), kH 28 l (by omega)]
    exact S.2.1 c' l h1 h2
  · rw [u2_ne (by decide), u2_ne (by decide)] at h5
    have e57 : ∀ X Y : Int32, x_u2 (x_u2 H 46 (72 * (c / 24) + (v.2.2.1 (30 * (c / 24) + 2)).length) X) 45 (c / 24) Y 57 c' = F 57 c' := fun X Y => by rw [u2_ne (by decide), u2_ne (by decide), kH 57 c' (by omega)]
    rw [e57, u2_ne (by decide), u2_ne (by decide), kH 22 _ (by omega)] at h6
    rw [u2_ne (by decide), u2_ne (by decide), kH 62 c' (by omega)]
    by_cases e : c' = c
    · rw [e, m47] at h5; exact absurd h5 (by decide)
    · rw [kH 47 c' (by omega)] at h5
      exact S.2.2 c' h1 h5 h6
end XDG
