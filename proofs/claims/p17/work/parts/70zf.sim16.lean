/-! SENDING DIGITS, on both sides -/
theorem Sim.up {D D' : Int} {v : vS} {F : xF} (S : Sim D v F) (h : D ≤ D') : Sim D' v F := by
  obtain ⟨⟨s1, s2, s3, s4, s5⟩, s6⟩ := S
  refine ⟨⟨s1, s2, s3, fun o ho => ?_, s5⟩, s6⟩
  obtain ⟨a1, a2, a3, a4⟩ := s4 o ho
  refine ⟨a1, a2, a3, fun x hx => ?_⟩
  obtain ⟨c, b1, b2, b3, b4, b5, b6⟩ := a4 x hx
  exact ⟨c, b1, b2, b3, b4, b5, by omega⟩
section XSD
variable {D : Int} {v : vS} {F t : xF} {c o r : Nat}
/-- the register that a call sends from -/
theorem Sim.sreg (S : Sim D v F) (hc : c < 72) (h47 : F 47 c = 3) : ∃ o r o' r', o < 3 ∧ r < 3 ∧ o' < 3 ∧ r' < 3 ∧ F 50 c = Int32.ofNat o ∧ F 51 c = Int32.ofNat r ∧ F 53 c = Int32.ofNat o' ∧ F 54 c = Int32.ofNat r' ∧ v.1 1 9 (c + 1) = Int32.ofNat (cdo 38 (3 * o + r)) ∧ v.1 1 9 (c + 1) ∈ v.2.2.1 (ri c) ∧ v.1 1 10 (c + 1) = Int32.ofNat (cdo 38 (3 * o' + r')) ∧ v.1 1 10 (c + 1) ∈ v.2.2.1 (ri c) ∧ v.1 1 7 (c + 1) = Int32.ofNat o' ∧ o' ≠ o ∧ o' ≠ c / 24 := by
  obtain ⟨p1, p2, p3, p4, p5, p6, p7, p8, p9, p10, p11, p12, p13, p14, p15, -⟩ := S.pl hc
  obtain ⟨-, ⟨o1, o2⟩, -⟩ := p11 (by rw [h47]; decide)
  obtain ⟨-, -, -, r, r1, r2, r3, r4⟩ := p12 (by rw [h47]; decide) (by rw [h47]; decide)
  obtain ⟨q1, ⟨q2, q3⟩, q4, q5, -, -, r', s1, s2, s3, s4⟩ := p15 h47
  have e1 := x_clamp o1
  have e2 := x_clamp q2
  have f1 := i32_nat o1
  have f2 := i32_nat q2
  refine ⟨(F 50 c).toNatClampNeg, r, (F 53 c).toNatClampNeg, r', by omega, r1, by omega, s1, f1, r2, f2, s2, r3, r4, s3, s4, q1.trans f2, fun z => q5 ?_, fun z => q4 ?_⟩
  · rw [f1, f2, z]
  · rw [f2, z]
theorem Sim.sd1 (S : Sim D v F) (hc : c < 72) (h47 : F 47 c = 3) (hb : 0 < (F 52 c - 1).toInt) : Sim D (vpi v 1 11 (c + 1) (v.1 1 11 (c + 1) - 1)) (x_u2 F 52 c (F 52 c - 1)) := by
  have S1 := ((S.1.opn (E' := fun y => y = c) (fun _ z => z.elim)).vi1 (c := c) rfl (k := 11) (x := v.1 1 11 (c + 1) - 1)).fj (c := c) rfl (K := 52) (x := F 52 c - 1) rfl ⟨by decide, by decide, by decide⟩
  obtain ⟨p1, p2, p3, p4, p5, p6, p7, p8, p9, p10, p11, p12, p13, p14, p15, p16, p17, p18⟩ := S.pl hc
  refine ⟨S1.close (fun y hy e _ => ?_), S.2.1, S.2.2⟩
  subst e
  refine ⟨p1, p2, p3, p4, p5, ⟨p6.1, ?_, p6.2.2.1, p6.2.2.2⟩, p7, p8, p9, p10, p11, p12, p13, p14, fun z => ?_, p16, p17, p18⟩
  · rw [u2_eq]
    refine Eq.trans (if_pos ⟨rfl, rfl, rfl⟩) ?_
    rw [p6.2.1]
  · obtain ⟨q1, q2, q3, q4, q5, q6, q7⟩ := p15 z
    refine ⟨q1, q2, q3, q4, q5, ?_, q7⟩
    rw [u2_eq]
    omega
theorem Sim.sd2 {o' r' : Nat} (S : Sim D v F) (hc : c < 72) (h47 : F 47 c = 3) (ho : o < 3) (hr : r < 3) (ho' : o' < 3) (hr' : r' < 3) (h53 : F 53 c = Int32.ofNat o') (h54 : F 54 c = Int32.ofNat r') (e9 : v.1 1 9 (c + 1) = Int32.ofNat (cdo 38 (3 * o + r))) (m9 : v.1 1 9 (c + 1) ∈ v.2.2.1 (ri c)) (e10 : v.1 1 10 (c + 1) = Int32.ofNat (cdo 38 (3 * o' + r'))) (m10 : v.1 1 10 (c + 1) ∈ v.2.2.1 (ri c)) (e7 : v.1 1 7 (c + 1) = Int32.ofNat o') (hne : o' ≠ o) (hnc : o' ≠ c / 24) (hD : (F 8 1).toInt < D) (R : RE (x_u2 F 52 c (F 52 c - 1)) c (Int32.ofNat (cdo 38 (3 * o + r))) (v.2.2.1 (ri c)) t) : Sim D (vjob (vpi (vrel (vpi v 1 11 (c + 1) (v.1 1 11 (c + 1) - 1)) (c + 1) (Int32.ofNat (cdo 38 (3 * o + r)))) 1 9 (c + 1) (v.1 1 10 (c + 1))) (o' + 1) (c + 1)) (raddj (x_u2 t 51 c (Int32.ofNat r')) c o' (v.2.2.1 (30 * o' + 2)).length) ∧ ∀ i, raddj (x_u2 t 51 c (Int32.ofNat r')) c o' (v.2.2.1 (30 * o' + 2)).length 8 i = F 8 i := by
  have hT := S.1.tr.1
  have hs : slo (v.2.2.2 6) 38 (3 * o + r) := by unfold slo; omega
  have hs' : slo (v.2.2.2 6) 38 (3 * o' + r') := by unfold slo; omega
  obtain ⟨p1, p2, p3, p4, p5, p6, p7, p8, p9, p10, p11, p12, p13, p14, p15, p16, p17, p18⟩ := S.pl hc
  have n0 : ¬ F 47 c = 0 := by rw [h47]; decide
  have he : c = c := rfl
  have nj := S.nj hc (by rw [h47]; decide)
  have S0 : SX D (fun y => y = c) (fun y => y = c) v F := (S.1.opn (E' := fun y => y = c) (fun _ z => z.elim)).jn (fun y hy z _ => by subst z; exact nj)
  have S1 := (S0.vi1 he (k := 11) (x := v.1 1 11 (c + 1) - 1)).f he he (K := 52) (x := F 52 c - 1) rfl
  have S2 := S1.rel hc rfl hs (by rw [← e9]; exact m9) R
  have S3 := ((((S2.vi1 he (k := 9) (x := v.1 1 10 (c + 1))).f he he (K := 51) (x := Int32.ofNat r') rfl).vr1 he (k := 2) (y := 3)).f he he (K := 47) (x := 2) rfl).f he he (K := 50) (x := Int32.ofNat o') rfl
  have S4 := S3.f he he (K := 59) (x := F 8 1) rfl
  have rk : ∀ K i, (K < 36 ∨ (41 < K ∧ K < 63)) → K ≠ 52 → t K i = F K i := fun K i h h2 => (R.k h).trans (u2_ne h2)
  have t52 : t 52 c = F 52 c - 1 := (R.k (by omega)).trans u2_eq
  have k : ∀ K i, (K < 36 ∨ (41 < K ∧ K < 63)) → (K ≠ 47 ∧ K ≠ 50 ∧ K ≠ 51 ∧ K ≠ 52 ∧ K ≠ 59) ∨ i ≠ c → x_u2 (x_u2 (x_u2 (x_u2 t 51 c (Int32.ofNat r')) 47 c 2) 50 c (Int32.ofNat o')) 59 c (F 8 1) K i = F K i := by
    intro K i h h2
    have : t K i = F K i := by
      rw [R.k h]
      unfold x_u2
      rw [if_neg (by omega)]
    unfold x_u2
    rw [if_neg (by omega), if_neg (by omega), if_neg (by omega), if_neg (by omega), this]
  have k47 : x_u2 (x_u2 (x_u2 (x_u2 t 51 c (Int32.ofNat r')) 47 c 2) 50 c (Int32.ofNat o')) 59 c (F 8 1) 47 c = 2 := by rw [u2_ne (by decide), u2_ne (by decide), u2_eq]
  have k50 : x_u2 (x_u2 (x_u2 (x_u2 t 51 c (Int32.ofNat r')) 47 c 2) 50 c (Int32.ofNat o')) 59 c (F 8 1) 50 c = Int32.ofNat o' := by rw [u2_ne (by decide), u2_eq]
  have k51 : x_u2 (x_u2 (x_u2 (x_u2 t 51 c (Int32.ofNat r')) 47 c 2) 50 c (Int32.ofNat o')) 59 c (F 8 1) 51 c = Int32.ofNat r' := by rw [u2_ne (by decide), u2_ne (by decide), u2_ne (by decide), u2_eq]
  have k52 : x_u2 (x_u2 (x_u2 (x_u2 t 51 c (Int32.ofNat r')) 47 c 2) 50 c (Int32.ofNat o')) 59 c (F 8 1) 52 c = F 52 c - 1 := by rw [u2_ne (by decide), u2_ne (by decide), u2_ne (by decide), u2_ne (by decide), t52]
  have k59 : x_u2 (x_u2 (x_u2 (x_u2 t 51 c (Int32.ofNat r')) 47 c 2) 50 c (Int32.ofNat o')) 59 c (F 8 1) 59 c = F 8 1 := u2_eq
  have er8 : ∀ i, raddj (x_u2 t 51 c (Int32.ofNat r')) c o' (v.2.2.1 (30 * o' + 2)).length 8 i = F 8 i := fun i => by
    unfold raddj
    rw [u2_ne (by decide), u2_ne (by decide), u2_ne (by decide), u2_ne (by decide), u2_ne (by decide), u2_ne (by decide)]
    exact rk 8 i (by omega) (by decide)
  have eF : raddj (x_u2 t 51 c (Int32.ofNat r')) c o' (v.2.2.1 (30 * o' + 2)).length = x_u2 (x_u2 (x_u2 (x_u2 (x_u2 (x_u2 t 51 c (Int32.ofNat r')) 47 c 2) 50 c (Int32.ofNat o')) 59 c (F 8 1)) 46 (72 * o' + (v.2.2.1 (30 * o' + 2)).length) (Int32.ofNat c)) 45 o' (Int32.ofNat ((v.2.2.1 (30 * o' + 2)).length + 1)) := by
    unfold raddj
    rw [show x_u2 t 51 c (Int32.ofNat r') 8 1 = F 8 1 from (u2_ne (by decide)).trans (rk 8 1 (by omega) (by decide))]
  refine ⟨?_, er8⟩
  rw [eF]
  generalize x_u2 (x_u2 (x_u2 (x_u2 t 51 c (Int32.ofNat r')) 47 c 2) 50 c (Int32.ofNat o')) 59 c (F 8 1) = G at S4 k k47 k50 k51 k52 k59 ⊢
  have ev : vjob (vpi (vrel (vpi v 1 11 (c + 1) (v.1 1 11 (c + 1) - 1)) (c + 1) (Int32.ofNat (cdo 38 (3 * o + r)))) 1 9 (c + 1) (v.1 1 10 (c + 1))) (o' + 1) (c + 1) = vrw (vpr (vpi (vrel (vpi v 1 11 (c + 1) (v.1 1 11 (c + 1) - 1)) (c + 1) (Int32.ofNat (cdo 38 (3 * o + r)))) 1 9 (c + 1) (v.1 1 10 (c + 1))) 1 2 (c + 1) 3) (30 * o' + 2) (radd (cap (30 * o' + 2)) ((vpr (vpi (vrel (vpi v 1 11 (c + 1) (v.1 1 11 (c + 1) - 1)) (c + 1) (Int32.ofNat (cdo 38 (3 * o + r)))) 1 9 (c + 1) (v.1 1 10 (c + 1))) 1 2 (c + 1) 3).2.2.1 (30 * o' + 2)) (Int32.ofNat c)) := rfl
  have rw2 : (vpr (vpi (vrel (vpi v 1 11 (c + 1) (v.1 1 11 (c + 1) - 1)) (c + 1) (Int32.ofNat (cdo 38 (3 * o + r)))) 1 9 (c + 1) (v.1 1 10 (c + 1))) 1 2 (c + 1) 3).2.2.1 (30 * o' + 2) = v.2.2.1 (30 * o' + 2) := by
    show x_u1 (hset (vpi v 1 11 (c + 1) (v.1 1 11 (c + 1) - 1)) _ 0).2.2.1 (ri c) _ (30 * o' + 2) = _
    rw [u1_ne (ri_no hc (by omega)), hset_i.2]
    rfl
  have rwc : (vpr (vpi (vrel (vpi v 1 11 (c + 1) (v.1 1 11 (c + 1) - 1)) (c + 1) (Int32.ofNat (cdo 38 (3 * o + r)))) 1 9 (c + 1) (v.1 1 10 (c + 1))) 1 2 (c + 1) 3).2.2.1 (ri c) = rdel (v.2.2.1 (ri c)) (Int32.ofNat (cdo 38 (3 * o + r))) := by
    show x_u1 (hset (vpi v 1 11 (c + 1) (v.1 1 11 (c + 1) - 1)) _ 0).2.2.1 (ri c) _ (ri c) = _
    rw [u1_eq]
    rfl
  have ei : ∀ k, k ≠ 9 → k ≠ 11 → (vpr (vpi (vrel (vpi v 1 11 (c + 1) (v.1 1 11 (c + 1) - 1)) (c + 1) (Int32.ofNat (cdo 38 (3 * o + r)))) 1 9 (c + 1) (v.1 1 10 (c + 1))) 1 2 (c + 1) 3).1 1 k (c + 1) = v.1 1 k (c + 1) := fun k a b => by
    show x_u3 (vrel (vpi v 1 11 (c + 1) (v.1 1 11 (c + 1) - 1)) (c + 1) (Int32.ofNat (cdo 38 (3 * o + r)))).1 1 9 (c + 1) (v.1 1 10 (c + 1)) 1 k (c + 1) = _
    rw [u3_ne (fun _ z => a z), vrel_1]
    exact u3_ne (fun _ z => b z)
  have ei9 : (vpr (vpi (vrel (vpi v 1 11 (c + 1) (v.1 1 11 (c + 1) - 1)) (c + 1) (Int32.ofNat (cdo 38 (3 * o + r)))) 1 9 (c + 1) (v.1 1 10 (c + 1))) 1 2 (c + 1) 3).1 1 9 (c + 1) = v.1 1 10 (c + 1) := if_pos ⟨rfl, rfl, rfl⟩
  have ei11 : (vpr (vpi (vrel (vpi v 1 11 (c + 1) (v.1 1 11 (c + 1) - 1)) (c + 1) (Int32.ofNat (cdo 38 (3 * o + r)))) 1 9 (c + 1) (v.1 1 10 (c + 1))) 1 2 (c + 1) 3).1 1 11 (c + 1) = v.1 1 11 (c + 1) - 1 := by
    show x_u3 (vrel (vpi v 1 11 (c + 1) (v.1 1 11 (c + 1) - 1)) (c + 1) (Int32.ofNat (cdo 38 (3 * o + r)))).1 1 9 (c + 1) (v.1 1 10 (c + 1)) 1 11 (c + 1) = _
    rw [u3_ne (fun _ z => absurd z (by decide)), vrel_1]
    exact if_pos ⟨rfl, rfl, rfl⟩
  have ei2 : ∀ k j, (vpr (vpi (vrel (vpi v 1 11 (c + 1) (v.1 1 11 (c + 1) - 1)) (c + 1) (Int32.ofNat (cdo 38 (3 * o + r)))) 1 9 (c + 1) (v.1 1 10 (c + 1))) 1 2 (c + 1) 3).1 2 k j = v.1 2 k j := fun k j => by
    show (vrel (vpi v 1 11 (c + 1) (v.1 1 11 (c + 1) - 1)) (c + 1) (Int32.ofNat (cdo 38 (3 * o + r)))).1 2 k j = _
    rw [vrel_1]
    rfl
  have ei14 : ∀ j, (vpr (vpi (vrel (vpi v 1 11 (c + 1) (v.1 1 11 (c + 1) - 1)) (c + 1) (Int32.ofNat (cdo 38 (3 * o + r)))) 1 9 (c + 1) (v.1 1 10 (c + 1))) 1 2 (c + 1) 3).1 1 14 j = v.1 1 14 j := fun j => by
    show (vrel (vpi v 1 11 (c + 1) (v.1 1 11 (c + 1) - 1)) (c + 1) (Int32.ofNat (cdo 38 (3 * o + r)))).1 1 14 j = _
    rw [vrel_1]
    rfl
  have er2 : (vpr (vpi (vrel (vpi v 1 11 (c + 1) (v.1 1 11 (c + 1) - 1)) (c + 1) (Int32.ofNat (cdo 38 (3 * o + r)))) 1 9 (c + 1) (v.1 1 10 (c + 1))) 1 2 (c + 1) 3).2.1 1 2 (c + 1) = 3 := if_pos ⟨rfl, rfl, rfl⟩
  have ern : ∀ K k, K ≠ 17 → K ≠ 6 → (K = 1 → k ≠ 2) → ∀ j, (vpr (vpi (vrel (vpi v 1 11 (c + 1) (v.1 1 11 (c + 1) - 1)) (c + 1) (Int32.ofNat (cdo 38 (3 * o + r)))) 1 9 (c + 1) (v.1 1 10 (c + 1))) 1 2 (c + 1) 3).2.1 K k j = v.2.1 K k j := fun K k a b d j => by
    refine (u3_ne (fun z w => d z w)).trans ?_
    show (vrel (vpi v 1 11 (c + 1) (v.1 1 11 (c + 1) - 1)) (c + 1) (Int32.ofNat (cdo 38 (3 * o + r)))).2.1 K k j = _
    rw [vrel_r a b]
    rfl
  rw [ev]
  generalize vpr (vpi (vrel (vpi v 1 11 (c + 1) (v.1 1 11 (c + 1) - 1)) (c + 1) (Int32.ofNat (cdo 38 (3 * o + r)))) 1 9 (c + 1) (v.1 1 10 (c + 1))) 1 2 (c + 1) 3 = V at S4 rw2 rwc ei ei9 ei11 ei2 ei14 er2 ern ⊢
  have oo := ofN (n := o') (by omega)
  have ne10 : ¬ Int32.ofNat (cdo 38 (3 * o' + r')) = Int32.ofNat (cdo 38 (3 * o + r)) := fun z => by
    clear p12 p15 p17
    have l1 := cdo_le hs hT
    have l2 := cdo_le hs' hT
    have := cdo_inj hs' hs (ofN_inj (by omega) (by omega) z)
    omega
  have m10' : Int32.ofNat (cdo 38 (3 * o' + r')) ∈ V.2.2.1 (ri c) := by
    rw [rwc]
    exact mem_rdel.mpr ⟨by rw [← e10]; exact m10, ne10⟩
  have hV : V.2.2.2 6 ≤ 16 := S4.tr.1
  have hR : G 38 (3 * o' + r') = Int32.ofNat c := by
    obtain ⟨K, i, b1, b2, b3⟩ := (S4.hl hc).2.2 _ m10'
    have hs2 : slo (V.2.2.2 6) 38 (3 * o' + r') := by unfold slo; omega
    have l1 := cdo_le hs2 hV
    have l2 := cdo_le b1 hV
    obtain ⟨rfl, rfl⟩ := cdo_inj hs2 b1 (ofN_inj (by omega) (by omega) b2)
    exact b3
  have rm := S4.room hc rfl (fun _ z => z) ho' hr' hR
  have PLc : PLr V G c := by
    unfold PLr tnF
    rw [rwc, er2, ei2, ei2, ei2, ei 5 (by decide) (by decide), ei 6 (by decide) (by decide), ei 7 (by decide) (by decide), ei 8 (by decide) (by decide), ei9, ei 10 (by decide) (by decide), ei11, ei 12 (by decide) (by decide), ei 13 (by decide) (by decide), ern 2 5 (by decide) (by decide) (by omega), ern 1 3 (by decide) (by decide) (by omega), ern 1 4 (by decide) (by decide) (by omega), k47, k50, k51, k52, k 22 c (by omega) (by omega), k 23 c (by omega) (by omega), k 24 c (by omega) (by omega), k 25 c (by omega) (by omega), k 28 c (by omega) (by omega), k 57 c (by omega) (by omega), k 60 c (by omega) (by omega), k 55 c (by omega) (by omega), k 56 c (by omega) (by omega), k 61 c (by omega) (by omega), k 48 c (by omega) (by omega), k 53 c (by omega) (by omega), k 54 c (by omega) (by omega), k 58 c (by omega) (by omega), k 29 _ (by omega) (by omega)]
    have q12 := p12 (by rw [h47]; decide) (by rw [h47]; decide)
    have q15 := p15 h47
    have q11 := p11 n0
    have h23 : F 23 c = 0 := Classical.byContradiction (fun z => n0 (p9 z).1)
    have hle : (rdel (v.2.2.1 (ri c)) (Int32.ofNat (cdo 38 (3 * o + r)))).length ≤ (v.2.2.1 (ri c)).length := List.length_filter_le _ _
    refine ⟨⟨rfl, by decide, by decide⟩, ⟨p2.1, p2.2.1, ?_⟩, ⟨?_, p3.2⟩, p4, ?_, ⟨p6.1, by rw [p6.2.1], p6.2.2.1, p6.2.2.2⟩, fun z => absurd z (by decide), ⟨p8.1, fun z => absurd (p8.2 z).1 n0⟩, fun z => absurd h23 z, fun z => absurd (p10 z) n0, fun _ => ⟨q11.1.cg (fun i _ => k 49 _ (by omega) (by omega)), ⟨by rw [oo.1]; omega, by rw [oo.1]; omega⟩, q11.2.2.1, q11.2.2.2.1, q11.2.2.2.2.1, ?_⟩, fun _ _ => ⟨q12.1, q12.2.1, ?_, r', hr', rfl, ?_, ?_⟩, fun z => absurd z (by decide), fun _ => ⟨e7, fun z => absurd (ofN_inj (by omega) (by omega) z) hnc⟩, fun z => absurd z (by decide), fun z => absurd z (by decide), fun _ => ?_, fun _ _ => ?_⟩
    · rw [if_neg (fun z => absurd z.1 (by decide)), if_neg (by decide)]
      have := p2.2.2
      unfold tnF at this
      rw [h47, if_neg (fun z => absurd z.1 (by decide)), if_neg (by decide)] at this
      exact this
    · rw [if_neg (by decide)]
      have := p3.1
      rw [if_neg n0] at this
      exact this
    · rw [if_neg (by decide), p5, h47, if_neg (by decide)]
    · rw [oo.2]
      have := q15.2.2.2.2.1
      rw [h53, oo.2] at this
      exact this
    · have := q12.2.2.1
      omega
    · rw [oo.2]; exact e10
    · have := m10'
      rw [rwc] at this
      rw [e10]; exact this
    · obtain ⟨k1, k2, k3, k4⟩ := p17 (by rw [h47]; decide)
      exact ⟨k1, k2, k3, k4.trans (ern 18 _ (by decide) (by decide) (by omega) _).symm⟩
    · exact p18 (by rw [h47]; decide) (by rw [h47]; decide)
  have S5 := (S4.close (E' := fun _ => False) (fun y hy e _ => by subst e; exact PLc)).jw (J' := fun _ => False) (fun _ z => z.elim)
  have S6 := S5.addj hc (fun z => z) ho' rm.1 rm.2 k47 k50 (by rw [k59]; exact hD)
  have S6 : SX D (fun _ => False) (fun _ => False) (vrw V (30 * o' + 2) (radd (cap (30 * o' + 2)) (V.2.2.1 (30 * o' + 2)) (Int32.ofNat c))) (x_u2 (x_u2 G 46 (72 * o' + (v.2.2.1 (30 * o' + 2)).length) (Int32.ofNat c)) 45 o' (Int32.ofNat ((v.2.2.1 (30 * o' + 2)).length + 1))) := by
    rw [rw2] at S6 ⊢
    exact S6
  refine ⟨S6, fun c' l h1 h2 => ?_, fun c' h1 h5 h6 => ?_⟩
  · rw [u2_ne (by decide), u2_ne (by decide), u2_ne (by decide), u2_ne (by decide), k 57 c' (by omega) (by omega), k 28 l (by omega) (by omega)]
    exact S.2.1 c' l h1 h2
  · rw [u2_ne (by decide), u2_ne (by decide)] at h5
    have e57 : x_u2 (x_u2 G 46 (72 * o' + (v.2.2.1 (30 * o' + 2)).length) (Int32.ofNat c)) 45 o' (Int32.ofNat ((v.2.2.1 (30 * o' + 2)).length + 1)) 57 c' = F 57 c' := by rw [u2_ne (by decide), u2_ne (by decide), k 57 c' (by omega) (by omega)]
    rw [e57, u2_ne (by decide), u2_ne (by decide), k 22 _ (by omega) (by omega)] at h6
    rw [u2_ne (by decide), u2_ne (by decide), k 62 c' (by omega) (by omega)]
    by_cases e : c' = c
    · rw [e, k47] at h5; exact absurd h5 (by decide)
    · rw [k 47 c' (by omega) (by omega)] at h5
      have := S.2.2 c' h1 h5 h6
      exact ⟨(ei14 _).trans this.1, this.2⟩
end XSD
