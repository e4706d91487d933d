/-! TIME PASSES FOR A CALL; LINES HANG UP -/
theorem PLr.num {v v' : vS} {F F' : xF} {c : Nat} (p : PLr v F c) (ha : ∀ k, k ≠ 12 → k ≠ 13 → k ≠ 14 → v'.1 1 k (c + 1) = v.1 1 k (c + 1)) (hb : ∀ k, k ≠ 4 → v'.1 2 k (c + 1) = v.1 2 k (c + 1)) (hd : v'.2.1 = v.2.1) (hr : v'.2.2.1 = v.2.2.1) (hF : ∀ K i, K ≠ 56 → K ≠ 61 → K ≠ 25 → K ≠ 62 → F' K i = F K i) (e12 : v'.1 1 12 (c + 1) = F' 56 c) (e13 : v'.1 1 13 (c + 1) = F' 61 c) (e24 : v'.1 2 4 (c + 1) = F' 25 c) (b : F 47 c = 1 → 0 ≤ (F' 56 c).toInt ∧ (F' 56 c).toInt < 20) : PLr v' F' c := by
  obtain ⟨p1, p2, p3, p4, p5, p6, p7, p8, p9, p10, p11, p12, p13, p14, p15, p16, p17, p18⟩ := p
  have f : ∀ K, (K ≠ 56 ∧ K ≠ 61 ∧ K ≠ 25 ∧ K ≠ 62) → ∀ i, F' K i = F K i := fun K h i => hF K i h.1 h.2.1 h.2.2.1 h.2.2.2
  unfold PLr tnF
  rw [e12, e13, e24, hd, hr, hb 2 (by decide), hb 3 (by decide), ha 5 (by decide) (by decide) (by decide), ha 6 (by decide) (by decide) (by decide), ha 7 (by decide) (by decide) (by decide), ha 8 (by decide) (by decide) (by decide), ha 9 (by decide) (by decide) (by decide), ha 10 (by decide) (by decide) (by decide), ha 11 (by decide) (by decide) (by decide), f 47 (by decide), f 22 (by decide), f 23 (by decide), f 28 (by decide), f 57 (by decide), f 60 (by decide), f 55 (by decide), f 52 (by decide), f 24 (by decide), f 48 (by decide), f 50 (by decide), f 51 (by decide), f 53 (by decide), f 54 (by decide), f 58 (by decide), f 29 (by decide)]
  exact ⟨p1, ⟨p2.1, rfl, p2.2.2⟩, p3, p4, p5, ⟨p6.1, p6.2.1, rfl, rfl⟩, p7, p8, p9, p10, fun z => ⟨(p11 z).1.cg (fun i _ => f 49 (by decide) _), (p11 z).2⟩, p12, fun z => ⟨(p13 z).1, (p13 z).2.1, b z, (p13 z).2.2.2⟩, p14, p15, p16, p17, p18⟩
theorem u2_comm {F : xF} {K i K' i' : Nat} {x y : Int32} (h : K ≠ K') : x_u2 (x_u2 F K i x) K' i' y = x_u2 (x_u2 F K' i' y) K i x := by
  funext a b
  unfold x_u2
  by_cases e : a = K ∧ b = i
  · rw [if_neg (fun z => h (e.1.symm.trans z.1)), if_pos e]
    rw [if_pos e]
  · by_cases e2 : a = K' ∧ b = i'
    · rw [if_pos e2, if_neg e, if_pos e2]
    · rw [if_neg e2, if_neg e, if_neg e, if_neg e2]
section XPS
variable {D : Int} {v : vS} {F t : xF} {c : Nat} {x : Int32}
theorem Sim.cbn (S : Sim D v F) (hc : c < 72) (h : (F 28 c).toInt < 0) : ∀ c', c' < 72 → 0 ≤ (F 57 c').toInt → (F 57 c').toNatClampNeg ≠ c := by
  intro c' hc' h0 z
  have e := i32_nat h0
  rw [z] at e
  have := (S.2.1 c' c hc' hc).mp e
  rw [this, (ofN (n := c') (by omega)).1] at h
  omega
theorem Sim.c57 (S : Sim D v F) (hc : c < 72) (h : F 47 c = 5) : 0 ≤ (F 57 c).toInt := (S.pl hc).2.2.2.2.2.2.2.2.2.2.2.2.2.2.2.1 (by rw [h]; decide)
theorem Sim.tk1 (S : Sim D v F) (hc : c < 72) : Sim D (vpi v 1 13 (c + 1) (v.1 1 13 (c + 1) + 1)) (x_u2 F 61 c (F 61 c + 1)) := by
  have p := S.pl hc
  have S1 := ((S.1.opn (E' := fun y => y = c) (fun _ z => z.elim)).vi1 (c := c) rfl (k := 13) (x := v.1 1 13 (c + 1) + 1)).fj (c := c) rfl (K := 61) (x := F 61 c + 1) rfl ⟨by decide, by decide, by decide⟩
  refine ⟨S1.close (fun y hy e _ => ?_), S.2.1, fun c' h1 h5 h6 => ?_⟩
  · subst e
    refine p.num (fun k a b d => u3_ne (fun _ z => b z)) (fun k _ => rfl) rfl rfl (fun K i _ a _ _ => u2_ne a) p.2.2.2.2.2.1.2.2.1 ?_ p.2.1.2.1 (fun z => (p.2.2.2.2.2.2.2.2.2.2.2.2.1 z).2.2.1)
    rw [u2_eq]
    refine Eq.trans (if_pos ⟨rfl, rfl, rfl⟩) ?_
    rw [p.2.2.2.2.2.1.2.2.2]
  · exact S.2.2 c' h1 h5 h6
theorem Sim.tk2 (S : Sim D v F) (hc : c < 72) (h47 : F 47 c = 5) : Sim D (vchg (vpi v 1 13 (c + 1) (v.1 1 13 (c + 1) + 1)) (c + 1)) (x_u2 (x_u2 (x_u2 F 61 c (F 61 c + 1)) 61 c 0) 25 c (F 25 c + F 31 (F 58 c).toNatClampNeg)) := by
  have p := S.pl hc
  have dl := S.1.dl hc p (by rw [h47]; decide)
  rw [vchg_e (v := vpi v 1 13 (c + 1) (v.1 1 13 (c + 1) + 1)) dl.1 dl.2.1]
  have he : c = c := rfl
  have S1 := ((((((S.1.opn (E' := fun y => y = c) (fun _ z => z.elim)).vi1 he (k := 13) (x := v.1 1 13 (c + 1) + 1)).vi2 he (k := 4) (x := v.1 2 4 (c + 1) + F 31 (F 58 c).toNatClampNeg)).vi1 he (k := 13) (x := 0)).fj he (K := 61) (x := F 61 c + 1) rfl ⟨by decide, by decide, by decide⟩).fj he (K := 61) (x := 0) rfl ⟨by decide, by decide, by decide⟩).fj he (K := 25) (x := F 25 c + F 31 (F 58 c).toNatClampNeg) rfl ⟨by decide, by decide, by decide⟩
  refine ⟨S1.close (fun y hy e _ => ?_), S.2.1, fun c' h1 h5 h6 => ?_⟩
  · subst e
    refine p.num (fun k a b d => ?_) (fun k a => ?_) rfl rfl (fun K i _ a b _ => by rw [u2_ne b, u2_ne a, u2_ne a]) p.2.2.2.2.2.1.2.2.1 ?_ ?_ (fun z => (p.2.2.2.2.2.2.2.2.2.2.2.2.1 z).2.2.1)
    · exact (u3_ne (fun _ z => b z)).trans (u3_ne (fun _ z => b z))
    · exact u3_ne (fun _ z => a z)
    · rw [u2_ne (by decide), u2_eq]
      exact if_pos ⟨rfl, rfl, rfl⟩
    · rw [u2_eq]
      refine Eq.trans (if_pos ⟨rfl, rfl, rfl⟩) ?_
      show v.1 2 4 (y + 1) + _ = _
      rw [p.2.1.2.1]
  · exact S.2.2 c' h1 h5 h6
theorem SX.tk3 (S : Sim D v F) (_hc : c < 72) (y : Int32) : SX D (fun y => y = c) (fun _ => False) (vpi v 1 14 (c + 1) y) (x_u2 F 62 c y) := ((S.1.opn (E' := fun y => y = c) (fun _ z => z.elim)).vi1 (c := c) rfl (k := 14) (x := y)).fj (c := c) rfl (K := 62) (x := y) rfl ⟨by decide, by decide, by decide⟩
theorem Sim.tk3 (S : Sim D v F) (hc : c < 72) (h47 : F 47 c = 5) (hl : F 22 (F 57 c).toNatClampNeg = 0) (hb : (F 62 c + 1).toInt < 12) : Sim D (vpi v 1 14 (c + 1) (v.1 1 14 (c + 1) + 1)) (x_u2 F 62 c (F 62 c + 1)) := by
  obtain ⟨g1, g2, g3⟩ := S.2.2 c hc h47 hl
  rw [g1]
  have i1 : (F 62 c + 1).toInt = (F 62 c).toInt + 1 := i32_add (by show _ ≤ _ + (1 : Int); omega) (by show _ + (1 : Int) < _; omega)
  have p := S.pl hc
  refine ⟨(SX.tk3 S hc _).close (fun y hy e _ => ?_), S.2.1, fun c' h1 h5 h6 => ?_⟩
  · subst e
    exact p.num (fun k a b d => u3_ne (fun _ z => d z)) (fun k _ => rfl) rfl rfl (fun K i _ _ _ a => u2_ne a) p.2.2.2.2.2.1.2.2.1 p.2.2.2.2.2.1.2.2.2 p.2.1.2.1 (fun z => (p.2.2.2.2.2.2.2.2.2.2.2.2.1 z).2.2.1)
  · by_cases e : c' = c
    · rw [e, u2_eq]
      exact ⟨if_pos ⟨rfl, rfl, rfl⟩, by omega, hb⟩
    · rw [u2_ni e]
      have := S.2.2 c' h1 h5 h6
      exact ⟨(if_neg (fun z => e (by omega))).trans this.1, this.2⟩
theorem Sim.tk4 (S : Sim D v F) (hc : c < 72) (h47 : F 47 c = 5) (hl : F 22 (F 57 c).toNatClampNeg = 0) (R : EN (x_u2 F 62 c (F 62 c + 1)) c (v.2.2.1 (ri c)) (fun o => v.2.2.1 (30 * o + 2)) t) : Sim D (vend (vpi v 1 14 (c + 1) (v.1 1 14 (c + 1) + 1)) (c + 1) x) (rover (x_u2 F 62 c (F 62 c + 1)) t c x) := by
  rw [(S.2.2 c hc h47 hl).1]
  obtain ⟨q1, q2, q3, q4, q5, q6, q7, q8⟩ := S.pe hc (by rw [h47]; decide)
  refine (SX.tk3 S hc _).over hc ⟨q1, q2, q3, q4, q5, q6, q7, q8⟩ S.2.1 (fun c' h1 e h5 h6 => ?_) R
  rw [u2_ni e]
  have := S.2.2 c' h1 h5 h6
  exact ⟨(if_neg (fun z => e (by omega))).trans this.1, this.2⟩
theorem SX.wt (S : Sim D v F) (_hc : c < 72) (y : Int32) : SX D (fun y => y = c) (fun _ => False) (vpi v 1 12 (c + 1) y) (x_u2 F 56 c y) := ((S.1.opn (E' := fun y => y = c) (fun _ z => z.elim)).vi1 (c := c) rfl (k := 12) (x := y)).fj (c := c) rfl (K := 56) (x := y) rfl ⟨by decide, by decide, by decide⟩
theorem Sim.wt1 (S : Sim D v F) (hc : c < 72) (h47 : F 47 c = 1) (hb : (F 56 c + 1).toInt < 20) : Sim D (vpi v 1 12 (c + 1) (v.1 1 12 (c + 1) + 1)) (x_u2 F 56 c (F 56 c + 1)) := by
  have p := S.pl hc
  have e12 : v.1 1 12 (c + 1) = F 56 c := p.2.2.2.2.2.1.2.2.1
  obtain ⟨b1, b2⟩ := (p.2.2.2.2.2.2.2.2.2.2.2.2.1 h47).2.2.1
  have i1 : (F 56 c + 1).toInt = (F 56 c).toInt + 1 := i32_add (by show _ ≤ _ + (1 : Int); omega) (by show _ + (1 : Int) < _; omega)
  rw [e12]
  refine ⟨(SX.wt S hc _).close (fun y hy e _ => ?_), S.2.1, fun c' h1 h5 h6 => S.2.2 c' h1 h5 h6⟩
  subst e
  refine p.num (fun k a b d => u3_ne (fun _ z => a z)) (fun k _ => rfl) rfl rfl (fun K i a _ _ _ => u2_ne a) ?_ p.2.2.2.2.2.1.2.2.2 p.2.1.2.1 (fun z => by rw [u2_eq]; omega)
  rw [u2_eq]
  exact if_pos ⟨rfl, rfl, rfl⟩
theorem Sim.wt2 (S : Sim D v F) (hc : c < 72) (h47 : F 47 c = 1) (R : EN (x_u2 F 56 c (F 56 c + 1)) c (v.2.2.1 (ri c)) (fun o => v.2.2.1 (30 * o + 2)) t) : Sim D (vend (vpi v 1 12 (c + 1) (v.1 1 12 (c + 1) + 1)) (c + 1) x) (x_u2 (x_u2 t 57 c (-1)) 23 c x) := by
  have p := S.pl hc
  have e12 : v.1 1 12 (c + 1) = F 56 c := p.2.2.2.2.2.1.2.2.1
  have p12 := p.2.2.2.2.2.2.2.2.2.2.2.1 (by rw [h47]; decide) (by rw [h47]; decide)
  rw [e12]
  obtain ⟨q1, q2, q3, q4, q5, q6, q7, q8⟩ := S.pe hc (by rw [h47]; decide)
  have := (SX.wt S hc (F 56 c + 1)).over (x := x) hc ⟨q1, q2, q3, ⟨q4.1, q4.2.1, ?_, q4.2.2.2⟩, q5, q6, q7, q8⟩ S.2.1 (fun c' h1 _ h5 h6 => S.2.2 c' h1 h5 h6) R
  · rw [rover, if_neg (c := 0 ≤ (x_u2 F 56 c (F 56 c + 1) 57 c).toInt ∧ ¬ x_u2 F 56 c (F 56 c + 1) 22 (x_u2 F 56 c (F 56 c + 1) 57 c).toNatClampNeg = 0) (fun z => absurd z.1 (Int.not_le.mpr p12.2.1)), if_neg (show ¬ x_u2 F 56 c (F 56 c + 1) 22 c = 0 from p12.1)] at this
    exact this
  · rw [u2_eq]
    exact if_pos ⟨rfl, rfl, rfl⟩
/-- hold -/
theorem Sim.held (S : Sim D v F) (hc : c < 72) (h47 : F 47 c = 5) (b : Int32) : Sim D (vpi v 1 5 (c + 1) b) (x_u2 F 60 c b) := by
  have S1 := ((S.1.opn (E' := fun y => y = c) (fun _ z => z.elim)).vi1 (c := c) rfl (k := 5) (x := b)).fj (c := c) rfl (K := 60) (x := b) rfl ⟨by decide, by decide, by decide⟩
  obtain ⟨p1, p2, p3, p4, p5, p6, p7, p8, p9, p10, p11, p12, p13, p14, p15, p16, p17, p18⟩ := S.pl hc
  refine ⟨S1.close (fun y hy e _ => ?_), S.2.1, S.2.2⟩
  subst e
  have z5 : (F 47 y).toInt = 5 := by rw [h47]; rfl
  refine ⟨p1, p2, p3, p4, ?_, p6, p7, p8, p9, p10, p11, p12, p13, p14, p15, p16, p17, fun _ z => ?_⟩
  · rw [u2_eq, show x_u2 F 60 y b 47 y = F 47 y from u2_ne (by decide), if_pos h47]
    exact if_pos ⟨rfl, rfl, rfl⟩
  · have z : (F 47 y).toInt ≤ 4 := z
    omega
/-- hanging up: the line's own part -/
theorem SX.hng (S : Sim D v F) (_hc : c < 72) : SX D (fun y => y = c) (fun _ => False) (vh0 v (c + 1)) (x_u2 (x_u2 F 22 c 0) 23 c 0) := ((((S.1.opn (E' := fun y => y = c) (fun _ z => z.elim)).vi2 (c := c) rfl (k := 2) (x := 0)).vi2 (c := c) rfl (k := 3) (x := 0)).fj (c := c) rfl (K := 22) (x := 0) rfl ⟨by decide, by decide, by decide⟩).fj (c := c) rfl (K := 23) (x := 0) rfl ⟨by decide, by decide, by decide⟩
theorem hng_k {F : xF} {c K i : Nat} (h : (K ≠ 22 ∧ K ≠ 23) ∨ i ≠ c) : x_u2 (x_u2 F 22 c 0) 23 c 0 K i = F K i := by
  unfold x_u2
  rw [if_neg (by omega), if_neg (by omega)]
theorem PLr.hng (p : PLr v F c) (h24 : (F 24 c).toInt < 0) (h : F 47 c = 0 ∨ F 47 c = 5) : PLr (vh0 v (c + 1)) (x_u2 (x_u2 F 22 c 0) 23 c 0) c := by
  obtain ⟨p1, p2, p3, p4, p5, p6, p7, p8, p9, p10, p11, p12, p13, p14, p15, p16, p17, p18⟩ := p
  have k : ∀ K i, K ≠ 22 → K ≠ 23 → x_u2 (x_u2 F 22 c 0) 23 c 0 K i = F K i := fun K i a b => by rw [u2_ne b, u2_ne a]
  have k22 : x_u2 (x_u2 F 22 c 0) 23 c 0 22 c = 0 := by rw [u2_ne (by decide), u2_eq]
  have k23 : x_u2 (x_u2 F 22 c 0) 23 c 0 23 c = 0 := u2_eq
  generalize x_u2 (x_u2 F 22 c 0) 23 c 0 = G at k k22 k23 ⊢
  unfold PLr tnF
  rw [k22, k23, k 47 c (by decide) (by decide), k 25 c (by decide) (by decide), k 28 c (by decide) (by decide), k 57 c (by decide) (by decide), k 60 c (by decide) (by decide), k 55 c (by decide) (by decide), k 52 c (by decide) (by decide), k 56 c (by decide) (by decide), k 61 c (by decide) (by decide), k 24 c (by decide) (by decide), k 48 c (by decide) (by decide), k 50 c (by decide) (by decide), k 51 c (by decide) (by decide), k 53 c (by decide) (by decide), k 54 c (by decide) (by decide), k 58 c (by decide) (by decide), k 29 _ (by decide) (by decide)]
  refine ⟨p1, ⟨if_pos ⟨rfl, rfl, rfl⟩, p2.2.1, ?_⟩, p3, p4, p5, p6, p7, ⟨p8.1, fun z => absurd z (by omega)⟩, fun z => absurd rfl z, p10, fun z => ⟨(p11 z).1.cg (fun i _ => k 49 _ (by decide) (by decide)), (p11 z).2⟩, fun z w => ?_, p13, p14, p15, p16, p17, p18⟩
  · rw [if_neg (fun z => by rcases h with h | h <;> (rw [h] at z; exact absurd z.1 (by decide))), if_neg (fun z => by rcases h with h | h <;> (rw [h] at z; exact absurd z (by decide)))]
    exact if_pos ⟨rfl, rfl, rfl⟩
  · rcases h with h | h <;> (rw [h] at z w)
    · exact absurd z (by decide)
    · exact absurd w (by decide)
/-- a line with no call -/
theorem Sim.hng0 (S : Sim D v F) (hc : c < 72) (h24 : (F 24 c).toInt < 0) (h : F 47 c = 0 ∨ F 47 c = 5) (h28 : (F 28 c).toInt < 0) : Sim D (vh0 v (c + 1)) (x_u2 (x_u2 F 22 c 0) 23 c 0) := by
  refine ⟨(SX.hng S hc).close (fun y hy e _ => ?_), S.2.1, fun c' h1 h5 h6 => ?_⟩
  · subst e
    exact (S.pl hy).hng h24 h
  · rw [hng_k (by omega)] at h5
    have e : x_u2 (x_u2 F 22 c 0) 23 c 0 57 c' = F 57 c' := hng_k (by omega)
    rw [e, hng_k (Or.inr (S.cbn hc h28 c' h1 (S.c57 h1 h5)))] at h6
    exact S.2.2 c' h1 h5 h6
/-- the called line of a call -/
theorem Sim.hng1 {k : Nat} (S : Sim D v F) (hc : c < 72) (hk : k < 72) (h28 : F 28 c = Int32.ofNat k) : Sim D (vpi (vh0 v (c + 1)) 1 14 (k + 1) 0) (x_u2 (x_u2 (x_u2 F 22 c 0) 23 c 0) 62 k 0) := by
  obtain ⟨p1, p2, p3, p4, p5, p6, p7, p8, p9, p10, -⟩ := S.pl hc
  have h0 : 0 ≤ (F 28 c).toInt := by rw [h28, (ofN (n := k) (by omega)).1]; omega
  have h47 := p10 h0
  have h24 : (F 24 c).toInt < 0 := Int.not_le.mp (fun z => absurd (p8.2 z).2.1 (by omega))
  have f57 : F 57 k = Int32.ofNat c := (S.2.1 k c hk hc).mpr h28
  have hne : ¬ k = c := fun z => by
    rw [z] at f57
    have := (p7 h47).1
    rw [f57, (ofN (n := c) (by omega)).1] at this
    omega
  have S1 := (((SX.hng S hc).opn (E' := fun y => y = c ∨ y = k) (fun _ z => Or.inl z)).vi1 (c := k) (Or.inr rfl) (k := 14) (x := 0)).fj (c := k) (Or.inr rfl) (K := 62) (x := 0) rfl ⟨by decide, by decide, by decide⟩
  refine ⟨S1.close (fun y hy e _ => ?_), S.2.1, fun c' h1 h5 h6 => ?_⟩
  · rcases e with e | e
    · subst e
      have q := (S.pl hy).hng h24 (Or.inl h47)
      exact q.num (fun k' a b d => u3_ne (fun _ z => d z)) (fun _ _ => rfl) rfl rfl (fun K i _ _ _ a => u2_ne a) q.2.2.2.2.2.1.2.2.1 q.2.2.2.2.2.1.2.2.2 q.2.1.2.1 (fun z => (q.2.2.2.2.2.2.2.2.2.2.2.2.1 z).2.2.1)
    · subst e
      have q := (SX.hng S hc).pl hy hne
      exact q.num (fun k' a b d => u3_ne (fun _ z => d z)) (fun _ _ => rfl) rfl rfl (fun K i _ _ _ a => u2_ne a) q.2.2.2.2.2.1.2.2.1 q.2.2.2.2.2.1.2.2.2 q.2.1.2.1 (fun z => (q.2.2.2.2.2.2.2.2.2.2.2.2.1 z).2.2.1)
  · have e47 : x_u2 (x_u2 (x_u2 F 22 c 0) 23 c 0) 62 k 0 47 c' = F 47 c' := (u2_ne (by decide)).trans (hng_k (by omega))
    have e57 : x_u2 (x_u2 (x_u2 F 22 c 0) 23 c 0) 62 k 0 57 c' = F 57 c' := (u2_ne (by decide)).trans (hng_k (by omega))
    rw [e47] at h5
    by_cases e : c' = k
    · rw [e, u2_eq]
      exact ⟨if_pos ⟨rfl, rfl, rfl⟩, by decide, by decide⟩
    · have h57 := S.c57 h1 h5
      have e22 : ∀ i, i ≠ c → x_u2 (x_u2 (x_u2 F 22 c 0) 23 c 0) 62 k 0 22 i = F 22 i := fun i hi => (u2_ne (by decide)).trans (hng_k (Or.inr hi))
      have ne : (F 57 c').toNatClampNeg ≠ c := fun z => by
        have w := i32_nat h57
        rw [z] at w
        have := (S.2.1 c' c h1 hc).mp w
        rw [h28] at this
        exact e (ofN_inj (by omega) (by omega) this).symm
      rw [e57, e22 _ ne] at h6
      rw [u2_ni e, hng_k (by omega)]
      have := S.2.2 c' h1 h5 h6
      exact ⟨(if_neg (fun z => e (by omega))).trans this.1, this.2⟩
/-- the calling line: its call is over -/
theorem Sim.hng2 (S : Sim D v F) (hc : c < 72) (h : ¬ F 47 c = 0) (R : EN (x_u2 (x_u2 F 22 c 0) 23 c 0) c (v.2.2.1 (ri c)) (fun o => v.2.2.1 (30 * o + 2)) t) : Sim D (vend (vh0 v (c + 1)) (c + 1) x) (rover (x_u2 (x_u2 F 22 c 0) 23 c 0) t c x) := by
  obtain ⟨q1, q2, q3, q4, q5, q6, q7, q8⟩ := S.pe hc h
  refine (SX.hng S hc).over hc ⟨?_, ?_, ?_, ?_, u2_eq, ?_, ?_, q8⟩ S.2.1 (fun c' h1 e h5 h6 => ?_) R
  · rw [hng_k (by omega)]; exact q1
  · rw [u2_ne (by decide), u2_eq]
    exact if_pos ⟨rfl, rfl, rfl⟩
  · rw [hng_k (by omega)]; exact q3
  · rw [hng_k (by omega), hng_k (by omega), hng_k (by omega), hng_k (by omega)]; exact q4
  · rw [hng_k (by omega)]; exact q6
  · rw [hng_k (by omega)]; exact q7
  · rw [hng_k (by omega)] at h5
    have e57 : x_u2 (x_u2 F 22 c 0) 23 c 0 57 c' = F 57 c' := hng_k (by omega)
    rw [e57, hng_k (Or.inr (S.cbn hc q7.2 c' h1 (S.c57 h1 h5)))] at h6
    rw [hng_k (by omega)]
    exact S.2.2 c' h1 h5 h6
end XPS
