/-! A CALL IS PUT THROUGH: what seizing leaves alone -/
def KP (v : vS) (F : xF) (w : vS) (G : xF) : Prop := (∀ k, w.1 1 k = v.1 1 k) ∧ (∀ k, w.1 2 k = v.1 2 k) ∧ (∀ K, K ≠ 17 → K ≠ 6 → w.2.1 K = v.2.1 K) ∧ ∀ K i, (K < 36 ∨ (44 < K ∧ K < 63)) → K ≠ 8 → G K i = F K i
theorem KP.re {v : vS} {F : xF} : KP v F v F := ⟨fun _ => Eq.refl _, fun _ => Eq.refl _, fun _ _ _ => Eq.refl _, fun _ _ _ _ => Eq.refl _⟩
theorem KP.tr {v w u : vS} {F G H : xF} (a : KP v F w G) (b : KP w G u H) : KP v F u H := ⟨fun k => (b.1 k).trans (a.1 k), fun k => (b.2.1 k).trans (a.2.1 k), fun K h1 h2 => (b.2.2.1 K h1 h2).trans (a.2.2.1 K h1 h2), fun K i h1 h2 => (b.2.2.2 K i h1 h2).trans (a.2.2.2 K i h1 h2)⟩
theorem KP.seize {v : vS} {F : xF} {c n : Nat} {x : Int32} : KP v F (vseize v (c + 1) x) (rseize F c n x) := ⟨fun k => by rw [vseize_1], fun k => by rw [vseize_1], fun K h1 h2 => vseize_r h1 h2, fun K i h1 _ => rseize_k (by omega)⟩
theorem KP.rel {v : vS} {F G : xF} {c : Nat} {x : Int32} {l : List Int32} (R : RE F c x l G) : KP v F (vrel v (c + 1) x) G := ⟨fun k => by rw [vrel_1], fun k => by rw [vrel_1], fun K h1 h2 => vrel_r h1 h2, fun K i h1 _ => R.k (by omega)⟩
theorem KP.rot {v : vS} {F : xF} {o : Nat} {x y : Int32} : KP v F (vpi v 3 8 (o + 1) x) (x_u2 F 43 o y) := ⟨fun _ => Eq.refl _, fun _ => Eq.refl _, fun _ _ _ => Eq.refl _, fun K i h1 _ => u2_ne (by omega)⟩
theorem KP.ovf {v : vS} {F : xF} {o p q : Nat} {x y : Int32} : KP v F (vpi v 15 o p x) (x_u2 F 44 q y) := ⟨fun _ => Eq.refl _, fun _ => Eq.refl _, fun _ _ _ => Eq.refl _, fun K i h1 _ => u2_ne (by omega)⟩
theorem KP.f8 {v : vS} {F : xF} {k : Nat} {x : Int32} : KP v F v (x_u2 F 8 k x) := ⟨fun _ => Eq.refl _, fun _ => Eq.refl _, fun _ _ _ => Eq.refl _, fun K i _ h2 => u2_ne h2⟩
theorem vseize_p {v : vS} {j jo : Nat} {x y : Int32} : vseize (vpi v 3 8 jo y) j x = vpi (vseize v j x) 3 8 jo y := by
  unfold vseize hset
  split
  · rename_i h1
    rw [show ((vpi v 3 8 jo y).1 7 4 1) = v.1 7 4 1 from rfl]
    split <;> rfl
  · split <;> rfl
section XKP
variable {D : Int} {E J : Nat → Prop} {v w : vS} {F G : xF} {c l o : Nat}
/-- the rotor, and the overflow's count -/
theorem SX.rt8 {r : Nat} (S : SX D E J v F) (ho : o < 3) (hr : r < 4) : SX D E J (vpi v 3 8 (o + 1) (Int32.ofNat r)) (x_u2 F 43 o (Int32.ofNat r)) := by
  obtain ⟨s1, s2, s3, s4, s5, s6, s7, s8, s9⟩ := S
  have n : ∀ K', K' ≠ 43 → ∀ j, x_u2 F 43 o (Int32.ofNat r) K' j = F K' j := fun K' h j => u2_ne h
  refine ⟨s1, fun K' j h => ?_, fun c' hc' => ?_, s4, s5, s6, s7, fun o' ho' => ?_, fun c' hc' ne => (s9 c' hc' ne).cg (fun _ => rfl) (fun _ => rfl) (fun _ => rfl) rfl rfl (fun K' h => n K' (fun z => by rw [z] at h; cases h) _) (fun i' h => rfl) (fun _ _ => rfl) (Int.le_refl _)⟩
  · rw [n K' (by unfold slq slo at h; omega)]
    exact s2 K' j h
  · obtain ⟨a1, a3, a4⟩ := s3 c' hc'
    refine ⟨a1, a3, fun y hy => ?_⟩
    obtain ⟨K', j, b1, b2, b3⟩ := a4 y hy
    exact ⟨K', j, b1, b2, (n K' (by unfold slo at b1; omega) _).trans b3⟩
  · refine ⟨?_, fun x hx => ((s8 o' ho').2 x hx).trans (n 44 (by decide) _).symm⟩
    by_cases z : o' = o
    · subst z
      rw [u2_eq, show (vpi v 3 8 (o' + 1) (Int32.ofNat r)).1 3 8 (o' + 1) = Int32.ofNat r from if_pos ⟨rfl, rfl, rfl⟩]
      have or := ofN (n := r) (by omega)
      exact ⟨rfl, by omega, by omega⟩
    · rw [u2_ni z, show (vpi v 3 8 (o + 1) (Int32.ofNat r)).1 3 8 (o' + 1) = v.1 3 8 (o' + 1) from if_neg (fun y => z (by have := y.2.2; omega))]
      exact (s8 o' ho').1
theorem SX.ov8 {p : Nat} (S : SX D E J v F) (ho : o < 3) (hp : p < 3) : SX D E J (vpi v 15 (o + 1) p (v.1 15 (o + 1) p + 1)) (x_u2 F 44 (3 * o + p) (F 44 (3 * o + p) + 1)) := by
  obtain ⟨s1, s2, s3, s4, s5, s6, s7, s8, s9⟩ := S
  have n : ∀ K', K' ≠ 44 → ∀ j, x_u2 F 44 (3 * o + p) (F 44 (3 * o + p) + 1) K' j = F K' j := fun K' h j => u2_ne h
  refine ⟨s1, fun K' j h => ?_, fun c' hc' => ?_, s4, s5, s6, s7, fun o' ho' => ?_, fun c' hc' ne => (s9 c' hc' ne).cg (fun _ => rfl) (fun _ => rfl) (fun _ => rfl) rfl rfl (fun K' h => n K' (fun z => by rw [z] at h; cases h) _) (fun i' h => rfl) (fun _ _ => rfl) (Int.le_refl _)⟩
  · rw [n K' (by unfold slq slo at h; omega)]
    exact s2 K' j h
  · obtain ⟨a1, a3, a4⟩ := s3 c' hc'
    refine ⟨a1, a3, fun y hy => ?_⟩
    obtain ⟨K', j, b1, b2, b3⟩ := a4 y hy
    exact ⟨K', j, b1, b2, (n K' (by unfold slo at b1; omega) _).trans b3⟩
  · refine ⟨(s8 o' ho').1, fun x hx => ?_⟩
    by_cases z : 3 * o' + x = 3 * o + p
    · obtain ⟨z1, z2⟩ : o' = o ∧ x = p := by omega
      subst z1 z2
      rw [u2_eq, ← (s8 o' ho').2 x hx]
      exact if_pos ⟨rfl, rfl, rfl⟩
    · rw [u2_ni z, ← (s8 o' ho').2 x hx]
      exact if_neg (fun y => z (by have := y.2.1; have := y.2.2; omega))
/-- it rings -/
theorem KP.ring (S0 : Sim D v F) (S : SX D (fun y => y = c) (fun y => y = c) w G) (K : KP v F w G) (hc : c < 72) (hl : l < 72) (h47 : F 47 c = 2) (l22 : F 22 l = 0) (l28 : (F 28 l).toInt < 0) (l47 : F 47 l = 0) : Sim D (vpi (vpr (vpr (vpr w 1 2 (c + 1) 5) 1 3 (c + 1) (l + 1)) 2 5 (l + 1) (c + 1)) 2 3 (c + 1) 2) (x_u2 (x_u2 (x_u2 G 47 c 4) 57 c (Int32.ofNat l)) 28 l (Int32.ofNat c)) := by
  have hne : l ≠ c := fun z => by rw [z, h47] at l47; exact absurd l47 (by decide)
  have k0 := K.2.2.2
  have S1 : SX D (fun y => y = c ∨ y = l) (fun y => y = c ∨ y = l) w G := (S.opn (E' := fun y => y = c ∨ y = l) (fun _ z => Or.inl z)).jn (fun y hy z nz o ho hm => by
    have z : y = l := z.elim (fun w => absurd w nz) id
    subst z
    obtain ⟨c', b1, b2, b3, b4, -⟩ := (S.jq o ho).2.2.2 _ hm
    have := ofN_inj (by omega) (by omega) b2
    subst this
    rw [k0 47 _ (by omega) (by decide), l47] at b4
    exact absurd b4 (by decide))
  have S2 := (((((((S1.vr1 (c := c) (Or.inl rfl) (k := 2) (y := 5)).vr1 (c := c) (Or.inl rfl) (k := 3) (y := l + 1)).vr2 (c := l) (Or.inr rfl) (k := 5) (y := c + 1)).vi2 (c := c) (Or.inl rfl) (k := 3) (x := 2)).f (c := c) (Or.inl rfl) (Or.inl rfl) (K := 47) (x := 4) rfl).f (c := c) (Or.inl rfl) (Or.inl rfl) (K := 57) (x := Int32.ofNat l) rfl).f (c := l) (Or.inr rfl) (Or.inr rfl) (K := 28) (x := Int32.ofNat c) rfl)
  obtain ⟨p1, p2, p3, p4, p5, p6, p7, p8, p9, p10, p11, p12, p13, p14, p15, p16, p17, p18⟩ := S0.pl hc
  obtain ⟨q1, q2, q3, q4, q5, q6, q7, q8, q9, q10, q11, q12, q13, q14, q15, q16, q17, q18⟩ := S0.pl hl
  have rl : w.2.2.1 (ri l) = v.2.2.1 (ri l) ∨ (w.2.2.1 (ri l)).length = 0 := Or.inr (((S.pl hl hne).2.2.2.2.2.2.1 ((k0 47 l (by omega) (by decide)).trans l47)).2)
  have h47c : x_u2 (x_u2 (x_u2 G 47 c 4) 57 c (Int32.ofNat l)) 28 l (Int32.ofNat c) 47 c = 4 := by rw [u2_ne (by decide), u2_ne (by decide), u2_eq]
  have h57c : x_u2 (x_u2 (x_u2 G 47 c 4) 57 c (Int32.ofNat l)) 28 l (Int32.ofNat c) 57 c = Int32.ofNat l := by rw [u2_ne (by decide), u2_eq]
  have h28l : x_u2 (x_u2 (x_u2 G 47 c 4) 57 c (Int32.ofNat l)) 28 l (Int32.ofNat c) 28 l = Int32.ofNat c := u2_eq
  have hk : ∀ K i, (K < 36 ∨ (44 < K ∧ K < 63)) → K ≠ 8 → ((K ≠ 47 ∧ K ≠ 57) ∨ i ≠ c) → (K ≠ 28 ∨ i ≠ l) → x_u2 (x_u2 (x_u2 G 47 c 4) 57 c (Int32.ofNat l)) 28 l (Int32.ofNat c) K i = F K i := by
    intro K i a1 a2 a3 a4
    rw [← k0 K i a1 a2]
    unfold x_u2
    rw [if_neg (by omega), if_neg (by omega), if_neg (by omega)]
  generalize x_u2 (x_u2 (x_u2 G 47 c 4) 57 c (Int32.ofNat l)) 28 l (Int32.ofNat c) = H at S2 h47c h57c h28l hk ⊢
  have wi1 : ∀ k, (vpi (vpr (vpr (vpr w 1 2 (c + 1) 5) 1 3 (c + 1) (l + 1)) 2 5 (l + 1) (c + 1)) 2 3 (c + 1) 2).1 1 k = v.1 1 k := K.1
  have wi2 : ∀ k j, (k ≠ 3 ∨ j ≠ c + 1) → (vpi (vpr (vpr (vpr w 1 2 (c + 1) 5) 1 3 (c + 1) (l + 1)) 2 5 (l + 1) (c + 1)) 2 3 (c + 1) 2).1 2 k j = v.1 2 k j := fun k j h => by
    rw [← K.2.1 k]
    exact if_neg (by omega)
  have wt : (vpi (vpr (vpr (vpr w 1 2 (c + 1) 5) 1 3 (c + 1) (l + 1)) 2 5 (l + 1) (c + 1)) 2 3 (c + 1) 2).1 2 3 (c + 1) = 2 := if_pos ⟨rfl, rfl, rfl⟩
  have wr1 : ∀ k j, ((k ≠ 2 ∧ k ≠ 3) ∨ j ≠ c + 1) → (vpi (vpr (vpr (vpr w 1 2 (c + 1) 5) 1 3 (c + 1) (l + 1)) 2 5 (l + 1) (c + 1)) 2 3 (c + 1) 2).2.1 1 k j = v.2.1 1 k j := fun k j h => by
    rw [← K.2.2.1 1 (by decide) (by decide)]
    show x_u3 (x_u3 (x_u3 w.2.1 1 2 (c + 1) 5) 1 3 (c + 1) (l + 1)) 2 5 (l + 1) (c + 1) 1 k j = _
    unfold x_u3
    rw [if_neg (by omega), if_neg (by omega), if_neg (by omega)]
  have w12 : (vpi (vpr (vpr (vpr w 1 2 (c + 1) 5) 1 3 (c + 1) (l + 1)) 2 5 (l + 1) (c + 1)) 2 3 (c + 1) 2).2.1 1 2 (c + 1) = 5 := by
    show x_u3 (x_u3 (x_u3 w.2.1 1 2 (c + 1) 5) 1 3 (c + 1) (l + 1)) 2 5 (l + 1) (c + 1) 1 2 (c + 1) = _
    unfold x_u3
    rw [if_neg (by omega), if_neg (by omega), if_pos ⟨rfl, rfl, rfl⟩]
  have w13 : (vpi (vpr (vpr (vpr w 1 2 (c + 1) 5) 1 3 (c + 1) (l + 1)) 2 5 (l + 1) (c + 1)) 2 3 (c + 1) 2).2.1 1 3 (c + 1) = l + 1 := by
    show x_u3 (x_u3 (x_u3 w.2.1 1 2 (c + 1) 5) 1 3 (c + 1) (l + 1)) 2 5 (l + 1) (c + 1) 1 3 (c + 1) = _
    unfold x_u3
    rw [if_neg (by omega), if_pos ⟨rfl, rfl, rfl⟩]
  have w25 : ∀ j, j ≠ l + 1 → (vpi (vpr (vpr (vpr w 1 2 (c + 1) 5) 1 3 (c + 1) (l + 1)) 2 5 (l + 1) (c + 1)) 2 3 (c + 1) 2).2.1 2 5 j = v.2.1 2 5 j := fun j h => by
    rw [← K.2.2.1 2 (by decide) (by decide)]
    show x_u3 (x_u3 (x_u3 w.2.1 1 2 (c + 1) 5) 1 3 (c + 1) (l + 1)) 2 5 (l + 1) (c + 1) 2 5 j = _
    unfold x_u3
    rw [if_neg (by omega), if_neg (by omega), if_neg (by omega)]
  have w25l : (vpi (vpr (vpr (vpr w 1 2 (c + 1) 5) 1 3 (c + 1) (l + 1)) 2 5 (l + 1) (c + 1)) 2 3 (c + 1) 2).2.1 2 5 (l + 1) = c + 1 := if_pos ⟨rfl, rfl, rfl⟩
  have w18 : (vpi (vpr (vpr (vpr w 1 2 (c + 1) 5) 1 3 (c + 1) (l + 1)) 2 5 (l + 1) (c + 1)) 2 3 (c + 1) 2).2.1 18 = v.2.1 18 := K.2.2.1 18 (by decide) (by decide)
  have wrw : (vpi (vpr (vpr (vpr w 1 2 (c + 1) 5) 1 3 (c + 1) (l + 1)) 2 5 (l + 1) (c + 1)) 2 3 (c + 1) 2).2.2.1 = w.2.2.1 := rfl
  generalize vpi (vpr (vpr (vpr w 1 2 (c + 1) 5) 1 3 (c + 1) (l + 1)) 2 5 (l + 1) (c + 1)) 2 3 (c + 1) 2 = W at S2 wi1 wi2 wt wr1 w12 w13 w25 w25l w18 wrw ⊢
  have n0 : ¬ F 47 c = 0 := by rw [h47]; decide
  have z4 : (4 : Int32).toInt = 4 := rfl
  have z2 : (2 : Int32).toInt = 2 := rfl
  have z0 : (0 : Int32).toInt = 0 := rfl
  have ol := ofN (n := l) (by omega)
  have oc := ofN (n := c) (by omega)
  have f24 : (F 24 c).toInt < 0 := Int.not_le.mp (fun z => n0 (p8.2 z).1)
  have f23 : F 23 c = 0 := Classical.byContradiction (fun z => n0 (p9 z).1)
  have f28 : (F 28 c).toInt < 0 := Int.not_le.mp (fun z => n0 (p10 z))
  have f57 : (F 57 c).toInt < 0 := (p12 (by rw [h47]; decide) (by rw [h47]; decide)).2.1
  refine ⟨(S2.close (E' := fun _ => False) (fun y hy e _ => ?_)).jw (fun _ z => z.elim), fun c' l' h1 h2 => ?_, fun c' h1 h5 h6 => ?_⟩
  · rcases e with e | e
    · subst e
      have ho : y ≠ l := fun z => hne z.symm
      refine ⟨⟨by rw [w12, h47c]; decide, by rw [h47c]; decide, by rw [h47c]; decide⟩, ⟨?_, ?_, ?_⟩, ⟨?_, ?_, ?_⟩, ⟨?_, ?_⟩, ?_, ⟨?_, ?_, ?_, ?_⟩, fun z => absurd (h47c.symm.trans z) (by decide), ⟨?_, fun z => ?_⟩, fun z => ?_, fun z => ?_, fun _ => ?_, fun _ z => ?_, fun z => absurd (h47c.symm.trans z) (by decide), fun z => absurd (h47c.symm.trans z) (by decide), fun z => absurd (h47c.symm.trans z) (by decide), fun _ => ?_, fun _ => ?_, fun _ _ => ?_⟩
      · rw [wi2 2 _ (by omega), hk 22 y (by omega) (by omega) (by omega) (by omega)]; exact p2.1
      · rw [wi2 4 _ (by omega), hk 25 y (by omega) (by omega) (by omega) (by omega)]; exact p2.2.1
      · rw [wt]; unfold tnF; rw [h47c, if_neg (fun z => absurd z.1 (by decide)), if_pos rfl]
      · rw [w25 _ (by omega), h47c, if_neg (by decide)]
        have := p3.1
        rw [if_neg n0] at this
        exact this
      · rw [hk 28 y (by omega) (by omega) (by omega) (by omega)]; exact p3.2.1
      · rw [hk 28 y (by omega) (by omega) (by omega) (by omega)]; exact p3.2.2
      · rw [w13, h57c]; omega
      · rw [h57c]; omega
      · rw [wi1, h47c, if_neg (by decide), p5, if_neg (by rw [h47]; decide)]
      · rw [wi1, hk 55 y (by omega) (by omega) (by omega) (by omega)]; exact p6.1
      · rw [wi1, hk 52 y (by omega) (by omega) (by omega) (by omega)]; exact p6.2.1
      · rw [wi1, hk 56 y (by omega) (by omega) (by omega) (by omega)]; exact p6.2.2.1
      · rw [wi1, hk 61 y (by omega) (by omega) (by omega) (by omega)]; exact p6.2.2.2
      · rw [hk 24 y (by omega) (by omega) (by omega) (by omega)]; exact p8.1
      · rw [hk 24 y (by omega) (by omega) (by omega) (by omega)] at z; omega
      · rw [hk 23 y (by omega) (by omega) (by omega) (by omega)] at z; exact absurd f23 z
      · rw [hk 28 y (by omega) (by omega) (by omega) (by omega)] at z; omega
      · have := p11 n0
        rw [wi1, wi1, hk 48 y (by omega) (by omega) (by omega) (by omega), hk 50 y (by omega) (by omega) (by omega) (by omega), hk 55 y (by omega) (by omega) (by omega) (by omega)]
        exact ⟨this.1.cg (fun i hi => hk 49 _ (by omega) (by omega) (by omega) (by omega)), this.2⟩
      · rw [h47c] at z; exact absurd z (by decide)
      · rw [h57c]; omega
      · obtain ⟨k, k1, k2, k3⟩ := p17 (by rw [h47]; decide)
        exact ⟨k, by rw [hk 29 _ (by omega) (by omega) (by omega) (by omega)]; exact k1, by rw [hk 58 y (by omega) (by omega) (by omega) (by omega)]; exact k2, by rw [wr1 4 _ (by omega), w18]; exact k3⟩
      · rw [hk 60 y (by omega) (by omega) (by omega) (by omega)]; exact p18 (by rw [h47]; decide) (by rw [h47]; decide)
    · subst e
      clear p11 p12 p13 p14 p15 p16 p17 p18 q11 q12 q13 q14 q15 q16 q17 q18
      have hL : H 47 y = 0 := (hk 47 y (by omega) (by omega) (by omega) (by omega)).trans l47
      have hL0 : (H 47 y).toInt = 0 := by rw [hL]; rfl
      refine ⟨⟨?_, ?_, ?_⟩, ⟨?_, ?_, ?_⟩, ⟨?_, ?_, ?_⟩, ⟨?_, ?_⟩, ?_, ⟨?_, ?_, ?_, ?_⟩, fun _ => ⟨?_, ?_⟩, ⟨?_, fun z => ?_⟩, fun z => ?_, fun _ => hL, fun z => absurd hL z, fun z => absurd z (by omega), fun z => absurd (hL.symm.trans z) (by decide), fun z => absurd (hL.symm.trans z) (by decide), fun z => absurd (hL.symm.trans z) (by decide), fun z => absurd z (by omega), fun z => absurd z (by omega), fun z => absurd z (by omega)⟩
      · rw [wr1 2 _ (by omega), hL, ← l47]; exact q1.1
      · omega
      · omega
      · rw [wi2 2 _ (by omega), hk 22 y (by omega) (by omega) (by omega) (by omega)]; exact q2.1
      · rw [wi2 4 _ (by omega), hk 25 y (by omega) (by omega) (by omega) (by omega)]; exact q2.2.1
      · have := q2.2.2
        unfold tnF at this ⊢
        rw [wi2 3 _ (by omega), hL, hk 23 y (by omega) (by omega) (by omega) (by omega)]
        rw [l47] at this
        rw [this, if_neg (c := (0 : Int32) = 1 ∧ F 48 y = 0) (fun z => absurd z.1 (by decide)), if_neg (c := (0 : Int32) = 1 ∧ H 48 y = 0) (fun z => absurd z.1 (by decide))]
      · rw [w25l, hL, if_pos rfl, h28l]; omega
      · rw [h28l]; omega
      · rw [h28l]; omega
      · rw [wr1 3 _ (by omega), hk 57 y (by omega) (by omega) (by omega) (by omega)]; exact q4.1
      · rw [hk 57 y (by omega) (by omega) (by omega) (by omega)]; exact q4.2
      · rw [wi1, hL, q5, l47]
        rw [if_neg (c := (0 : Int32) = 5) (by decide), if_neg (c := (0 : Int32) = 5) (by decide)]
      · rw [wi1, hk 55 y (by omega) (by omega) (by omega) (by omega)]; exact q6.1
      · rw [wi1, hk 52 y (by omega) (by omega) (by omega) (by omega)]; exact q6.2.1
      · rw [wi1, hk 56 y (by omega) (by omega) (by omega) (by omega)]; exact q6.2.2.1
      · rw [wi1, hk 61 y (by omega) (by omega) (by omega) (by omega)]; exact q6.2.2.2
      · rw [hk 57 y (by omega) (by omega) (by omega) (by omega)]; exact (q7 l47).1
      · rw [wrw]
        rcases rl with z | z
        · rw [z]; exact (q7 l47).2
        · exact z
      · rw [hk 24 y (by omega) (by omega) (by omega) (by omega)]; exact q8.1
      · rw [hk 24 y (by omega) (by omega) (by omega) (by omega)] at z; exact absurd l22 (q8.2 z).2.2.1
      · rw [hk 23 y (by omega) (by omega) (by omega) (by omega)] at z; exact absurd l22 (q9 z).2.2
  · clear p11 p12 p13 p14 p15 p16 p17 p18 q11 q12 q13 q14 q15 q16 q17 q18
    have base := S0.2.1 c' l' h1 h2
    by_cases z : c' = c
    · subst z
      rw [h57c]
      by_cases y : l' = l
      · subst y
        rw [h28l]
        exact ⟨fun _ => rfl, fun _ => rfl⟩
      · rw [hk 28 l' (by omega) (by omega) (by omega) (by omega)]
        refine ⟨fun e => absurd (ofN_inj (by omega) (by omega) e).symm y, fun e => ?_⟩
        have := base.mpr e
        rw [this, (ofN (n := l') (by omega)).1] at f57
        omega
    · rw [hk 57 c' (by omega) (by omega) (by omega) (by omega)]
      by_cases y : l' = l
      · subst y
        rw [h28l]
        refine ⟨fun e => ?_, fun e => absurd (ofN_inj (by omega) (by omega) e).symm z⟩
        have := base.mp e
        rw [this, (ofN (n := c') (by omega)).1] at l28
        omega
      · rw [hk 28 l' (by omega) (by omega) (by omega) (by omega)]
        exact base
  · clear p11 p12 p13 p14 p15 p16 p17 p18 q11 q12 q13 q14 q15 q16 q17 q18
    have z : c' ≠ c := fun z => by rw [z, h47c] at h5; exact absurd h5 (by decide)
    rw [hk 47 c' (by omega) (by omega) (by omega) (by omega)] at h5
    rw [hk 57 c' (by omega) (by omega) (by omega) (by omega), hk 22 _ (by omega) (by omega) (by omega) (by omega)] at h6
    rw [wi1, hk 62 c' (by omega) (by omega) (by omega) (by omega)]
    exact S0.2.2 c' h1 h5 h6
end XKP
