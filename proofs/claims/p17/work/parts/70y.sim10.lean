section XTK
variable {D : Int} {E J : Nat → Prop} {v : vS} {F : xF} {c : Nat}
/-- an own int of a line that no job looks at -/
theorem SX.fj (S : SX D E J v F) (he : E c) {K : Nat} {x : Int32} (hK : lku K = true) (hj : K ≠ 47 ∧ K ≠ 50 ∧ K ≠ 59) : SX D E J v (x_u2 F K c x) := by
  have S1 := (S.jw (J' := fun _ => False) (fun _ z => z.elim))
  have hk : K ≠ 45 ∧ K ≠ 46 := by
    simp only [lku, Bool.or_eq_true, Bool.and_eq_true, Nat.ble_eq, beq_iff_eq] at hK
    omega
  have n : ∀ K' i, K' ≠ K → x_u2 F K c x K' i = F K' i := fun K' i h => u2_ne h
  obtain ⟨s1, s2, s3, s4, s5, s6, s7, s8, s9⟩ := S
  have jq : sJQ D J v (x_u2 F K c x) := fun o ho => by
    obtain ⟨⟨a1, a2⟩, a3, a4, a5⟩ := s4 o ho
    refine ⟨⟨(n 45 o (Ne.symm hk.1)).trans a1, fun k y hy => (n 46 _ (Ne.symm hk.2)).trans (a2 k y hy)⟩, a3, a4, fun y hy => ?_⟩
    obtain ⟨c', b1, b2, b3, b4, b5, b6⟩ := a5 y hy
    exact ⟨c', b1, b2, b3, (n 47 c' (Ne.symm hj.1)).trans b4, (n 50 c' (Ne.symm hj.2.1)).trans b5, by rw [n 59 c' (Ne.symm hj.2.2)]; exact b6⟩
  have T : SX D E J v F := ⟨s1, s2, s3, s4, s5, s6, s7, s8, s9⟩
  have hk2 : K ≠ 8 ∧ K ≠ 24 ∧ K ≠ 26 ∧ K ≠ 27 ∧ (K < 29 ∨ 46 < K) ∧ K ≠ 49 ∧ K ≠ 63 ∧ K ≠ 64 := by
    simp only [lku, Bool.or_eq_true, Bool.and_eq_true, Nat.ble_eq, beq_iff_eq] at hK
    omega
  refine ⟨?_, fun K' i h => ?_, fun c' hc' => ?_, jq, ⟨fun o ho => ?_, fun l hl => ?_⟩, fun o ho => ⟨fun h hh => ?_, (s6 o ho).2⟩, ?_, fun o ho => ?_, fun c' hc' ne => (s9 c' hc' ne).cg (fun _ => rfl) (fun _ => rfl) (fun _ => rfl) rfl rfl (fun K' _ => u2_ni (fun z => ne (by rw [z]; exact he))) (fun i _ => n 49 _ (by omega)) (fun _ _ => rfl) (by rw [n 29 _ (by omega)]; exact Int.le_refl _)⟩
  · unfold sTR at s1 ⊢
    rw [n 8 _ (by omega)]
    refine ⟨s1.1, s1.2.1, s1.2.2.1, fun t ht => ?_⟩
    rw [n 39 _ (by omega), n 40 _ (by omega), n 42 _ (by omega)]
    exact s1.2.2.2 t ht
  · rw [n K' _ (by unfold slq slo at h; omega)]
    exact s2 K' i h
  · obtain ⟨⟨a1, a2⟩, a3, a4⟩ := s3 c' hc'
    refine ⟨⟨(n 63 _ (by omega)).trans a1, fun k y hy => (n 64 _ (by omega)).trans (a2 k y hy)⟩, a3, fun y hy => ?_⟩
    obtain ⟨K', i, b1, b2, b3⟩ := a4 y hy
    exact ⟨K', i, b1, b2, (n K' _ (by unfold slo at b1; omega)).trans b3⟩
  · simp only [n 24 _ (show 24 ≠ K by omega)]
    exact s5.1 o ho
  · rw [n 24 _ (by omega), n 8 _ (by omega)]
    exact s5.2 l hl
  · obtain ⟨⟨a1, a2⟩, a3⟩ := (s6 o ho).1 h hh
    exact ⟨⟨(n 26 _ (by omega)).trans a1, fun k y hy => (n 27 _ (by omega)).trans (a2 k y hy)⟩, a3⟩
  · unfold sRT RTE LV at s7 ⊢
    simp only [n 29 _ (show 29 ≠ K by omega), n 30 _ (show 30 ≠ K by omega), n 31 _ (show 31 ≠ K by omega), n 32 _ (show 32 ≠ K by omega), n 33 _ (show 33 ≠ K by omega), n 34 _ (show 34 ≠ K by omega), n 35 _ (show 35 ≠ K by omega)]
    exact s7
  · rw [n 43 _ (by omega)]
    refine ⟨(s8 o ho).1, fun x' hx => ?_⟩
    rw [n 44 _ (by omega)]
    exact (s8 o ho).2 x' hx
/-- the route that was dialled -/
theorem SX.dl (S : SX D E J v F) (hc : c < 72) (p : PLr v F c) (h : 2 ≤ (F 47 c).toInt) : ¬ v.2.1 1 4 (c + 1) = 0 ∧ v.1 4 3 (v.2.1 1 4 (c + 1)) = F 31 (F 58 c).toNatClampNeg ∧ v.1 4 4 (v.2.1 1 4 (c + 1)) = F 32 (F 58 c).toNatClampNeg := by
  obtain ⟨k, k1, k2, k3⟩ := p.2.2.2.2.2.2.2.2.2.2.2.2.2.2.2.2.1 h
  obtain ⟨N, n1, n2, n3, n4, -⟩ := S.rt.1 (c / 24) (by omega)
  rw [n3, (ofN (n := N) (by omega)).1] at k1
  obtain ⟨r1, r2, r3, r4, r5, r6, -⟩ := n4 k (by omega)
  rw [k3, k2, (ofN (n := 12 * (c / 24) + k) (by omega)).2]
  exact ⟨by omega, r5, r6⟩
theorem vchg_e {v : vS} {j : Nat} {u : Int32} (h : ¬ v.2.1 1 4 j = 0) (hu : v.1 4 3 (v.2.1 1 4 j) = u) : vchg v j = vpi (vpi v 2 4 j (v.1 2 4 j + u)) 1 13 j 0 := by
  unfold vchg
  rw [if_neg h, hu]
theorem Sim.ans (S : Sim D v F) (hc : c < 72) (h47 : F 47 c = 4) (hl : ¬ F 22 (F 57 c).toNatClampNeg = 0) : Sim D (vans v (c + 1)) (x_u2 (x_u2 (x_u2 (x_u2 F 47 c 5) 61 c 0) 25 c (F 25 c + F 31 (F 58 c).toNatClampNeg)) 62 c 0) := by
  have p := S.pl hc
  have dl := S.1.dl hc p (by rw [h47]; decide)
  obtain ⟨p1, p2, p3, p4, p5, p6, p7, p8, p9, p10, p11, p12, p13, p14, p15, p16, p17, p18⟩ := p
  have h5 : v.2.1 1 2 (c + 1) = 5 := by
    have := p1.1
    rw [h47] at this
    have : (v.2.1 1 2 (c + 1) : Int) = 4 + 1 := this
    omega
  unfold vans
  rw [if_pos h5, vchg_e (v := vpi (vpr v 1 2 (c + 1) 6) 2 3 (c + 1) 0) dl.1 dl.2.1]
  have he : c = c := rfl
  have S0 : SX D (fun y => y = c) (fun y => y = c) v F := (S.1.opn (E' := fun y => y = c) (fun _ z => z.elim)).jn (fun y hy z _ => by subst z; exact S.nj hy (by rw [h47]; decide))
  have S1 := ((((((((S0.vr1 he (k := 2) (y := 6)).vi2 he (k := 3) (x := 0)).vi2 he (k := 4) (x := v.1 2 4 (c + 1) + F 31 (F 58 c).toNatClampNeg)).vi1 he (k := 13) (x := 0)).f he he (K := 47) (x := 5) rfl).f he he (K := 61) (x := 0) rfl).f he he (K := 25) (x := F 25 c + F 31 (F 58 c).toNatClampNeg) rfl).f he he (K := 62) (x := 0) rfl)
  have k : ∀ K i, (K ≠ 47 ∧ K ≠ 61 ∧ K ≠ 25 ∧ K ≠ 62) ∨ i ≠ c → x_u2 (x_u2 (x_u2 (x_u2 F 47 c 5) 61 c 0) 25 c (F 25 c + F 31 (F 58 c).toNatClampNeg)) 62 c 0 K i = F K i := by
    intro K i h
    unfold x_u2
    rw [if_neg (by omega), if_neg (by omega), if_neg (by omega), if_neg (by omega)]
  have k47 : x_u2 (x_u2 (x_u2 (x_u2 F 47 c 5) 61 c 0) 25 c (F 25 c + F 31 (F 58 c).toNatClampNeg)) 62 c 0 47 c = 5 := by simp [x_u2]
  have k61 : x_u2 (x_u2 (x_u2 (x_u2 F 47 c 5) 61 c 0) 25 c (F 25 c + F 31 (F 58 c).toNatClampNeg)) 62 c 0 61 c = 0 := by simp [x_u2]
  have k25 : x_u2 (x_u2 (x_u2 (x_u2 F 47 c 5) 61 c 0) 25 c (F 25 c + F 31 (F 58 c).toNatClampNeg)) 62 c 0 25 c = F 25 c + F 31 (F 58 c).toNatClampNeg := by rw [u2_ne (by decide), u2_eq]
  have z4 : (F 47 c).toInt = 4 := by rw [h47]; rfl
  have n0 : ¬ F 47 c = 0 := by rw [h47]; decide
  have S1 : SX D (fun y => y = c) (fun y => y = c) (vpi (vpi (vpi (vpr v 1 2 (c + 1) 6) 2 3 (c + 1) 0) 2 4 (c + 1) ((vpi (vpr v 1 2 (c + 1) 6) 2 3 (c + 1) 0).1 2 4 (c + 1) + F 31 (F 58 c).toNatClampNeg)) 1 13 (c + 1) 0) (x_u2 (x_u2 (x_u2 (x_u2 F 47 c 5) 61 c 0) 25 c (F 25 c + F 31 (F 58 c).toNatClampNeg)) 62 c 0) := S1
  generalize x_u2 (x_u2 (x_u2 (x_u2 F 47 c 5) 61 c 0) 25 c (F 25 c + F 31 (F 58 c).toNatClampNeg)) 62 c 0 = G at S1 k k47 k61 k25 ⊢
  refine ⟨(S1.close (E' := fun _ => False) (fun y hy e _ => ?_)).jw (fun _ z => z.elim), fun c' l h1 h2 => by rw [k 57 c' (by omega), k 28 l (by omega)]; exact S.2.1 c' l h1 h2, fun c' h1 h5 h6 => ?_⟩
  · subst e
    have h23 : F 23 y = 0 := Classical.byContradiction (fun z => n0 (p9 z).1)
    unfold PLr
    rw [k47, k61, k25, k 22 y (by omega), k 23 y (by omega), k 28 y (by omega), k 57 y (by omega), k 60 y (by omega), k 55 y (by omega), k 52 y (by omega), k 56 y (by omega), k 24 y (by omega), k 48 y (by omega), k 50 y (by omega), k 51 y (by omega), k 53 y (by omega), k 54 y (by omega), k 58 y (by omega), k 29 _ (by omega)]
    refine ⟨⟨?_, by decide, by decide⟩, ⟨p2.1, ?_, ?_⟩, ⟨?_, p3.2⟩, p4, ?_, ⟨p6.1, p6.2.1, p6.2.2.1, ?_⟩, fun z => absurd z (by decide), ⟨p8.1, fun z => absurd (p8.2 z).1 n0⟩, fun z => absurd h23 z, fun z => absurd (p10 z) n0, fun _ => ⟨(p11 n0).1.cg (fun i _ => k 49 _ (by omega)), (p11 n0).2⟩, fun _ z => absurd z (by decide), fun z => absurd z (by decide), fun z => absurd z (by decide), fun z => absurd z (by decide), fun _ => p16 (by omega), fun _ => p17 (by omega), fun _ z => absurd z (by decide)⟩
    · show ((x_u3 v.2.1 1 2 (y + 1) 6 1 2 (y + 1) : Nat) : Int) = _
      rw [show x_u3 v.2.1 1 2 (y + 1) 6 1 2 (y + 1) = 6 from if_pos ⟨rfl, rfl, rfl⟩]
      rfl
    · refine Eq.trans (if_pos ⟨rfl, rfl, rfl⟩) ?_
      show v.1 2 4 (y + 1) + _ = _
      rw [p2.2.1]
    · unfold tnF
      rw [k47, if_neg (fun z => absurd z.1 (by decide)), if_neg (by decide), k 23 y (by omega), h23]
      exact if_pos ⟨rfl, rfl, rfl⟩
    · rw [if_neg (by decide)]
      have := p3.1
      rw [if_neg n0] at this
      exact this
    · rw [if_pos rfl, p18 (by omega) (by omega)]
      show v.1 1 5 (y + 1) = 0
      rw [p5, h47, if_neg (by decide)]
    · exact if_pos ⟨rfl, rfl, rfl⟩
  · by_cases e : c' = c
    · rw [e, k 57 c (by omega), k 22 _ (by omega)] at h6
      exact absurd h6 hl
    · rw [k 47 c' (by omega)] at h5
      rw [k 57 c' (by omega), k 22 _ (by omega)] at h6
      rw [k 62 c' (by omega)]
      exact S.2.2 c' h1 h5 h6
/-- the called line is lifted again -/
theorem Sim.unh (S : Sim D v F) (hc : c < 72) (hl : ¬ F 22 (F 57 c).toNatClampNeg = 0) : Sim D v (x_u2 F 62 c 0) := by
  have k : ∀ K i, K ≠ 62 → x_u2 F 62 c 0 K i = F K i := fun K i h => u2_ne h
  have S1 := (S.1.opn (E' := fun y => y = c) (fun _ z => z.elim)).fj (c := c) rfl (K := 62) (x := 0) rfl ⟨by decide, by decide, by decide⟩
  refine ⟨S1.close (fun y hy e _ => ?_), S.2.1, fun c' h1 h5 h6 => ?_⟩
  · exact S.pl hy
  · have h6 : F 22 (F 57 c').toNatClampNeg = 0 := h6
    by_cases e : c' = c
    · rw [e] at h6; exact absurd h6 hl
    · rw [u2_ni e]; exact S.2.2 c' h1 h5 h6
end XTK
