/-! LINES ARE LIFTED, CALLS ARE ANSWERED, HELD, CHARGED -/
section XLF
variable {D : Int} {v : vS} {F : xF} {c : Nat}
theorem Sim.lift0 (S : Sim D v F) (hc : c < 72) : Sim D (vpi v 2 2 (c + 1) 1) (x_u2 F 22 c 1) := by
  obtain ⟨p1, p2, p3, p4, p5, p6, p7, p8, p9, p10, p11, p12, p13, p14, p15, p16, p17, p18⟩ := S.pl hc
  have k : ∀ K i, K ≠ 22 → x_u2 F 22 c 1 K i = F K i := fun K i h => u2_ne h
  have k22 : x_u2 F 22 c 1 22 c = 1 := u2_eq
  have k22n : ∀ i, i ≠ c → x_u2 F 22 c 1 22 i = F 22 i := fun i h => u2_ni h
  have n1 : ¬ (1 : Int32) = 0 := by decide
  have he : c = c := rfl
  have S1 := ((S.1.opn (E' := fun y => y = c) (fun _ z => z.elim)).vi2 he (k := 2) (x := 1))
  have S2 : SX D (fun y => y = c) (fun _ => False) (vpi v 2 2 (c + 1) 1) (x_u2 F 22 c 1) := by
    obtain ⟨s1, s2, s3, s4, s5, s6, s7, s8, s9⟩ := S1
    refine ⟨s1, fun K i h => ?_, fun c' hc' => ?_, s4, s5, s6, s7, s8, fun c' hc' ne => (s9 c' hc' ne).cg (fun _ => rfl) (fun _ => rfl) (fun _ => rfl) rfl rfl (fun K _ => ?_) (fun _ _ => rfl) (fun _ _ => rfl) (Int.le_refl _)⟩
    · rw [k K i (by unfold slq slo at h; omega)]; exact s2 K i h
    · obtain ⟨a1, a3, a4⟩ := s3 c' hc'
      refine ⟨a1, a3, fun y hy => ?_⟩
      obtain ⟨K', j, b1, b2, b3⟩ := a4 y hy
      exact ⟨K', j, b1, b2, (k K' j (by unfold slo at b1; omega)).trans b3⟩
    · exact u2_ni ne
  generalize x_u2 F 22 c 1 = G at S2 k k22 k22n ⊢
  refine ⟨S2.close (fun y hy e _ => ?_), fun c' l h1 h2 => by rw [k 57 c' (by decide), k 28 l (by decide)]; exact S.2.1 c' l h1 h2, fun c' h1 h5 h6 => ?_⟩
  · subst e
    unfold PLr tnF
    rw [k22, k 47 y (by decide), k 25 y (by decide), k 48 y (by decide), k 23 y (by decide), k 28 y (by decide), k 57 y (by decide), k 60 y (by decide), k 55 y (by decide), k 52 y (by decide), k 56 y (by decide), k 61 y (by decide), k 24 y (by decide), k 50 y (by decide), k 51 y (by decide), k 53 y (by decide), k 54 y (by decide), k 58 y (by decide), k 29 _ (by decide)]
    refine ⟨p1, ⟨if_pos ⟨rfl, rfl, rfl⟩, p2.2⟩, p3, p4, p5, p6, p7, ⟨p8.1, fun z => ⟨(p8.2 z).1, (p8.2 z).2.1, n1, (p8.2 z).2.2.2⟩⟩, fun z => ⟨(p9 z).1, (p9 z).2.1, n1⟩, p10, fun z => ⟨(p11 z).1.cg (fun i _ => k 49 _ (by decide)), (p11 z).2⟩, fun z w => ⟨n1, (p12 z w).2⟩, p13, p14, p15, p16, p17, p18⟩
  · rw [k 47 c' (by decide)] at h5
    rw [k 57 c' (by decide)] at h6
    rw [k 62 c' (by decide)]
    refine S.2.2 c' h1 h5 ?_
    by_cases e : (F 57 c').toNatClampNeg = c
    · rw [e, k22] at h6; exact absurd h6 n1
    · rw [k22n _ e] at h6; exact h6
end XLF
