/-! OUT, on both sides -/
section XOU
variable {D : Int} {v : vS} {F : xF} {t0 : Nat} {b : Int32}
theorem Sim.out0 (S : Sim D v F) (ht : t0 < v.2.2.2 6) : Sim D (vpi v 6 2 (t0 + 1) b) (x_u2 F 42 t0 b) := by
  obtain ⟨⟨s1, s2, s3, s4, s5, s6, s7, s8, s9⟩, hcb, hhg⟩ := S
  have n : ∀ K', K' ≠ 42 → ∀ j, x_u2 F 42 t0 b K' j = F K' j := fun K' h j => u2_ne h
  refine ⟨⟨⟨s1.1, s1.2.1, s1.2.2.1, fun t h => ?_⟩, fun K' j h => ?_, fun c' hc' => ?_, s4, s5, s6, s7, s8, fun c' hc' ne => (s9 c' hc' ne).cg (fun _ => rfl) (fun _ => rfl) (fun _ => rfl) rfl rfl (fun K' h => n K' (fun z => by rw [z] at h; cases h) _) (fun i' h => rfl) (fun _ _ => rfl) (Int.le_refl _)⟩, hcb, hhg⟩
  · obtain ⟨a1, a2, a3, a4⟩ := s1.2.2.2 t h
    refine ⟨a1, a2, a3, ?_⟩
    by_cases z : t = t0
    · subst z
      rw [u2_eq]
      exact if_pos ⟨rfl, rfl, rfl⟩
    · rw [u2_ni z, ← a4]
      exact if_neg (fun y => z (by have := y.2.2; omega))
  · have e : x_u2 F 42 t0 b K' j = F K' j := by
      unfold x_u2
      rw [if_neg (by have h : slq (v.2.2.2 6) K' j := h; unfold slq slo at h; omega)]
    rw [e]
    exact s2 K' j h
  · obtain ⟨a1, a3, a4⟩ := s3 c' hc'
    refine ⟨a1, a3, fun y hy => ?_⟩
    obtain ⟨K', j, b1, b2, b3⟩ := a4 y hy
    exact ⟨K', j, b1, b2, (n K' (by unfold slo at b1; omega) _).trans b3⟩
theorem Sim.b41 (S : Sim D v F) (ht : t0 < v.2.2.2 6) (h : 0 ≤ (F 41 t0).toInt) : ∃ c, c < 72 ∧ F 41 t0 = Int32.ofNat c ∧ ¬ F 47 c = 0 := by
  have h2 := (S.1.i41 ht).2
  have e : F 41 t0 = Int32.ofNat (F 41 t0).toInt.toNat := i32_eq.mpr (by rw [(ofN (n := (F 41 t0).toInt.toNat) (by omega)).1]; omega)
  refine ⟨(F 41 t0).toInt.toNat, by omega, e, fun z => ?_⟩
  have hm := S.1.hc (K := 41) (i := t0) (by unfold slo; omega) (c := (F 41 t0).toInt.toNat) (by omega) e
  have hl := ((S.pl (c := (F 41 t0).toInt.toNat) (by omega)).2.2.2.2.2.2.1 z).2
  rw [List.eq_nil_of_length_eq_zero hl] at hm
  cases hm
end XOU
theorem r130x {D : Int} {v : vS} {F : xF} {x b : Int32} (S : Sim D v F) (hx : ¬ (0 ≤ x.toInt ∧ x.toInt ≤ (Int32.ofNat (v.2.2.2 6) - 1).toInt)) : EC MR 130 [rf 8 1, .inl x, .inl b] F (fun o9 t => Sim D (vout v x b) t ∧ AG (oout v x) o9 t ∧ t 8 1 = F 8 1 ∧ t 8 2 = F 8 2) := by
  have hx9 : ¬ tok v x := by unfold tok; rw [S.1.tr.2.1]; exact hx
  refine EC.mk (fun n0 => ?_)
  show BC _ n0 130 0 [rf 8 1, .inl x, .inl b, rf 0 0] [] _ _
  refine BC.blk c130_0 (fun m1 hm1 => ?_)
  refine c_aload rfl ?_
  refine c_iload rfl ?_
  refine c_iconst ?_
  refine c_aload rfl ?_
  refine c_gfi (fun _ C _ => (C.f _).trans S.1.tr.2.2.1) ?_
  refine c_iconst ?_
  refine c_bin rfl ?_
  refine d_call mr_rs (e92) ?_
  refine c_if_eq (fun d1 => ?_) (fun d1 => ?_)
  · skip
    refine BC.blk c130_19 (fun m2 hm2 => ?_)
    refine c_iconst ?_
    refine c_goto ?_
    refine BC.blk c130_20 (fun m3 hm3 => ?_)
    refine d_callv mr_rs (e91) ?_
    refine c_if_eq (fun d2 => ?_) (fun d2 => ?_)
    · skip
      exact absurd d2 (by decide)
    · skip
      refine c_iconst ?_
      exact c_zret ⟨by rw [vout, if_neg hx9]; exact S.f8 ⟨by decide, by decide⟩, Or.inl ⟨1, by rw [oout, if_neg hx9], rfl, by decide, by decide⟩, rfl, rfl⟩
  · skip
    exact absurd (b2i1.mp d1) hx
theorem r130o {D : Int} {v : vS} {F : xF} {t0 : Nat} {b : Int32} (S : Sim D v F) (ht : t0 < v.2.2.2 6) : EC MR 130 [rf 8 1, .inl (Int32.ofNat t0), .inl b] F (fun o9 t => Sim D (vout v (Int32.ofNat t0) b) t ∧ AG (oout v (Int32.ofNat t0)) o9 t ∧ t 8 1 = F 8 1 ∧ t 8 2 = F 8 2) := by
  have hT := S.1.tr.1
  have o0 := ofN (n := t0) (by omega)
  have hk : 0 ≤ (Int32.ofNat t0).toInt ∧ (Int32.ofNat t0).toInt ≤ (Int32.ofNat (v.2.2.2 6) - 1).toInt := ⟨by omega, by rw [ofN_p (by omega) (by omega), o0.1]; omega⟩
  have hk9 : tok v (Int32.ofNat t0) := by unfold tok; rw [S.1.tr.2.1]; exact hk
  obtain ⟨t1e, -, -, t4e⟩ := S.1.tr.2.2.2 t0 ht
  have eb : tob v (Int32.ofNat t0) = t0 + 1 := by unfold tob; rw [o0.2, t1e]
  have S1 := (S.f8 (k := 0) (x := 0) ⟨by decide, by decide⟩).out0 (b := b) ht
  refine EC.mk (fun n0 => ?_)
  show BC _ n0 130 0 [rf 8 1, .inl (Int32.ofNat t0), .inl b, rf 0 0] [] _ _
  refine BC.blk c130_0 (fun m1 hm1 => ?_)
  refine c_aload rfl ?_
  refine c_iload rfl ?_
  refine c_iconst ?_
  refine c_aload rfl ?_
  refine c_gfi (fun _ C _ => (C.f _).trans S.1.tr.2.2.1) ?_
  refine c_iconst ?_
  refine c_bin rfl ?_
  refine d_call mr_rs (e92) ?_
  refine c_if_eq (fun d1 => ?_) (fun d1 => ?_)
  · skip
    exact absurd hk (b2i0.mp d1)
  · skip
    refine c_iconst ?_
    refine c_goto ?_
    refine BC.blk c130_20 (fun m2 hm2 => ?_)
    refine d_callv mr_rs (e91) ?_
    refine c_if_eq (fun d2 => ?_) (fun d2 => ?_)
    · skip
      refine BC.blk c130_28 (fun m3 hm3 => ?_)
      refine c_aload rfl ?_
      refine c_gfr (fun _ C _ => C.ar (k := 24) (K := 42) (n := 16) (by decide)) ?_
      refine c_iload rfl ?_
      refine c_ald (fun _ C l9 i9 => C.an (k := 24) (K := 42) (n := 16) (by decide) i9 (ofN (by omega)).2) (fun p1 => ?_)
      refine c_istore rfl ?_
      refine c_aload rfl ?_
      refine c_gfr (fun _ C _ => C.ar (k := 24) (K := 42) (n := 16) (by decide)) ?_
      refine c_iload rfl ?_
      refine c_iload rfl ?_
      refine c_zst (fun _ C l9 i9 => C.sn (k := 24) (K := 42) (n := 16) (by decide) i9 (ofN (by omega)).2) (fun p2 => ?_)
      refine c_iload rfl ?_
      refine c_if_eq (fun d3 => ?_) (fun d3 => ?_)
      · skip
        refine BC.blk c130_66 (fun m4 hm4 => ?_)
        refine c_iload rfl ?_
        exact c_zret ⟨by rw [vout, if_pos hk9, if_neg (fun z => z.1 d3), eb]; exact S1, Or.inr ⟨_, by rw [oout, if_pos hk9, eb, t4e]; rfl, rfl, rfl⟩, rfl, rfl⟩
      · skip
        refine c_aload rfl ?_
        refine c_gfr (fun _ C _ => C.ar (k := 23) (K := 41) (n := 16) (by decide)) ?_
        refine c_iload rfl ?_
        refine c_ald (fun _ C l9 i9 => (fun z => ⟨z.1, z.2.trans (show _ = F 41 t0 from rfl)⟩) (C.an (k := 23) (K := 41) (n := 16) (by decide) i9 (ofN (by omega)).2)) (fun p3 => ?_)
        refine c_if_lt (fun d4 => ?_) (fun d4 => ?_)
        · skip
          refine BC.blk c130_66 (fun m5 hm5 => ?_)
          refine c_iload rfl ?_
          exact c_zret ⟨by rw [vout, if_pos hk9, if_neg (fun z => z.2 (by have := (S.1.i41 ht).1; rw [eb]; omega)), eb]; exact S1, Or.inr ⟨_, by rw [oout, if_pos hk9, eb, t4e]; rfl, rfl, rfl⟩, rfl, rfl⟩
        · skip
          obtain ⟨c, hc, ec, h47⟩ := S.b41 ht (Int.not_lt.mp d4)
          refine c_aload rfl ?_
          refine c_aload rfl ?_
          refine c_gfr (fun _ C _ => C.ar (k := 23) (K := 41) (n := 16) (by decide)) ?_
          refine c_iload rfl ?_
          refine c_ald (fun _ C l9 i9 => (fun z => ⟨z.1, z.2.trans (show _ = Int32.ofNat c from ec)⟩) (C.an (k := 23) (K := 41) (n := 16) (by decide) i9 (ofN (by omega)).2)) (fun p4 => ?_)
          refine c_iconst ?_
          refine c_callv mr_rs (e106 (F := x_u2 (x_u2 F 8 0 0) 42 t0 b) hc (S1.1.hlv hc) (S1.1.h16 hc) S1.1.hjv) (fun w t1 p => ?_) (fun k t1 p => by cases p.1)
          obtain ⟨e9, ⟨t2, hen, rfl⟩⟩ := p
          cases e9
          refine c_goto ?_
          refine BC.blk c130_66 (fun m6 hm6 => ?_)
          refine c_iload rfl ?_
          have e41 := (S.1.i41 ht).1
          rw [ec, (ofN (n := c) (by omega)).1] at e41
          have e63 : v.2.1 6 3 (t0 + 1) = c + 1 := by omega
          have e8 : ∀ i, rover (x_u2 (x_u2 F 8 0 0) 42 t0 b) t2 c 4 8 i = x_u2 F 8 0 0 8 i := fun i => (rover_k (by decide)).trans ((hen.k (by omega)).trans (u2_ne (by decide)))
          exact c_zret ⟨by rw [vout, if_pos hk9, eb, e63, if_pos ⟨d3, by omega⟩]; exact S1.over hc h47 hen, Or.inr ⟨_, by rw [oout, if_pos hk9, eb, t4e]; rfl, e8 0, rfl⟩, e8 1, e8 2⟩
    · skip
      exact absurd (show b2i (0 < (0 : Int32).toInt) = 0 from rfl) d2
