/-! TRUNK, on both sides -/
section XTK
variable {D : Int} {v : vS} {F : xF} {x y : Int32}
theorem Sim.trunk (S : Sim D v F) (hT : v.2.2.2 6 < 16) : Sim D (vtrk v x y) (x_u2 (x_u2 (x_u2 F 39 (v.2.2.2 6) x) 40 (v.2.2.2 6) y) 8 20 (Int32.ofNat (v.2.2.2 6 + 1))) := by
  have hbl := S.1.bl (Nat.le_refl _) hT
  obtain ⟨⟨⟨q1, q2, q3, q4⟩, s2, s3, s4, s5, s6, s7, s8, s9⟩, hcb, hhg⟩ := S
  have oT := ofN (n := v.2.2.2 6) (by omega)
  have eT : (v.1 7 4 1).toNatClampNeg = v.2.2.2 6 := by rw [q2]; exact oT.2
  obtain ⟨T, hT9⟩ : ∃ T, v.2.2.2 6 = T := ⟨_, rfl⟩
  have i0 : ∀ K, K ≠ 6 → K ≠ 7 → ∀ k j, (vtrk v x y).1 K k j = v.1 K k j := fun K a b k j => (u3_ne (fun z _ => b z)).trans ((u3_ne (fun z _ => a z)).trans ((u3_ne (fun z _ => a z)).trans (if_neg (fun z => a z.1))))
  have r0 : ∀ K, K ≠ 6 → K ≠ 13 → ∀ k j, (vtrk v x y).2.1 K k j = v.2.1 K k j := fun K a b k j => (u3_ne (fun z _ => b z)).trans (if_neg (fun z => a z.1))
  have c0 : ∀ K, K ≠ 6 → (vtrk v x y).2.2.2 K = v.2.2.2 K := fun K a => u1_ne a
  have c6 : (vtrk v x y).2.2.2 6 = v.2.2.2 6 + 1 := rfl
  have w0 : (vtrk v x y).2.2.1 = v.2.2.1 := rfl
  have v7 : (vtrk v x y).1 7 4 1 = Int32.ofNat (v.2.2.2 6 + 1) := (show (vtrk v x y).1 7 4 1 = v.1 7 4 1 + 1 from rfl).trans (by rw [q2]; exact ofN_add _ 1)
  have g6 : ∀ k j, (vtrk v x y).1 6 k j = if 6 = 7 ∧ k = 4 ∧ j = 1 then v.1 7 4 1 + 1 else if 6 = 6 ∧ k = 1 ∧ j = v.2.2.2 6 + 1 then y else if 6 = 6 ∧ k = 0 ∧ j = v.2.2.2 6 + 1 then x else if 6 = 6 ∧ j = v.2.2.2 6 + 1 then 0 else v.1 6 k j := fun _ _ => rfl
  have g63 : ∀ j, (vtrk v x y).2.1 6 3 j = if 6 = 13 ∧ 3 = 1 ∧ j = (v.1 7 4 1).toNatClampNeg then v.2.2.2 6 + 1 else if 6 = 6 ∧ j = v.2.2.2 6 + 1 then 0 else v.2.1 6 3 j := fun _ => rfl
  have g13 : ∀ j, (vtrk v x y).2.1 13 1 j = if 13 = 13 ∧ 1 = 1 ∧ j = (v.1 7 4 1).toNatClampNeg then v.2.2.2 6 + 1 else if 13 = 6 ∧ j = v.2.2.2 6 + 1 then 0 else v.2.1 13 1 j := fun _ => rfl
  rw [eT] at g13 g63
  have t0 : ∀ t, t < v.2.2.2 6 → (vtrk v x y).2.1 13 1 t = v.2.1 13 1 t ∧ (∀ k, (vtrk v x y).1 6 k (t + 1) = v.1 6 k (t + 1)) ∧ (vtrk v x y).2.1 6 3 (t + 1) = v.2.1 6 3 (t + 1) := fun t ht => by
    refine ⟨?_, fun k => ?_, ?_⟩
    · rw [g13, if_neg (by omega), if_neg (by omega)]
    · rw [g6, if_neg (by omega), if_neg (by omega), if_neg (by omega), if_neg (by omega)]
    · rw [g63, if_neg (by omega), if_neg (by omega)]
  have t1 : (vtrk v x y).2.1 13 1 (v.2.2.2 6) = v.2.2.2 6 + 1 ∧ (vtrk v x y).1 6 0 (v.2.2.2 6 + 1) = x ∧ (vtrk v x y).1 6 1 (v.2.2.2 6 + 1) = y ∧ (vtrk v x y).1 6 2 (v.2.2.2 6 + 1) = 0 ∧ (vtrk v x y).2.1 6 3 (v.2.2.2 6 + 1) = 0 := by
    refine ⟨?_, ?_, ?_, ?_, ?_⟩
    · rw [g13, if_pos ⟨rfl, rfl, rfl⟩]
    · rw [g6, if_neg (by omega), if_neg (by omega), if_pos ⟨rfl, rfl, rfl⟩]
    · rw [g6, if_neg (by omega), if_pos ⟨rfl, rfl, rfl⟩]
    · rw [g6, if_neg (by omega), if_neg (by omega), if_neg (by omega), if_pos ⟨rfl, rfl⟩]
    · rw [g63, if_neg (by omega), if_pos ⟨rfl, rfl⟩]
  clear g6 g63 g13
  have n : ∀ K, K ≠ 8 → K ≠ 39 → K ≠ 40 → ∀ i, x_u2 (x_u2 (x_u2 F 39 (v.2.2.2 6) x) 40 (v.2.2.2 6) y) 8 20 (Int32.ofNat (v.2.2.2 6 + 1)) K i = F K i := fun K a b c i => (u2_ne a).trans ((u2_ne c).trans (u2_ne b))
  have n82 : x_u2 (x_u2 (x_u2 F 39 (v.2.2.2 6) x) 40 (v.2.2.2 6) y) 8 20 (Int32.ofNat (v.2.2.2 6 + 1)) 8 2 = F 8 2 := (u2_ni (by decide)).trans ((u2_ne (by decide)).trans (u2_ne (by decide)))
  have n20 : x_u2 (x_u2 (x_u2 F 39 (v.2.2.2 6) x) 40 (v.2.2.2 6) y) 8 20 (Int32.ofNat (v.2.2.2 6 + 1)) 8 20 = Int32.ofNat (v.2.2.2 6 + 1) := u2_eq
  have n39 : ∀ i, x_u2 (x_u2 (x_u2 F 39 (v.2.2.2 6) x) 40 (v.2.2.2 6) y) 8 20 (Int32.ofNat (v.2.2.2 6 + 1)) 39 i = if i = v.2.2.2 6 then x else F 39 i := fun i => (u2_ne (by decide)).trans ((u2_ne (by decide)).trans (by
    unfold x_u2
    by_cases z : i = v.2.2.2 6
    · rw [if_pos ⟨rfl, z⟩, if_pos z]
    · rw [if_neg (fun q => z q.2), if_neg z]))
  have n40 : ∀ i, x_u2 (x_u2 (x_u2 F 39 (v.2.2.2 6) x) 40 (v.2.2.2 6) y) 8 20 (Int32.ofNat (v.2.2.2 6 + 1)) 40 i = if i = v.2.2.2 6 then y else F 40 i := fun i => (u2_ne (by decide)).trans (by
    by_cases z : i = v.2.2.2 6
    · rw [z, u2_eq, if_pos rfl]
    · rw [u2_ni z, u2_ne (by decide), if_neg z])
  generalize x_u2 (x_u2 (x_u2 F 39 (v.2.2.2 6) x) 40 (v.2.2.2 6) y) 8 20 (Int32.ofNat (v.2.2.2 6 + 1)) = F' at n n82 n20 n39 n40 ⊢
  generalize vtrk v x y = v' at i0 r0 c0 c6 w0 v7 t0 t1 ⊢
  have c41 : ∀ K i, slo (v.2.2.2 6) K i → cs v' K i = cs v K i := fun K i h => by
    unfold cs
    rw [r0 17 (by decide) (by decide), r0 17 (by decide) (by decide), r0 17 (by decide) (by decide)]
    by_cases z : K = 41
    · rw [(t0 i (by unfold slo at h; omega)).2.2]
    · rcases (show K = 36 ∨ K = 37 ∨ K = 38 by unfold slo at h; omega) with rfl | rfl | rfl <;> rfl
  refine ⟨⟨⟨by omega, by rw [c6]; exact v7, by rw [c6]; exact n20, fun t ht => ?_⟩, fun K i h => ?_, fun c hc => ?_, fun o ho => ?_, ⟨fun o ho => ?_, fun l hl => ?_⟩, fun o ho => ?_, ?_, fun o ho => ?_, fun c hc ne => (s9 c hc ne).cg (fun k => i0 1 (by decide) (by decide) k _) (fun k => i0 2 (by decide) (by decide) k _) (fun k => r0 1 (by decide) (by decide) k _) (r0 2 (by decide) (by decide) _ _) (by rw [w0]) (fun K h => n K (fun z => by rw [z] at h; cases h) (fun z => by rw [z] at h; cases h) (fun z => by rw [z] at h; cases h) _) (fun i _ => n 49 (by decide) (by decide) (by decide) _) (fun k _ => r0 18 (by decide) (by decide) _ _) (by rw [n 29 (by decide) (by decide) (by decide)]; exact Int.le_refl _)⟩, fun c l hc hl => ?_, fun c hc h5 h22 => ?_⟩
  · by_cases z : t = v.2.2.2 6
    · rw [z, t1.1, t1.2.1, t1.2.2.1, t1.2.2.2.1, n39, n40, if_pos rfl, if_pos rfl, n 42 (by decide) (by decide) (by decide), hbl.2]
      exact ⟨rfl, rfl, rfl, rfl⟩
    · have ht' : t < v.2.2.2 6 := by omega
      obtain ⟨a1, a2, -⟩ := t0 t ht'
      rw [a1, a2, a2, a2, n39, n40, if_neg z, if_neg z, n 42 (by decide) (by decide) (by decide)]
      exact q4 t ht'
  · rw [c6] at h ⊢
    rw [w0, n K (by unfold slq slo at h; omega) (by unfold slq slo at h; omega) (by unfold slq slo at h; omega)]
    by_cases z : slo (v.2.2.2 6) K i
    · rw [c41 K i z]
      exact ⟨fun _ => (s2 K i (Or.inl z)).1 z, fun y => absurd (z.up (Nat.le_succ _)) y⟩
    · have hq : slq (v.2.2.2 6) K i := by unfold slq slo at h ⊢; unfold slo at z; omega
      have e := (s2 K i hq).2 z
      refine ⟨fun y => ?_, fun _ => e⟩
      have y9 : K = 41 ∧ i = v.2.2.2 6 := by unfold slo at y z; omega
      obtain ⟨rfl, rfl⟩ := y9
      rw [if_pos rfl] at e
      rw [e, show cs v' 41 (v.2.2.2 6) = v'.2.1 6 3 (v.2.2.2 6 + 1) from rfl, t1.2.2.2.2]
      refine ⟨⟨rfl, by decide⟩, fun c hc z9 => ?_⟩
      have oc := (ofN (n := c) (by omega)).1
      rw [← z9] at oc
      exact absurd oc (by rw [show (-1 : Int32).toInt = -1 from rfl]; omega)
  · obtain ⟨⟨a1, a2⟩, a3, a4⟩ := s3 c hc
    unfold HLD LV
    rw [w0, n 63 (by decide) (by decide) (by decide)]
    refine ⟨⟨a1, fun k y hy => (n 64 (by decide) (by decide) (by decide) _).trans (a2 k y hy)⟩, a3, fun y hy => ?_⟩
    obtain ⟨K', j, b1, b2, b3⟩ := a4 y hy
    exact ⟨K', j, by rw [c6]; exact b1.up (Nat.le_succ _), b2, (n K' (by unfold slo at b1; omega) (by unfold slo at b1; omega) (by unfold slo at b1; omega) _).trans b3⟩
  · obtain ⟨⟨a1, a2⟩, a3, a4, a5⟩ := s4 o ho
    unfold LV
    rw [w0, n 45 (by decide) (by decide) (by decide)]
    refine ⟨⟨a1, fun k y hy => (n 46 (by decide) (by decide) (by decide) _).trans (a2 k y hy)⟩, a3, a4, fun y hy => ?_⟩
    obtain ⟨c', b1, b2, b3, b4, b5, b6⟩ := a5 y hy
    exact ⟨c', b1, b2, b3, (n 47 (by decide) (by decide) (by decide) _).trans b4, (n 50 (by decide) (by decide) (by decide) _).trans b5, by rw [n 59 (by decide) (by decide) (by decide)]; exact b6⟩
  · simp only [n 24 (by decide) (by decide) (by decide), w0]
    exact s5.1 o ho
  · rw [n 24 (by decide) (by decide) (by decide), n82]
    exact s5.2 l hl
  · rw [w0]
    refine ⟨fun h hh => ?_, (s6 o ho).2⟩
    obtain ⟨⟨a1, a2⟩, a3⟩ := (s6 o ho).1 h hh
    exact ⟨⟨(n 26 (by decide) (by decide) (by decide) _).trans a1, fun k y hy => (n 27 (by decide) (by decide) (by decide) _).trans (a2 k y hy)⟩, a3⟩
  · unfold sRT RTE LV at s7 ⊢
    simp only [n 29 (by decide) (by decide) (by decide), n 30 (by decide) (by decide) (by decide), n 31 (by decide) (by decide) (by decide), n 32 (by decide) (by decide) (by decide), n 33 (by decide) (by decide) (by decide), n 34 (by decide) (by decide) (by decide), n 35 (by decide) (by decide) (by decide), i0 3 (by decide) (by decide), i0 4 (by decide) (by decide), r0 18 (by decide) (by decide), r0 4 (by decide) (by decide), c0 4 (by decide), w0]
    exact s7
  · rw [n 43 (by decide) (by decide) (by decide), i0 3 (by decide) (by decide)]
    refine ⟨(s8 o ho).1, fun x' hx => ?_⟩
    rw [n 44 (by decide) (by decide) (by decide), i0 15 (by decide) (by decide)]
    exact (s8 o ho).2 x' hx
  · rw [n 57 (by decide) (by decide) (by decide), n 28 (by decide) (by decide) (by decide)]
    exact hcb c l hc hl
  · rw [n 47 (by decide) (by decide) (by decide)] at h5
    rw [n 57 (by decide) (by decide) (by decide), n 22 (by decide) (by decide) (by decide)] at h22
    rw [i0 1 (by decide) (by decide), n 62 (by decide) (by decide) (by decide)]
    exact hhg c hc h5 h22
end XTK
theorem r94x {D : Int} {v : vS} {F : xF} {x y : Int32} (S : Sim D v F) (hx : ¬ trok x y) : EC MR 94 [rf 8 1, .inl x, .inl y] F (fun o9 t => Sim D (vtrunk v x y) t ∧ AG (otrunk v x y) o9 t ∧ t 8 1 = F 8 1 ∧ t 8 2 = F 8 2) := by
  refine EC.mk (fun n0 => ?_)
  show BC _ n0 94 0 [rf 8 1, .inl x, .inl y] [] _ _
  refine BC.blk c94_0 (fun m1 hm1 => ?_)
  refine c_aload rfl ?_
  refine c_iload rfl ?_
  refine c_iconst ?_
  refine c_iconst ?_
  refine d_call mr_rs (e92) ?_
  refine c_if_eq (fun d1 => ?_) (fun d1 => ?_)
  · skip
    refine BC.blk c94_24 (fun m2 hm2 => ?_)
    refine c_iconst ?_
    refine c_goto ?_
    refine BC.blk c94_42 (fun m3 hm3 => ?_)
    refine d_callv mr_rs (e91) ?_
    refine c_if_eq (fun d2 => ?_) (fun d2 => ?_)
    · skip
      first | exact absurd d2 (by decide) | exact absurd d4 (by decide) | exact absurd d6 (by decide)
    · skip
      refine c_iconst ?_
      exact c_iret ⟨by rw [vtrunk, if_neg (fun z => hx z.1)]; exact S.f8 ⟨by decide, by decide⟩, Or.inl ⟨1, by rw [otrunk, if_neg hx], rfl, by decide, by decide⟩, rfl, rfl⟩
  · skip
    refine c_iload rfl ?_
    refine c_iconst ?_
    refine c_iconst ?_
    refine d_call mr_rs (e92) ?_
    refine c_if_eq (fun d3 => ?_) (fun d3 => ?_)
    · skip
      refine BC.blk c94_24 (fun m4 hm4 => ?_)
      refine c_iconst ?_
      refine c_goto ?_
      refine BC.blk c94_42 (fun m5 hm5 => ?_)
      refine d_callv mr_rs (e91) ?_
      refine c_if_eq (fun d4 => ?_) (fun d4 => ?_)
      · skip
        first | exact absurd d2 (by decide) | exact absurd d4 (by decide) | exact absurd d6 (by decide)
      · skip
        refine c_iconst ?_
        exact c_iret ⟨by rw [vtrunk, if_neg (fun z => hx z.1)]; exact S.f8 ⟨by decide, by decide⟩, Or.inl ⟨1, by rw [otrunk, if_neg hx], rfl, by decide, by decide⟩, rfl, rfl⟩
    · skip
      refine c_iload rfl ?_
      refine c_iload rfl ?_
      refine c_icmp_ne (fun d5 => ?_) (fun d5 => ?_)
      · skip
        exact absurd ⟨b2i1.mp d1, b2i1.mp d3, d5⟩ hx
      · skip
        refine c_goto ?_
        refine BC.blk c94_24 (fun m6 hm6 => ?_)
        refine c_iconst ?_
        refine c_goto ?_
        refine BC.blk c94_42 (fun m7 hm7 => ?_)
        refine d_callv mr_rs (e91) ?_
        refine c_if_eq (fun d6 => ?_) (fun d6 => ?_)
        · skip
          first | exact absurd d2 (by decide) | exact absurd d4 (by decide) | exact absurd d6 (by decide)
        · skip
          refine c_iconst ?_
          exact c_iret ⟨by rw [vtrunk, if_neg (fun z => hx z.1)]; exact S.f8 ⟨by decide, by decide⟩, Or.inl ⟨1, by rw [otrunk, if_neg hx], rfl, by decide, by decide⟩, rfl, rfl⟩
theorem r94o {D : Int} {v : vS} {F : xF} {x y : Int32} (S : Sim D v F) (hx : trok x y) : EC MR 94 [rf 8 1, .inl x, .inl y] F (fun o9 t => Sim D (vtrunk v x y) t ∧ AG (otrunk v x y) o9 t ∧ t 8 1 = F 8 1 ∧ t 8 2 = F 8 2) := by
  have hT := S.1.tr.1
  have oT := ofN (n := v.2.2.2 6) (by omega)
  have h74 : (v.1 7 4 1).toInt = v.2.2.2 6 := by rw [S.1.tr.2.1]; exact oT.1
  have e9 : v.1 7 4 1 + 1 = Int32.ofNat (v.2.2.2 6 + 1) := by rw [S.1.tr.2.1]; exact ofN_add _ 1
  refine EC.mk (fun n0 => ?_)
  show BC _ n0 94 0 [rf 8 1, .inl x, .inl y] [] _ _
  refine BC.blk c94_0 (fun m1 hm1 => ?_)
  refine c_aload rfl ?_
  refine c_iload rfl ?_
  refine c_iconst ?_
  refine c_iconst ?_
  refine d_call mr_rs (e92) ?_
  refine c_if_eq (fun d1 => ?_) (fun d1 => ?_)
  · skip
    first | exact absurd hx.1 (b2i0.mp d1) | exact absurd hx.2.1 (b2i0.mp d2) | exact absurd d3 hx.2.2
  · skip
    refine c_iload rfl ?_
    refine c_iconst ?_
    refine c_iconst ?_
    refine d_call mr_rs (e92) ?_
    refine c_if_eq (fun d2 => ?_) (fun d2 => ?_)
    · skip
      first | exact absurd hx.1 (b2i0.mp d1) | exact absurd hx.2.1 (b2i0.mp d2) | exact absurd d3 hx.2.2
    · skip
      refine c_iload rfl ?_
      refine c_iload rfl ?_
      refine c_icmp_ne (fun d3 => ?_) (fun d3 => ?_)
      · skip
        refine BC.blk c94_28 (fun m2 hm2 => ?_)
        refine c_aload rfl ?_
        refine c_gfi (fun _ C _ => (C.f _).trans S.1.tr.2.2.1) ?_
        refine c_iconst ?_
        refine c_icmp_ne (fun d4 => ?_) (fun d4 => ?_)
        · skip
          refine BC.blk c94_41 (fun m3 hm3 => ?_)
          refine c_iconst ?_
          refine c_goto ?_
          refine BC.blk c94_42 (fun m4 hm4 => ?_)
          refine d_callv mr_rs (e91) ?_
          refine c_if_eq (fun d5 => ?_) (fun d5 => ?_)
          · skip
            refine BC.blk c94_50 (fun m5 hm5 => ?_)
            refine c_aload rfl ?_
            refine c_gfr (fun _ C _ => C.ar (k := 21) (K := 39) (n := 16) (by decide)) ?_
            refine c_aload rfl ?_
            refine c_gfi (fun _ C _ => (C.f _).trans S.1.tr.2.2.1) ?_
            refine c_iload rfl ?_
            refine c_ast (fun _ C l9 i9 => C.sn (k := 21) (K := 39) (n := 16) (by decide) i9 (ofN (by omega)).2) (fun p1 => ?_)
            refine c_aload rfl ?_
            refine c_gfr (fun _ C _ => C.ar (k := 22) (K := 40) (n := 16) (by decide)) ?_
            refine c_aload rfl ?_
            refine c_gfi (fun _ C _ => (C.f _).trans S.1.tr.2.2.1) ?_
            refine c_iload rfl ?_
            refine c_ast (fun _ C l9 i9 => C.sn (k := 22) (K := 40) (n := 16) (by decide) i9 (ofN (by omega)).2) (fun p2 => ?_)
            refine c_aload rfl ?_
            refine c_dup ?_
            refine c_gfi (fun _ C _ => (C.f _).trans S.1.tr.2.2.1) ?_
            refine c_iconst ?_
            refine c_bin (ofN_add ((v.2.2.2 6)) (1)) ?_
            refine c_pfi (fun _ C _ => C.pf) ?_
            refine c_aload rfl ?_
            refine c_gfi (fun _ C _ => (C.f _).trans u2_eq) ?_
            refine c_iconst ?_
            refine c_bin rfl ?_
            have hT9 : v.2.2.2 6 ≠ 16 := fun z => d4 (by rw [z]; rfl)
            exact c_iret ⟨by rw [vtrunk, if_pos ⟨hx, by omega⟩]; exact (S.f8 (k := 0) (x := 0) ⟨by decide, by decide⟩).trunk (by omega), Or.inr ⟨_, by rw [otrunk, if_pos hx, if_pos (by omega), e9], rfl, rfl⟩, rfl, rfl⟩
          · skip
            refine c_iconst ?_
            exact absurd (show b2i (0 < (0 : Int32).toInt) = 0 from rfl) d5
        · skip
          refine c_iconst ?_
          refine c_goto ?_
          refine BC.blk c94_42 (fun m6 hm6 => ?_)
          refine d_callv mr_rs (e91) ?_
          refine c_if_eq (fun d6 => ?_) (fun d6 => ?_)
          · skip
            refine BC.blk c94_50 (fun m7 hm7 => ?_)
            refine c_aload rfl ?_
            refine c_gfr (fun _ C _ => C.ar (k := 21) (K := 39) (n := 16) (by decide)) ?_
            refine c_aload rfl ?_
            refine c_gfi (fun _ C _ => (C.f _).trans S.1.tr.2.2.1) ?_
            refine c_iload rfl ?_
            refine c_ast (fun _ C l9 i9 => C.sn (k := 21) (K := 39) (n := 16) (by decide) i9 (ofN (by omega)).2) (fun p3 => ?_)
            refine c_aload rfl ?_
            refine c_gfr (fun _ C _ => C.ar (k := 22) (K := 40) (n := 16) (by decide)) ?_
            refine c_aload rfl ?_
            refine c_gfi (fun _ C _ => (C.f _).trans S.1.tr.2.2.1) ?_
            refine c_iload rfl ?_
            refine c_ast (fun _ C l9 i9 => C.sn (k := 22) (K := 40) (n := 16) (by decide) i9 (ofN (by omega)).2) (fun p4 => ?_)
            refine c_aload rfl ?_
            refine c_dup ?_
            refine c_gfi (fun _ C _ => (C.f _).trans S.1.tr.2.2.1) ?_
            refine c_iconst ?_
            refine c_bin (ofN_add ((v.2.2.2 6)) (1)) ?_
            refine c_pfi (fun _ C _ => C.pf) ?_
            refine c_aload rfl ?_
            refine c_gfi (fun _ C _ => (C.f _).trans u2_eq) ?_
            refine c_iconst ?_
            refine c_bin rfl ?_
            exact absurd d6 (by decide)
          · skip
            refine c_iconst ?_
            have hT9 : v.2.2.2 6 = 16 := ofN_inj (a := v.2.2.2 6) (b := 16) (by omega) (by omega) d4
            exact c_iret ⟨by rw [vtrunk, if_neg (fun z => absurd z.2 (by omega))]; exact S.f8 ⟨by decide, by decide⟩, Or.inl ⟨2, by rw [otrunk, if_pos hx, if_neg (by omega)], rfl, by decide, by decide⟩, rfl, rfl⟩
      · skip
        refine c_goto ?_
        first | exact absurd hx.1 (b2i0.mp d1) | exact absurd hx.2.1 (b2i0.mp d2) | exact absurd d3 hx.2.2
theorem r136 {D : Int} {v : vS} {F : xF} {x y z : Int32} (S : Sim D v F) : EC MR 136 [rf 8 1, .inl x, .inl y, .inl z] F (fun _ t => Sim D v t ∧ t 8 1 = F 8 1 ∧ t 8 2 = F 8 2) := by
  refine EC.mk (fun n0 => ?_)
  show BC _ n0 136 0 [rf 8 1, .inl x, .inl y, .inl z, rf 0 0] [] _ _
  refine BC.blk c136_0 (fun m1 hm1 => ?_)
  refine c_aload rfl ?_
  refine c_iload rfl ?_
  refine c_iload rfl ?_
  refine d_call mr_rs (e93) ?_
  refine c_if_eq (fun d1 => ?_) (fun d1 => ?_)
  · skip
    refine BC.blk c136_13 (fun m2 hm2 => ?_)
    refine c_iconst ?_
    refine c_goto ?_
    refine BC.blk c136_14 (fun m3 hm3 => ?_)
    refine d_callv mr_rs (e91) ?_
    refine c_if_eq (fun d2 => ?_) (fun d2 => ?_)
    · skip
      refine BC.blk c136_22 (fun m4 hm4 => ?_)
      refine c_iconst ?_
      refine c_iload rfl ?_
      refine c_bin rfl ?_
      refine c_iload rfl ?_
      refine c_bin rfl ?_
      refine c_istore rfl ?_
      refine c_aload rfl ?_
      refine c_gfr (fun _ C _ => C.ar (k := 29) (K := 47) (n := 72) (by decide)) ?_
      refine c_iload rfl ?_
      refine c_ald (fun _ C l9 i9 => C.an (k := 29) (K := 47) (n := 72) (by decide) i9 rfl) (fun p1 => ?_)
      refine c_if_eq (fun d3 => ?_) (fun d3 => ?_)
      · skip
        refine BC.blk c136_72 (fun m5 hm5 => ?_)
        refine c_iconst ?_
        refine c_goto ?_
        refine BC.blk c136_73 (fun m6 hm6 => ?_)
        exact c_iret ⟨S.f8 ⟨by decide, by decide⟩, rfl, rfl⟩
      · skip
        refine c_iload rfl ?_
        refine c_iconst ?_
        refine c_aload rfl ?_
        refine c_gfr (fun _ C _ => C.ar (k := 45) (K := 63) (n := 72) (by decide)) ?_
        refine c_iload rfl ?_
        refine c_ald (fun _ C l9 i9 => C.an (k := 45) (K := 63) (n := 72) (by decide) i9 rfl) (fun p2 => ?_)
        refine c_iconst ?_
        refine c_bin rfl ?_
        refine d_call mr_rs (e92) ?_
        refine c_if_eq (fun d4 => ?_) (fun d4 => ?_)
        · skip
          refine BC.blk c136_72 (fun m7 hm7 => ?_)
          refine c_iconst ?_
          refine c_goto ?_
          refine BC.blk c136_73 (fun m8 hm8 => ?_)
          exact c_iret ⟨S.f8 ⟨by decide, by decide⟩, rfl, rfl⟩
        · skip
          refine c_aload rfl ?_
          refine c_gfr (fun _ C _ => C.ar (k := 46) (K := 64) (n := 1152) (by decide)) ?_
          refine c_iconst ?_
          refine c_iload rfl ?_
          refine c_bin rfl ?_
          refine c_iload rfl ?_
          refine c_bin rfl ?_
          refine c_ald (fun _ C l9 i9 => C.an (k := 46) (K := 64) (n := 1152) (by decide) i9 rfl) (fun p3 => ?_)
          refine c_goto ?_
          refine BC.blk c136_73 (fun m9 hm9 => ?_)
          exact c_iret ⟨S.f8 ⟨by decide, by decide⟩, rfl, rfl⟩
    · skip
      refine c_iconst ?_
      exact c_iret ⟨S.f8 ⟨by decide, by decide⟩, rfl, rfl⟩
  · skip
    refine c_iconst ?_
    refine c_goto ?_
    refine BC.blk c136_14 (fun m10 hm10 => ?_)
    refine d_callv mr_rs (e91) ?_
    refine c_if_eq (fun d5 => ?_) (fun d5 => ?_)
    · skip
      refine BC.blk c136_22 (fun m11 hm11 => ?_)
      refine c_iconst ?_
      refine c_iload rfl ?_
      refine c_bin rfl ?_
      refine c_iload rfl ?_
      refine c_bin rfl ?_
      refine c_istore rfl ?_
      refine c_aload rfl ?_
      refine c_gfr (fun _ C _ => C.ar (k := 29) (K := 47) (n := 72) (by decide)) ?_
      refine c_iload rfl ?_
      refine c_ald (fun _ C l9 i9 => C.an (k := 29) (K := 47) (n := 72) (by decide) i9 rfl) (fun p4 => ?_)
      refine c_if_eq (fun d6 => ?_) (fun d6 => ?_)
      · skip
        refine BC.blk c136_72 (fun m12 hm12 => ?_)
        refine c_iconst ?_
        refine c_goto ?_
        refine BC.blk c136_73 (fun m13 hm13 => ?_)
        exact c_iret ⟨S.f8 ⟨by decide, by decide⟩, rfl, rfl⟩
      · skip
        refine c_iload rfl ?_
        refine c_iconst ?_
        refine c_aload rfl ?_
        refine c_gfr (fun _ C _ => C.ar (k := 45) (K := 63) (n := 72) (by decide)) ?_
        refine c_iload rfl ?_
        refine c_ald (fun _ C l9 i9 => C.an (k := 45) (K := 63) (n := 72) (by decide) i9 rfl) (fun p5 => ?_)
        refine c_iconst ?_
        refine c_bin rfl ?_
        refine d_call mr_rs (e92) ?_
        refine c_if_eq (fun d7 => ?_) (fun d7 => ?_)
        · skip
          refine BC.blk c136_72 (fun m14 hm14 => ?_)
          refine c_iconst ?_
          refine c_goto ?_
          refine BC.blk c136_73 (fun m15 hm15 => ?_)
          exact c_iret ⟨S.f8 ⟨by decide, by decide⟩, rfl, rfl⟩
        · skip
          refine c_aload rfl ?_
          refine c_gfr (fun _ C _ => C.ar (k := 46) (K := 64) (n := 1152) (by decide)) ?_
          refine c_iconst ?_
          refine c_iload rfl ?_
          refine c_bin rfl ?_
          refine c_iload rfl ?_
          refine c_bin rfl ?_
          refine c_ald (fun _ C l9 i9 => C.an (k := 46) (K := 64) (n := 1152) (by decide) i9 rfl) (fun p6 => ?_)
          refine c_goto ?_
          refine BC.blk c136_73 (fun m16 hm16 => ?_)
          exact c_iret ⟨S.f8 ⟨by decide, by decide⟩, rfl, rfl⟩
    · skip
      refine c_iconst ?_
      exact c_iret ⟨S.f8 ⟨by decide, by decide⟩, rfl, rfl⟩
