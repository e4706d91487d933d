theorem r97f {D : Int} {v : vS} {F : xF} {o y : Nat} {p u q : Int32} (S : Sim D v F) (ho : o < 3) (hy : y < 3) (hok : rtok (Int32.ofNat o) p (Int32.ofNat y) u q) {k0 : Nat} (hk0 : (k0 : Int) < (F 29 o).toInt) (h0 : F 30 (12 * o + k0) = p) : EC MR 97 [rf 8 1, .inl (Int32.ofNat o), .inl p, .inl (Int32.ofNat y), .inl u, .inl q] F (fun o9 t => Sim D (vroute v (Int32.ofNat o) p (Int32.ofNat y) u q) t ∧ AG (oroute v (Int32.ofNat o) p (Int32.ofNat y) u q) o9 t ∧ t 8 1 = F 8 1 ∧ t 8 2 = F 8 2) := by
  obtain ⟨N, n1, n2, n3, n4, n5⟩ := S.1.rt.1 o ho
  have oN := ofN (n := N) (by omega)
  have oNN := ofN (n := 12 * o + N) (by omega)
  have S1 : Sim D v (x_u2 F 8 0 0) := S.f8 ⟨by decide, by decide⟩
  have S2 : Sim D v (x_u2 (x_u2 F 8 0 0) 8 0 0) := S1.f8 ⟨by decide, by decide⟩
  have hp : pfx p.toInt := hok.1.2.2
  have oo := ofN (n := o) (by omega)
  have oy := ofN (n := y) (by omega)
  have hk9 : k0 < N := by rw [n3, oN.1] at hk0; omega
  have of := ofN (n := 12 * o + k0) (by omega)
  have hR := n4 k0 hk9
  obtain ⟨m, hm⟩ : ∃ m, v.2.1 18 (o + 1) k0 = m := ⟨_, rfl⟩
  rw [hm] at hR
  obtain ⟨b1, b2, b3, b4, -, -, b7_, b8, b9, -⟩ := hR
  have hm0 : rtm v (Int32.ofNat o) p = m := by
    show fro v ((Int32.ofNat o).toNatClampNeg + 1) (rnm v ((Int32.ofNat o).toNatClampNeg + 1) p) = m
    rw [oo.2, rtm_f n1 n2 n4 n5 hk9 h0, hm]
  have hne0 : ¬ rtm v (Int32.ofNat o) p = 0 := by rw [hm0]; omega
  obtain ⟨l, hl⟩ : ∃ l, v.2.2.1 (90 + m) = l := ⟨_, rfl⟩
  rw [hl] at b8 b9
  have oL := ofN (n := l.length) (by omega)
  have o3L := ofN (n := 3 * (12 * o + k0) + l.length) (by omega)
  have hch := chv_e (v := v) (F := F) (o := o) (y := y) (m := m) (f := 12 * o + k0) (l := l) (by omega) (by omega) b4 b7_ hl b9
  rw [← hm0] at hch
  refine EC.mk (fun n0 => ?_)
  show BC _ n0 97 0 [rf 8 1, .inl (Int32.ofNat o), .inl p, .inl (Int32.ofNat y), .inl u, .inl q, rf 0 0, rf 0 0, rf 0 0, rf 0 0, rf 0 0, rf 0 0] [] _ _
  refine BC.blk c97_0 (fun m1 hm1 => ?_)
  have jn94 : ∀ (n : Nat) (b7 b6 : Int32), TB b7 (rtok (Int32.ofNat o) p (Int32.ofNat y) u q) → BC MR n 97 94 [rf 8 1, .inl (Int32.ofNat o), .inl p, .inl (Int32.ofNat y), .inl u, .inl q, .inl b6, rf 0 0, rf 0 0, rf 0 0, rf 0 0, rf 0 0] [.inl b7] F (fun o9 t => Sim D (vroute v (Int32.ofNat o) p (Int32.ofNat y) u q) t ∧ AG (oroute v (Int32.ofNat o) p (Int32.ofNat y) u q) o9 t ∧ t 8 1 = F 8 1 ∧ t 8 2 = F 8 2) := by
    intro n94 b7 b6 tb
    refine BC.blk c97_94 (fun m2 hm2 => ?_)
    refine c_istore rfl ?_
    refine c_aload rfl ?_
    refine c_iload rfl ?_
    refine c_if_eq (fun d1 => ?_) (fun d1 => ?_)
    · skip
      refine BC.blk c97_106 (fun m3 hm3 => ?_)
      exact absurd hok (tb.f d1)
    · skip
      refine c_iconst ?_
      refine c_goto ?_
      refine BC.blk c97_107 (fun m4 hm4 => ?_)
      refine d_callv mr_rs (e91) ?_
      refine c_if_eq (fun d2 => ?_) (fun d2 => ?_)
      · skip
        refine BC.blk c97_115 (fun m5 hm5 => ?_)
        refine c_iconst ?_
        refine c_istore rfl ?_
        refine c_iconst ?_
        refine c_istore rfl ?_
        refine c_iconst ?_
        refine c_iload rfl ?_
        refine c_bin (ofN_mul (12) (o)) ?_
        refine c_istore rfl ?_
        refine c_goto ?_
        have lp127 : ∀ (n : Nat) (k : Nat) (f : Int32), k ≤ N → f = (if k0 < k then Int32.ofNat (12 * o + k0) else -1) → BC MR n 97 127 [rf 8 1, .inl (Int32.ofNat o), .inl p, .inl (Int32.ofNat y), .inl u, .inl q, .inl b6, .inl b7,  .inl f, .inl 0, .inl (Int32.ofNat (12 * o + k)), rf 0 0] [] (x_u2 F 8 0 0) (fun o9 t => Sim D (vroute v (Int32.ofNat o) p (Int32.ofNat y) u q) t ∧ AG (oroute v (Int32.ofNat o) p (Int32.ofNat y) u q) o9 t ∧ t 8 1 = F 8 1 ∧ t 8 2 = F 8 2) := by
          intro n127
          induction n127 using Nat.strongRecOn with
          | ind n127 ih127 =>
            intro k f hk hf
            have ok := ofN (n := 12 * o + k) (by omega)
            refine BC.blk c97_127 (fun m6 hm6 => ?_)
            refine c_iload rfl ?_
            refine c_iconst ?_
            refine c_iload rfl ?_
            refine c_bin (ofN_mul (12) (o)) ?_
            refine c_aload rfl ?_
            refine c_gfr (fun _ C _ => C.ar (k := 10) (K := 29) (n := 3) (by decide)) ?_
            refine c_iload rfl ?_
            refine c_ald (fun _ C l9 i9 => (fun z => ⟨z.1, z.2.trans n3⟩) (C.an (k := 10) (K := 29) (n := 3) (by decide) i9 (ofN (by omega)).2)) (fun p1 => ?_)
            refine c_bin (ofN_add ((12 * o)) (N)) ?_
            refine c_icmp_ge (fun d3 => ?_) (fun d3 => ?_)
            · skip
              refine BC.blk c97_206 (fun m7 hm7 => ?_)
              have hkN : k = N := by omega
              rw [if_pos (by omega)] at hf
              subst hf
              refine c_iload rfl ?_
              refine c_if_ne (fun d4 => ?_) (fun d4 => ?_)
              · exact absurd d4 (by decide)
              · skip
                refine c_iload rfl ?_
                refine c_if_ge (fun d5 => ?_) (fun d5 => ?_)
                · skip
                  refine BC.blk c97_231 (fun m8 hm8 => ?_)
                  refine c_iconst ?_
                  refine c_goto ?_
                  refine BC.blk c97_232 (fun m9 hm9 => ?_)
                  refine c_istore rfl ?_
                  refine c_iload rfl ?_
                  refine c_if_lt (fun d6 => ?_) (fun d6 => ?_)
                  · exact absurd d6 (by omega)
                  · skip
                    have jn275 : ∀ (n : Nat) (b : Int32), TB b (¬ F 34 (12 * o + k0) = 0 ∨ y = o ∨ l.length = 3) → BC MR n 97 275 [rf 8 1, .inl (Int32.ofNat o), .inl p, .inl (Int32.ofNat y), .inl u, .inl q, .inl b6, .inl b7, .inl (Int32.ofNat (12 * o + k0)), .inl 0, .inl 0, rf 0 0] [.inl b] (x_u2 F 8 0 0) (fun o9 t => Sim D (vroute v (Int32.ofNat o) p (Int32.ofNat y) u q) t ∧ AG (oroute v (Int32.ofNat o) p (Int32.ofNat y) u q) o9 t ∧ t 8 1 = F 8 1 ∧ t 8 2 = F 8 2) := by
                      intro n275 b tb
                      refine BC.blk c97_275 (fun m10 hm10 => ?_)
                      refine c_istore rfl ?_
                      refine c_iconst ?_
                      refine c_istore rfl ?_
                      refine c_goto ?_
                      have lp280 : ∀ (n : Nat) (i : Nat) (b : Int32), i ≤ l.length → TB b ((¬ F 34 (12 * o + k0) = 0 ∨ y = o ∨ l.length = 3) ∨ Int32.ofNat y ∈ l.take i) → BC MR n 97 280 [rf 8 1, .inl (Int32.ofNat o), .inl p, .inl (Int32.ofNat y), .inl u, .inl q, .inl b6, .inl b7, .inl (Int32.ofNat (12 * o + k0)), .inl 0, .inl b, .inl (Int32.ofNat i)] [] (x_u2 F 8 0 0) (fun o9 t => Sim D (vroute v (Int32.ofNat o) p (Int32.ofNat y) u q) t ∧ AG (oroute v (Int32.ofNat o) p (Int32.ofNat y) u q) o9 t ∧ t 8 1 = F 8 1 ∧ t 8 2 = F 8 2) := by
                        intro n280
                        induction n280 using Nat.strongRecOn with
                        | ind n280 ih280 =>
                          intro i b hi tb
                          have oii := ofN (n := i) (by omega)
                          have o3i := ofN (n := 3 * (12 * o + k0) + i) (by omega)
                          refine BC.blk c97_280 (fun m11 hm11 => ?_)
                          refine c_iload rfl ?_
                          refine c_aload rfl ?_
                          refine c_gfr (fun _ C _ => C.ar (k := 14) (K := 33) (n := 36) (by decide)) ?_
                          refine c_iload rfl ?_
                          refine c_ald (fun _ C l9 i9 => (fun z => ⟨z.1, z.2.trans b8.1⟩) (C.an (k := 14) (K := 33) (n := 36) (by decide) i9 (ofN (by omega)).2)) (fun p2 => ?_)
                          refine c_icmp_ge (fun d7 => ?_) (fun d7 => ?_)
                          · skip
                            refine BC.blk c97_326 (fun m12 hm12 => ?_)
                            refine c_aload rfl ?_
                            refine c_iload rfl ?_
                            refine c_if_eq (fun d8 => ?_) (fun d8 => ?_)
                            · skip
                              refine BC.blk c97_336 (fun m13 hm13 => ?_)
                              refine c_iconst ?_
                              refine c_goto ?_
                              refine BC.blk c97_337 (fun m14 hm14 => ?_)
                              refine d_callv mr_rs (e91) ?_
                              refine c_if_eq (fun d9 => ?_) (fun d9 => ?_)
                              · skip
                                refine BC.blk c97_345 (fun m15 hm15 => ?_)
                                refine c_iload rfl ?_
                                refine c_if_ge (fun d10 => ?_) (fun d10 => ?_)
                                · skip
                                  refine BC.blk c97_406 (fun m16 hm16 => ?_)
                                  refine c_aload rfl ?_
                                  refine c_gfr (fun _ C _ => C.ar (k := 12) (K := 31) (n := 36) (by decide)) ?_
                                  refine c_iload rfl ?_
                                  refine c_iload rfl ?_
                                  refine c_ast (fun _ C l9 i9 => C.sn (k := 12) (K := 31) (n := 36) (by decide) i9 (ofN (by omega)).2) (fun p3 => ?_)
                                  refine c_aload rfl ?_
                                  refine c_gfr (fun _ C _ => C.ar (k := 13) (K := 32) (n := 36) (by decide)) ?_
                                  refine c_iload rfl ?_
                                  refine c_iload rfl ?_
                                  refine c_ast (fun _ C l9 i9 => C.sn (k := 13) (K := 32) (n := 36) (by decide) i9 (ofN (by omega)).2) (fun p4 => ?_)
                                  refine c_iload rfl ?_
                                  refine c_iload rfl ?_
                                  refine c_icmp_eq (fun d11 => ?_) (fun d11 => ?_)
                                  · skip
                                    refine BC.blk c97_458 (fun m17 hm17 => ?_)
                                    refine c_aload rfl ?_
                                    refine c_gfr (fun _ C _ => C.ar (k := 14) (K := 33) (n := 36) (by decide)) ?_
                                    refine c_iload rfl ?_
                                    refine c_ald (fun _ C l9 i9 => C.an (k := 14) (K := 33) (n := 36) (by decide) i9 (ofN (by omega)).2) (fun p5 => ?_)
                                    exact absurd (Or.inl (Or.inr (Or.inl (ofN_inj (by omega) (by omega) d11)))) (tb.f d8)
                                  · skip
                                    refine c_aload rfl ?_
                                    refine c_gfr (fun _ C _ => C.ar (k := 16) (K := 35) (n := 108) (by decide)) ?_
                                    refine c_iconst ?_
                                    refine c_iload rfl ?_
                                    refine c_bin (ofN_mul (3) ((12 * o + k0))) ?_
                                    refine c_aload rfl ?_
                                    refine c_gfr (fun _ C _ => C.ar (k := 14) (K := 33) (n := 36) (by decide)) ?_
                                    refine c_iload rfl ?_
                                    refine c_ald (fun _ C l9 i9 => (fun z => ⟨z.1, z.2.trans ((u2_ne (by decide)).trans ((u2_ne (by decide)).trans b8.1))⟩) (C.an (k := 14) (K := 33) (n := 36) (by decide) i9 (ofN (by omega)).2)) (fun p6 => ?_)
                                    refine c_bin (ofN_add ((3 * (12 * o + k0))) (l.length)) ?_
                                    refine c_iload rfl ?_
                                    refine c_ast (fun _ C l9 i9 => C.sn (k := 16) (K := 35) (n := 108) (by decide) i9 (ofN (by omega)).2) (fun p7 => ?_)
                                    refine c_aload rfl ?_
                                    refine c_gfr (fun _ C _ => C.ar (k := 14) (K := 33) (n := 36) (by decide)) ?_
                                    refine c_iload rfl ?_
                                    refine c_dup2 ?_
                                    refine c_ald (fun _ C l9 i9 => (fun z => ⟨z.1, z.2.trans ((u2_ne (by decide)).trans ((u2_ne (by decide)).trans ((u2_ne (by decide)).trans b8.1)))⟩) (C.an (k := 14) (K := 33) (n := 36) (by decide) i9 (ofN (by omega)).2)) (fun p8 => ?_)
                                    refine c_iconst ?_
                                    refine c_bin (ofN_add (l.length) (1)) ?_
                                    refine c_ast (fun _ C l9 i9 => C.sn (k := 14) (K := 33) (n := 36) (by decide) i9 (ofN (by omega)).2) (fun p9 => ?_)
                                    refine c_goto ?_
                                    refine BC.blk c97_458 (fun m18 hm18 => ?_)
                                    refine c_aload rfl ?_
                                    refine c_gfr (fun _ C _ => C.ar (k := 14) (K := 33) (n := 36) (by decide)) ?_
                                    refine c_iload rfl ?_
                                    refine c_ald (fun _ C l9 i9 => C.an (k := 14) (K := 33) (n := 36) (by decide) i9 (ofN (by omega)).2) (fun p10 => ?_)
                                    have hil : l.take i = l := List.take_of_length_le (by omega)
                                    rw [hil] at tb
                                    have hna : ¬ ((¬ F 34 (12 * o + k0) = 0 ∨ y = o ∨ l.length = 3) ∨ Int32.ofNat y ∈ l) := tb.f d8
                                    have hyo : y ≠ o := fun z => hna (Or.inl (Or.inr (Or.inl z)))
                                    have hl3 : l.length ≠ 3 := fun z => hna (Or.inl (Or.inr (Or.inr z)))
                                    have hya := hch.mpr hna
                                    have h41 : v.1 4 1 m = 0 := by rw [b4]; exact Classical.byContradiction (fun z => hna (Or.inl (Or.inl z)))
                                    have S3 := S2.routeF (u := u) (q := q) ho hk0 hy hyo hm (by rw [hl]; omega) h41
                                    rw [hl] at S3
                                    exact c_iret ⟨by rw [vroute, if_pos hok, if_neg hne0, if_pos hya, hm0]; exact S3, Or.inr ⟨_, by rw [oroute, if_pos hok, if_neg hne0, if_pos hya, hm0, ort2_f h41 b7_ hl b1.1 (by omega)]; exact congrArg oi u2_eq.symm, rfl, rfl⟩, rfl, rfl⟩
                                · skip
                                  first | exact absurd (show (0 : Int) ≤ (Int32.ofNat (12 * o + k0)).toInt by omega) d10 | exact absurd (show (0 : Int) ≤ (Int32.ofNat (12 * o + k0)).toInt by omega) d13
                              · skip
                                refine c_iconst ?_
                                exact absurd (show b2i (0 < (0 : Int32).toInt) = 0 from rfl) d9
                            · skip
                              refine c_iconst ?_
                              refine c_goto ?_
                              refine BC.blk c97_337 (fun m19 hm19 => ?_)
                              refine d_callv mr_rs (e91) ?_
                              refine c_if_eq (fun d12 => ?_) (fun d12 => ?_)
                              · skip
                                refine BC.blk c97_345 (fun m20 hm20 => ?_)
                                refine c_iload rfl ?_
                                refine c_if_ge (fun d13 => ?_) (fun d13 => ?_)
                                · skip
                                  refine BC.blk c97_406 (fun m21 hm21 => ?_)
                                  refine c_aload rfl ?_
                                  refine c_gfr (fun _ C _ => C.ar (k := 12) (K := 31) (n := 36) (by decide)) ?_
                                  refine c_iload rfl ?_
                                  refine c_iload rfl ?_
                                  refine c_ast (fun _ C l9 i9 => C.sn (k := 12) (K := 31) (n := 36) (by decide) i9 (ofN (by omega)).2) (fun p11 => ?_)
                                  refine c_aload rfl ?_
                                  refine c_gfr (fun _ C _ => C.ar (k := 13) (K := 32) (n := 36) (by decide)) ?_
                                  refine c_iload rfl ?_
                                  refine c_iload rfl ?_
                                  refine c_ast (fun _ C l9 i9 => C.sn (k := 13) (K := 32) (n := 36) (by decide) i9 (ofN (by omega)).2) (fun p12 => ?_)
                                  refine c_iload rfl ?_
                                  refine c_iload rfl ?_
                                  refine c_icmp_eq (fun d14 => ?_) (fun d14 => ?_)
                                  · skip
                                    refine BC.blk c97_458 (fun m22 hm22 => ?_)
                                    refine c_aload rfl ?_
                                    refine c_gfr (fun _ C _ => C.ar (k := 14) (K := 33) (n := 36) (by decide)) ?_
                                    refine c_iload rfl ?_
                                    refine c_ald (fun _ C l9 i9 => C.an (k := 14) (K := 33) (n := 36) (by decide) i9 (ofN (by omega)).2) (fun p13 => ?_)
                                    exact absurd d12 (by decide)
                                  · skip
                                    refine c_aload rfl ?_
                                    refine c_gfr (fun _ C _ => C.ar (k := 16) (K := 35) (n := 108) (by decide)) ?_
                                    refine c_iconst ?_
                                    refine c_iload rfl ?_
                                    refine c_bin (ofN_mul (3) ((12 * o + k0))) ?_
                                    refine c_aload rfl ?_
                                    refine c_gfr (fun _ C _ => C.ar (k := 14) (K := 33) (n := 36) (by decide)) ?_
                                    refine c_iload rfl ?_
                                    refine c_ald (fun _ C l9 i9 => (fun z => ⟨z.1, z.2.trans ((u2_ne (by decide)).trans ((u2_ne (by decide)).trans b8.1))⟩) (C.an (k := 14) (K := 33) (n := 36) (by decide) i9 (ofN (by omega)).2)) (fun p14 => ?_)
                                    refine c_bin (ofN_add ((3 * (12 * o + k0))) (l.length)) ?_
                                    refine c_iload rfl ?_
                                    refine c_ast (fun _ C l9 i9 => C.sn (k := 16) (K := 35) (n := 108) (by decide) i9 (ofN (by omega)).2) (fun p15 => ?_)
                                    refine c_aload rfl ?_
                                    refine c_gfr (fun _ C _ => C.ar (k := 14) (K := 33) (n := 36) (by decide)) ?_
                                    refine c_iload rfl ?_
                                    refine c_dup2 ?_
                                    refine c_ald (fun _ C l9 i9 => (fun z => ⟨z.1, z.2.trans ((u2_ne (by decide)).trans ((u2_ne (by decide)).trans ((u2_ne (by decide)).trans b8.1)))⟩) (C.an (k := 14) (K := 33) (n := 36) (by decide) i9 (ofN (by omega)).2)) (fun p16 => ?_)
                                    refine c_iconst ?_
                                    refine c_bin (ofN_add (l.length) (1)) ?_
                                    refine c_ast (fun _ C l9 i9 => C.sn (k := 14) (K := 33) (n := 36) (by decide) i9 (ofN (by omega)).2) (fun p17 => ?_)
                                    refine c_goto ?_
                                    refine BC.blk c97_458 (fun m23 hm23 => ?_)
                                    refine c_aload rfl ?_
                                    refine c_gfr (fun _ C _ => C.ar (k := 14) (K := 33) (n := 36) (by decide)) ?_
                                    refine c_iload rfl ?_
                                    refine c_ald (fun _ C l9 i9 => C.an (k := 14) (K := 33) (n := 36) (by decide) i9 (ofN (by omega)).2) (fun p18 => ?_)
                                    exact absurd d12 (by decide)
                                · skip
                                  first | exact absurd (show (0 : Int) ≤ (Int32.ofNat (12 * o + k0)).toInt by omega) d10 | exact absurd (show (0 : Int) ≤ (Int32.ofNat (12 * o + k0)).toInt by omega) d13
                              · skip
                                refine c_iconst ?_
                                have hil : l.take i = l := List.take_of_length_le (by omega)
                                rw [hil] at tb
                                have hna : ¬ (¬ Int32.ofNat y = Int32.ofNat o ∧ chv v (rtm v (Int32.ofNat o) p) (Int32.ofNat y) = true) := fun z => hch.mp z (tb.t d8)
                                exact c_iret ⟨by rw [vroute, if_pos hok, if_neg hne0, if_neg hna]; exact S1.f8 ⟨by decide, by decide⟩, Or.inl ⟨2, by rw [oroute, if_pos hok, if_neg hne0, if_neg hna], rfl, by decide, by decide⟩, rfl, rfl⟩
                          · skip
                            have hy9 := List.getElem?_eq_getElem (l := l) (i := i) (by omega)
                            have e35 := b8.2 i _ hy9
                            refine c_iload rfl ?_
                            refine c_if_ne (fun d15 => ?_) (fun d15 => ?_)
                            · skip
                              refine BC.blk c97_313 (fun m24 hm24 => ?_)
                              refine c_iconst ?_
                              refine c_goto ?_
                              refine BC.blk c97_318 (fun m25 hm25 => ?_)
                              refine c_istore rfl ?_
                              refine c_iincN (i := i) (k := 1) rfl rfl rfl ?_
                              refine c_goto ?_
                              exact ih280 m25 (by omega) (i + 1) 1 (by omega) (Or.inl ⟨rfl, (tb.t d15).elim Or.inl (fun z => Or.inr (by rw [take_s hy9]; exact List.mem_append_left _ z))⟩)
                            · skip
                              refine c_aload rfl ?_
                              refine c_gfr (fun _ C _ => C.ar (k := 16) (K := 35) (n := 108) (by decide)) ?_
                              refine c_iconst ?_
                              refine c_iload rfl ?_
                              refine c_bin (ofN_mul (3) ((12 * o + k0))) ?_
                              refine c_iload rfl ?_
                              refine c_bin (ofN_add ((3 * (12 * o + k0))) (i)) ?_
                              refine c_ald (fun _ C l9 i9 => (fun z => ⟨z.1, z.2.trans (show _ = F 35 (3 * (12 * o + k0) + i) from rfl)⟩) (C.an (k := 16) (K := 35) (n := 108) (by decide) i9 (ofN (by omega)).2)) (fun p19 => ?_)
                              refine c_iload rfl ?_
                              refine c_icmp_ne (fun d16 => ?_) (fun d16 => ?_)
                              · skip
                                refine BC.blk c97_317 (fun m26 hm26 => ?_)
                                refine c_iconst ?_
                                refine c_goto ?_
                                refine BC.blk c97_318 (fun m27 hm27 => ?_)
                                refine c_istore rfl ?_
                                refine c_iincN (i := i) (k := 1) rfl rfl rfl ?_
                                refine c_goto ?_
                                exact ih280 m27 (by omega) (i + 1) 0 (by omega) (Or.inr ⟨rfl, fun w => w.elim (fun z => tb.f d15 (Or.inl z)) (fun z => by rw [take_s hy9] at z; exact (List.mem_append.mp z).elim (fun y9 => tb.f d15 (Or.inr y9)) (fun y9 => d16 (e35.trans (List.mem_singleton.mp y9).symm)))⟩)
                              · skip
                                refine c_goto ?_
                                refine BC.blk c97_313 (fun m28 hm28 => ?_)
                                refine c_iconst ?_
                                refine c_goto ?_
                                refine BC.blk c97_318 (fun m29 hm29 => ?_)
                                refine c_istore rfl ?_
                                refine c_iincN (i := i) (k := 1) rfl rfl rfl ?_
                                refine c_goto ?_
                                exact ih280 m29 (by omega) (i + 1) 1 (by omega) (Or.inl ⟨rfl, Or.inr (by rw [take_s hy9]; exact List.mem_append_right _ (List.mem_singleton.mpr (d16.symm.trans e35)))⟩)
                      exact lp280 m10 0 b (by omega) (tb.iff ⟨fun w => Or.inl w, fun w => w.elim id (fun z => by rw [List.take_zero] at z; cases z)⟩)
                    refine c_iload rfl ?_
                    refine c_if_ne (fun d17 => ?_) (fun d17 => ?_)
                    · exact absurd d17 (by decide)
                    · skip
                      refine c_aload rfl ?_
                      refine c_gfr (fun _ C _ => C.ar (k := 15) (K := 34) (n := 36) (by decide)) ?_
                      refine c_iload rfl ?_
                      refine c_ald (fun _ C l9 i9 => (fun z => ⟨z.1, z.2.trans (show _ = F 34 (12 * o + k0) from rfl)⟩) (C.an (k := 15) (K := 34) (n := 36) (by decide) i9 (ofN (by omega)).2)) (fun p20 => ?_)
                      refine c_if_ne (fun d18 => ?_) (fun d18 => ?_)
                      · skip
                        refine BC.blk c97_270 (fun m30 hm30 => ?_)
                        refine c_iconst ?_
                        refine c_goto ?_
                        exact jn275 m30 _ (Or.inl ⟨rfl, Or.inl d18⟩)
                      · skip
                        refine c_iload rfl ?_
                        refine c_iload rfl ?_
                        refine c_icmp_eq (fun d19 => ?_) (fun d19 => ?_)
                        · skip
                          refine BC.blk c97_270 (fun m31 hm31 => ?_)
                          refine c_iconst ?_
                          refine c_goto ?_
                          exact jn275 m31 _ (Or.inl ⟨rfl, Or.inr (Or.inl (ofN_inj (by omega) (by omega) d19))⟩)
                        · skip
                          refine c_aload rfl ?_
                          refine c_gfr (fun _ C _ => C.ar (k := 14) (K := 33) (n := 36) (by decide)) ?_
                          refine c_iload rfl ?_
                          refine c_ald (fun _ C l9 i9 => (fun z => ⟨z.1, z.2.trans b8.1⟩) (C.an (k := 14) (K := 33) (n := 36) (by decide) i9 (ofN (by omega)).2)) (fun p21 => ?_)
                          refine c_iconst ?_
                          refine c_icmp_ne (fun d20 => ?_) (fun d20 => ?_)
                          · skip
                            refine BC.blk c97_274 (fun m32 hm32 => ?_)
                            refine c_iconst ?_
                            refine c_goto ?_
                            exact jn275 m32 _ (Or.inr ⟨rfl, fun z => z.elim (fun w => w d18) (fun z => z.elim (fun w => d19 (by rw [w])) (fun w => d20 (by rw [w]; rfl)))⟩)
                          · skip
                            refine c_goto ?_
                            refine BC.blk c97_270 (fun m33 hm33 => ?_)
                            refine c_iconst ?_
                            refine c_goto ?_
                            exact jn275 m33 _ (Or.inl ⟨rfl, Or.inr (Or.inr (ofN_inj (a := l.length) (b := 3) (by omega) (by omega) d20))⟩)
                · skip
                  exact absurd (show (0 : Int) ≤ (Int32.ofNat (12 * o + k0)).toInt by omega) d5
            · skip
              refine c_aload rfl ?_
              refine c_gfr (fun _ C _ => C.ar (k := 11) (K := 30) (n := 36) (by decide)) ?_
              refine c_iload rfl ?_
              refine c_ald (fun _ C l9 i9 => (fun z => ⟨z.1, z.2.trans (show _ = F 30 (12 * o + k) from rfl)⟩) (C.an (k := 11) (K := 30) (n := 36) (by decide) i9 (ofN (by omega)).2)) (fun p22 => ?_)
              refine c_iload rfl ?_
              refine c_icmp_ne (fun d21 => ?_) (fun d21 => ?_)
              · skip
                refine BC.blk c97_159 (fun m34 hm34 => ?_)
                refine c_iload rfl ?_
                refine c_goto ?_
                refine BC.blk c97_161 (fun m35 hm35 => ?_)
                refine c_istore rfl ?_
                refine c_iload rfl ?_
                refine c_if_ne (fun d22 => ?_) (fun d22 => ?_)
                · exact absurd d22 (by decide)
                · skip
                  refine c_aload rfl ?_
                  refine c_gfr (fun _ C _ => C.ar (k := 11) (K := 30) (n := 36) (by decide)) ?_
                  refine c_iload rfl ?_
                  refine c_ald (fun _ C l9 i9 => (fun z => ⟨z.1, z.2.trans (show _ = F 30 (12 * o + k) from rfl)⟩) (C.an (k := 11) (K := 30) (n := 36) (by decide) i9 (ofN (by omega)).2)) (fun p23 => ?_)
                  refine c_iload rfl ?_
                  refine c_icmp_eq (fun d23 => ?_) (fun d23 => ?_)
                  · skip
                    refine BC.blk c97_197 (fun m36 hm36 => ?_)
                    refine c_iconst ?_
                    refine c_goto ?_
                    refine BC.blk c97_198 (fun m37 hm37 => ?_)
                    refine c_istore rfl ?_
                    refine c_iincN (i := (12 * o + k)) (k := 1) rfl rfl rfl ?_
                    refine c_goto ?_
                    exact absurd d23 d21
                  · skip
                    refine c_aload rfl ?_
                    refine c_gfr (fun _ C _ => C.ar (k := 11) (K := 30) (n := 36) (by decide)) ?_
                    refine c_iload rfl ?_
                    refine c_ald (fun _ C l9 i9 => (fun z => ⟨z.1, z.2.trans (show _ = F 30 (12 * o + k) from rfl)⟩) (C.an (k := 11) (K := 30) (n := 36) (by decide) i9 (ofN (by omega)).2)) (fun p24 => ?_)
                    refine c_iload rfl ?_
                    refine p_call mr_rs (e96 (n4 k (by omega)).2.2.1 hp) (fun bo hbo => ?_)
                    refine c_if_eq (fun d24 => ?_) (fun d24 => ?_)
                    · skip
                      refine BC.blk c97_197 (fun m38 hm38 => ?_)
                      refine c_iconst ?_
                      refine c_goto ?_
                      refine BC.blk c97_198 (fun m39 hm39 => ?_)
                      refine c_istore rfl ?_
                      refine c_iincN (i := (12 * o + k)) (k := 1) rfl rfl rfl ?_
                      refine c_goto ?_
                      have hkk : k ≠ k0 := fun z => d21 (by rw [z]; exact h0)
                      refine ih127 m39 (by omega) (k + 1) f (by omega) ?_
                      rw [hf]
                      by_cases z : k0 < k
                      · rw [if_pos z, if_pos (by omega)]
                      · rw [if_neg z, if_neg (by omega)]
                    · skip
                      refine c_goto ?_
                      refine BC.blk c97_193 (fun m40 hm40 => ?_)
                      refine c_iconst ?_
                      refine c_goto ?_
                      refine BC.blk c97_198 (fun m41 hm41 => ?_)
                      refine c_istore rfl ?_
                      refine c_iincN (i := (12 * o + k)) (k := 1) rfl rfl rfl ?_
                      refine c_goto ?_
                      exact absurd (hbo.t d24) (by rw [← h0]; exact n5 k k0 (by omega) hk9 (fun z => d21 (by rw [z]; exact h0)))
              · skip
                refine c_iload rfl ?_
                refine c_goto ?_
                refine BC.blk c97_161 (fun m42 hm42 => ?_)
                refine c_istore rfl ?_
                refine c_iload rfl ?_
                refine c_if_ne (fun d25 => ?_) (fun d25 => ?_)
                · exact absurd d25 (by decide)
                · skip
                  refine c_aload rfl ?_
                  refine c_gfr (fun _ C _ => C.ar (k := 11) (K := 30) (n := 36) (by decide)) ?_
                  refine c_iload rfl ?_
                  refine c_ald (fun _ C l9 i9 => (fun z => ⟨z.1, z.2.trans (show _ = F 30 (12 * o + k) from rfl)⟩) (C.an (k := 11) (K := 30) (n := 36) (by decide) i9 (ofN (by omega)).2)) (fun p25 => ?_)
                  refine c_iload rfl ?_
                  refine c_icmp_eq (fun d26 => ?_) (fun d26 => ?_)
                  · skip
                    refine BC.blk c97_197 (fun m43 hm43 => ?_)
                    refine c_iconst ?_
                    refine c_goto ?_
                    refine BC.blk c97_198 (fun m44 hm44 => ?_)
                    refine c_istore rfl ?_
                    refine c_iincN (i := (12 * o + k)) (k := 1) rfl rfl rfl ?_
                    refine c_goto ?_
                    have hkk : k = k0 := Classical.byContradiction (fun z => n5 k k0 (by omega) hk9 z (Or.inl (by rw [d21, h0])))
                    exact ih127 m44 (by omega) (k + 1) _ (by omega) (by rw [hkk, if_pos (by omega)])
                  · skip
                    refine c_aload rfl ?_
                    refine c_gfr (fun _ C _ => C.ar (k := 11) (K := 30) (n := 36) (by decide)) ?_
                    refine c_iload rfl ?_
                    refine c_ald (fun _ C l9 i9 => (fun z => ⟨z.1, z.2.trans (show _ = F 30 (12 * o + k) from rfl)⟩) (C.an (k := 11) (K := 30) (n := 36) (by decide) i9 (ofN (by omega)).2)) (fun p26 => ?_)
                    refine c_iload rfl ?_
                    refine p_call mr_rs (e96 (n4 k (by omega)).2.2.1 hp) (fun bo hbo => ?_)
                    refine c_if_eq (fun d27 => ?_) (fun d27 => ?_)
                    · skip
                      refine BC.blk c97_197 (fun m45 hm45 => ?_)
                      refine c_iconst ?_
                      refine c_goto ?_
                      refine BC.blk c97_198 (fun m46 hm46 => ?_)
                      refine c_istore rfl ?_
                      refine c_iincN (i := (12 * o + k)) (k := 1) rfl rfl rfl ?_
                      refine c_goto ?_
                      exact absurd d21 d26
                    · skip
                      refine c_goto ?_
                      refine BC.blk c97_193 (fun m47 hm47 => ?_)
                      refine c_iconst ?_
                      refine c_goto ?_
                      refine BC.blk c97_198 (fun m48 hm48 => ?_)
                      refine c_istore rfl ?_
                      refine c_iincN (i := (12 * o + k)) (k := 1) rfl rfl rfl ?_
                      refine c_goto ?_
                      exact absurd d21 d26
        exact lp127 m5 0 (-1) (by omega) (if_neg (by omega)).symm
      · skip
        refine c_iconst ?_
        exact absurd (show b2i (0 < (0 : Int32).toInt) = 0 from rfl) d2
  have jn41 : ∀ (n : Nat) (b : Int32), TB b (pfx2 p.toInt) → BC MR n 97 41 [rf 8 1, .inl (Int32.ofNat o), .inl p, .inl (Int32.ofNat y), .inl u, .inl q, rf 0 0, rf 0 0, rf 0 0, rf 0 0, rf 0 0, rf 0 0] [.inl b] F (fun o9 t => Sim D (vroute v (Int32.ofNat o) p (Int32.ofNat y) u q) t ∧ AG (oroute v (Int32.ofNat o) p (Int32.ofNat y) u q) o9 t ∧ t 8 1 = F 8 1 ∧ t 8 2 = F 8 2) := by
    intro n41 b tb
    refine BC.blk c97_41 (fun m49 hm49 => ?_)
    refine c_istore rfl ?_
    refine c_iload rfl ?_
    refine c_iconst ?_
    refine c_iconst ?_
    refine d_call mr_rs (e92) ?_
    refine c_if_eq (fun d28 => ?_) (fun d28 => ?_)
    · skip
      refine BC.blk c97_93 (fun m50 hm50 => ?_)
      refine c_iconst ?_
      refine c_goto ?_
      exact jn94 m50 _ _ (Or.inr ⟨rfl, fun z => b2i0.mp d28 z.1.1⟩)
    · skip
      refine c_iload rfl ?_
      refine c_if_eq (fun d29 => ?_) (fun d29 => ?_)
      · skip
        refine BC.blk c97_93 (fun m51 hm51 => ?_)
        refine c_iconst ?_
        refine c_goto ?_
        exact jn94 m51 _ _ (Or.inr ⟨rfl, fun z => tb.f d29 z.1.2.2⟩)
      · skip
        refine c_iload rfl ?_
        refine c_iconst ?_
        refine c_iconst ?_
        refine d_call mr_rs (e92) ?_
        refine c_if_eq (fun d30 => ?_) (fun d30 => ?_)
        · skip
          refine BC.blk c97_93 (fun m52 hm52 => ?_)
          refine c_iconst ?_
          refine c_goto ?_
          exact jn94 m52 _ _ (Or.inr ⟨rfl, fun z => b2i0.mp d30 z.1.2.1⟩)
        · skip
          refine c_iload rfl ?_
          refine c_iconst ?_
          refine c_iconst ?_
          refine d_call mr_rs (e92) ?_
          refine c_if_eq (fun d31 => ?_) (fun d31 => ?_)
          · skip
            refine BC.blk c97_93 (fun m53 hm53 => ?_)
            refine c_iconst ?_
            refine c_goto ?_
            exact jn94 m53 _ _ (Or.inr ⟨rfl, fun z => b2i0.mp d31 z.2.1⟩)
          · skip
            refine c_iload rfl ?_
            refine c_iconst ?_
            refine c_iconst ?_
            refine d_call mr_rs (e92) ?_
            refine c_if_eq (fun d32 => ?_) (fun d32 => ?_)
            · skip
              refine BC.blk c97_93 (fun m54 hm54 => ?_)
              refine c_iconst ?_
              refine c_goto ?_
              exact jn94 m54 _ _ (Or.inr ⟨rfl, fun z => b2i0.mp d32 z.2.2⟩)
            · skip
              refine c_iconst ?_
              refine c_goto ?_
              exact jn94 m49 _ _ (Or.inl ⟨rfl, ⟨⟨b2i1.mp d28, b2i1.mp d30, tb.t d29⟩, b2i1.mp d31, b2i1.mp d32⟩⟩)
  refine c_iload rfl ?_
  refine c_iconst ?_
  refine c_iconst ?_
  refine d_call mr_rs (e92) ?_
  refine c_if_ne (fun d33 => ?_) (fun d33 => ?_)
  · skip
    refine BC.blk c97_36 (fun m55 hm55 => ?_)
    refine c_iconst ?_
    refine c_goto ?_
    exact jn41 m55 _ (Or.inl ⟨rfl, Or.inl (b2i1.mp d33)⟩)
  · skip
    refine c_iload rfl ?_
    refine c_iconst ?_
    refine c_iconst ?_
    refine d_call mr_rs (e92) ?_
    refine c_if_ne (fun d34 => ?_) (fun d34 => ?_)
    · skip
      refine BC.blk c97_36 (fun m56 hm56 => ?_)
      refine c_iconst ?_
      refine c_goto ?_
      exact jn41 m56 _ (Or.inl ⟨rfl, Or.inr (Or.inl (b2i1.mp d34))⟩)
    · skip
      refine c_iload rfl ?_
      refine c_iconst ?_
      refine c_iconst ?_
      refine d_call mr_rs (e92) ?_
      refine c_if_eq (fun d35 => ?_) (fun d35 => ?_)
      · skip
        refine BC.blk c97_40 (fun m57 hm57 => ?_)
        refine c_iconst ?_
        refine c_goto ?_
        exact jn41 m57 _ (Or.inr ⟨rfl, fun z => z.elim (b2i0.mp d33) (fun z => z.elim (b2i0.mp d34) (b2i0.mp d35))⟩)
      · skip
        refine c_goto ?_
        refine BC.blk c97_36 (fun m58 hm58 => ?_)
        refine c_iconst ?_
        refine c_goto ?_
        exact jn41 m58 _ (Or.inl ⟨rfl, Or.inr (Or.inr (b2i1.mp d35))⟩)
