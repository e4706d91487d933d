theorem r97n {D : Int} {v : vS} {F : xF} {o y : Nat} {p u q : Int32} (S : Sim D v F) (ho : o < 3) (hy : y < 3) (hok : rtok (Int32.ofNat o) p (Int32.ofNat y) u q) (hn : ∀ k : Nat, (k : Int) < (F 29 o).toInt → ¬ F 30 (12 * o + k) = p) (h5 : v.2.2.2 5 = 90 + v.2.2.2 4) : EC MR 97 [rf 8 1, .inl (Int32.ofNat o), .inl p, .inl (Int32.ofNat y), .inl u, .inl q] F (fun o9 t => Sim D (vroute v (Int32.ofNat o) p (Int32.ofNat y) u q) t ∧ AG (oroute v (Int32.ofNat o) p (Int32.ofNat y) u q) o9 t ∧ t 8 1 = F 8 1 ∧ t 8 2 = F 8 2) := by
  obtain ⟨N, n1, n2, n3, n4, n5⟩ := S.1.rt.1 o ho
  have oN := ofN (n := N) (by omega)
  have oNN := ofN (n := 12 * o + N) (by omega)
  have S1 : Sim D v (x_u2 F 8 0 0) := S.f8 ⟨by decide, by decide⟩
  have S2 : Sim D v (x_u2 (x_u2 F 8 0 0) 8 0 0) := S1.f8 ⟨by decide, by decide⟩
  have hp : pfx p.toInt := hok.1.2.2
  have oo := ofN (n := o) (by omega)
  have oy := ofN (n := y) (by omega)
  have hn9 : ∀ k, k < N → ¬ F 30 (12 * o + k) = p := fun k hk => hn k (by rw [n3, oN.1]; omega)
  have hh := hrf_e n1 n2 n4 hp
  have hm0 : rtm v (Int32.ofNat o) p = 0 := by
    show fro v ((Int32.ofNat o).toNatClampNeg + 1) (rnm v ((Int32.ofNat o).toNatClampNeg + 1) p) = 0
    rw [oo.2]
    exact rtm_n n1 n2 n4 hn9
  refine EC.mk (fun n0 => ?_)
  show BC _ n0 97 0 [rf 8 1, .inl (Int32.ofNat o), .inl p, .inl (Int32.ofNat y), .inl u, .inl q, rf 0 0, rf 0 0, rf 0 0, rf 0 0, rf 0 0, rf 0 0] [] _ _
  refine BC.blk c97_0 (fun m1 hm1 => ?_)
  have jn94 : ∀ (n : Nat) (b7 b6 : Int32), TB b7 (rtok (Int32.ofNat o) p (Int32.ofNat y) u q) → BC MR n 97 94 [rf 8 1, .inl (Int32.ofNat o), .inl p, .inl (Int32.ofNat y), .inl u, .inl q, .inl b6, rf 0 0, rf 0 0, rf 0 0, rf 0 0, rf 0 0] [.inl b7] F (fun o9 t => Sim D (vroute v (Int32.ofNat o) p (Int32.ofNat y) u q) t ∧ AG (oroute v (Int32.ofNat o) p (Int32.ofNat y) u q) o9 t ∧ t 8 1 = F 8 1 ∧ t 8 2 = F 8 2) := by
    intro n94 b7 b6 tb
    refine BC.blk c97_94 (fun m2 hm2 => ?_)
    refine c_istore rfl ?_
    refine c_aload rfl ?_
    refine c_iload rfl ?_
    refine c_if_eq (fun d1 => ?_) (fun d1 => ?_)
    · skip
      refine BC.blk c97_106 (fun m3 hm3 => ?_)
      exact absurd hok (tb.f d1)
    · skip
      refine c_iconst ?_
      refine c_goto ?_
      refine BC.blk c97_107 (fun m4 hm4 => ?_)
      refine d_callv mr_rs (e91) ?_
      refine c_if_eq (fun d2 => ?_) (fun d2 => ?_)
      · skip
        refine BC.blk c97_115 (fun m5 hm5 => ?_)
        refine c_iconst ?_
        refine c_istore rfl ?_
        refine c_iconst ?_
        refine c_istore rfl ?_
        refine c_iconst ?_
        refine c_iload rfl ?_
        refine c_bin (ofN_mul (12) (o)) ?_
        refine c_istore rfl ?_
        refine c_goto ?_
        have lp127 : ∀ (n : Nat) (k : Nat) (b : Int32), k ≤ N → TB b (∃ k', k' < k ∧ ovl (F 30 (12 * o + k')).toInt p.toInt) → BC MR n 97 127 [rf 8 1, .inl (Int32.ofNat o), .inl p, .inl (Int32.ofNat y), .inl u, .inl q, .inl b6, .inl b7,  .inl (-1), .inl b, .inl (Int32.ofNat (12 * o + k)), rf 0 0] [] (x_u2 F 8 0 0) (fun o9 t => Sim D (vroute v (Int32.ofNat o) p (Int32.ofNat y) u q) t ∧ AG (oroute v (Int32.ofNat o) p (Int32.ofNat y) u q) o9 t ∧ t 8 1 = F 8 1 ∧ t 8 2 = F 8 2) := by
          intro n127
          induction n127 using Nat.strongRecOn with
          | ind n127 ih127 =>
            intro k b hk tb
            have ok := ofN (n := 12 * o + k) (by omega)
            refine BC.blk c97_127 (fun m6 hm6 => ?_)
            refine c_iload rfl ?_
            refine c_iconst ?_
            refine c_iload rfl ?_
            refine c_bin (ofN_mul (12) (o)) ?_
            refine c_aload rfl ?_
            refine c_gfr (fun _ C _ => C.ar (k := 10) (K := 29) (n := 3) (by decide)) ?_
            refine c_iload rfl ?_
            refine c_ald (fun _ C l9 i9 => (fun z => ⟨z.1, z.2.trans n3⟩) (C.an (k := 10) (K := 29) (n := 3) (by decide) i9 (ofN (by omega)).2)) (fun p1 => ?_)
            refine c_bin (ofN_add ((12 * o)) (N)) ?_
            refine c_icmp_ge (fun d3 => ?_) (fun d3 => ?_)
            · skip
              refine BC.blk c97_206 (fun m7 hm7 => ?_)
              refine c_iload rfl ?_
              refine c_if_ne (fun d4 => ?_) (fun d4 => ?_)
              · skip
                refine BC.blk c97_227 (fun m8 hm8 => ?_)
                refine c_iconst ?_
                refine c_goto ?_
                refine BC.blk c97_232 (fun m9 hm9 => ?_)
                refine c_istore rfl ?_
                refine c_iload rfl ?_
                refine c_if_lt (fun d5 => ?_) (fun d5 => ?_)
                · skip
                  refine BC.blk c97_326 (fun m10 hm10 => ?_)
                  refine c_aload rfl ?_
                  refine c_iload rfl ?_
                  refine c_if_eq (fun d6 => ?_) (fun d6 => ?_)
                  · exact absurd d6 (by decide)
                  · skip
                    refine c_iconst ?_
                    refine c_goto ?_
                    refine BC.blk c97_337 (fun m11 hm11 => ?_)
                    refine d_callv mr_rs (e91) ?_
                    refine c_if_eq (fun d7 => ?_) (fun d7 => ?_)
                    · skip
                      refine BC.blk c97_345 (fun m12 hm12 => ?_)
                      refine c_iload rfl ?_
                      refine c_if_ge (fun d8 => ?_) (fun d8 => ?_)
                      · exact absurd d8 (by decide)
                      · skip
                        refine c_iconst ?_
                        refine c_iload rfl ?_
                        refine c_bin (ofN_mul (12) (o)) ?_
                        refine c_aload rfl ?_
                        refine c_gfr (fun _ C _ => C.ar (k := 10) (K := 29) (n := 3) (by decide)) ?_
                        refine c_iload rfl ?_
                        refine c_ald (fun _ C l9 i9 => (fun z => ⟨z.1, z.2.trans n3⟩) (C.an (k := 10) (K := 29) (n := 3) (by decide) i9 (ofN (by omega)).2)) (fun p2 => ?_)
                        refine c_bin (ofN_add ((12 * o)) (N)) ?_
                        refine c_istore rfl ?_
                        refine c_aload rfl ?_
                        refine c_gfr (fun _ C _ => C.ar (k := 10) (K := 29) (n := 3) (by decide)) ?_
                        refine c_iload rfl ?_
                        refine c_dup2 ?_
                        refine c_ald (fun _ C l9 i9 => (fun z => ⟨z.1, z.2.trans n3⟩) (C.an (k := 10) (K := 29) (n := 3) (by decide) i9 (ofN (by omega)).2)) (fun p3 => ?_)
                        refine c_iconst ?_
                        refine c_bin (ofN_add (N) (1)) ?_
                        refine c_ast (fun _ C l9 i9 => C.sn (k := 10) (K := 29) (n := 3) (by decide) i9 (ofN (by omega)).2) (fun p4 => ?_)
                        refine c_aload rfl ?_
                        refine c_gfr (fun _ C _ => C.ar (k := 11) (K := 30) (n := 36) (by decide)) ?_
                        refine c_iload rfl ?_
                        refine c_iload rfl ?_
                        refine c_ast (fun _ C l9 i9 => C.sn (k := 11) (K := 30) (n := 36) (by decide) i9 (ofN (by omega)).2) (fun p5 => ?_)
                        refine c_aload rfl ?_
                        refine c_gfr (fun _ C _ => C.ar (k := 15) (K := 34) (n := 36) (by decide)) ?_
                        refine c_iload rfl ?_
                        refine c_iload rfl ?_
                        refine c_iload rfl ?_
                        refine c_icmp_ne (fun d9 => ?_) (fun d9 => ?_)
                        · skip
                          refine BC.blk c97_396 (fun m13 hm13 => ?_)
                          refine c_iconst ?_
                          refine c_goto ?_
                          refine BC.blk c97_397 (fun m14 hm14 => ?_)
                          refine c_zst (fun _ C l9 i9 => C.sn (k := 15) (K := 34) (n := 36) (by decide) i9 (ofN (by omega)).2) (fun p6 => ?_)
                          refine c_aload rfl ?_
                          refine c_gfr (fun _ C _ => C.ar (k := 14) (K := 33) (n := 36) (by decide)) ?_
                          refine c_iload rfl ?_
                          refine c_iconst ?_
                          refine c_ast (fun _ C l9 i9 => C.sn (k := 14) (K := 33) (n := 36) (by decide) i9 (ofN (by omega)).2) (fun p7 => ?_)
                          refine c_goto ?_
                          refine BC.blk c97_406 (fun m15 hm15 => ?_)
                          refine c_aload rfl ?_
                          refine c_gfr (fun _ C _ => C.ar (k := 12) (K := 31) (n := 36) (by decide)) ?_
                          refine c_iload rfl ?_
                          refine c_iload rfl ?_
                          refine c_ast (fun _ C l9 i9 => C.sn (k := 12) (K := 31) (n := 36) (by decide) i9 (ofN (by omega)).2) (fun p8 => ?_)
                          refine c_aload rfl ?_
                          refine c_gfr (fun _ C _ => C.ar (k := 13) (K := 32) (n := 36) (by decide)) ?_
                          refine c_iload rfl ?_
                          refine c_iload rfl ?_
                          refine c_ast (fun _ C l9 i9 => C.sn (k := 13) (K := 32) (n := 36) (by decide) i9 (ofN (by omega)).2) (fun p9 => ?_)
                          refine c_iload rfl ?_
                          refine c_iload rfl ?_
                          refine c_icmp_eq (fun d10 => ?_) (fun d10 => ?_)
                          · skip
                            refine BC.blk c97_458 (fun m16 hm16 => ?_)
                            refine c_aload rfl ?_
                            refine c_gfr (fun _ C _ => C.ar (k := 14) (K := 33) (n := 36) (by decide)) ?_
                            refine c_iload rfl ?_
                            refine c_ald (fun _ C l9 i9 => C.an (k := 14) (K := 33) (n := 36) (by decide) i9 (ofN (by omega)).2) (fun p10 => ?_)
                            exact absurd d7 (by decide)
                          · skip
                            refine c_aload rfl ?_
                            refine c_gfr (fun _ C _ => C.ar (k := 16) (K := 35) (n := 108) (by decide)) ?_
                            refine c_iconst ?_
                            refine c_iload rfl ?_
                            refine c_bin (ofN_mul (3) (((12 * o) + N))) ?_
                            refine c_aload rfl ?_
                            refine c_gfr (fun _ C _ => C.ar (k := 14) (K := 33) (n := 36) (by decide)) ?_
                            refine c_iload rfl ?_
                            refine c_ald (fun _ C l9 i9 => (fun z => ⟨z.1, z.2.trans (show _ = Int32.ofNat 0 from ((u2_ne (by decide)).trans ((u2_ne (by decide)).trans u2_eq)))⟩) (C.an (k := 14) (K := 33) (n := 36) (by decide) i9 (ofN (by omega)).2)) (fun p11 => ?_)
                            refine c_bin (ofN_add ((3 * ((12 * o) + N))) (0)) ?_
                            refine c_iload rfl ?_
                            refine c_ast (fun _ C l9 i9 => C.sn (k := 16) (K := 35) (n := 108) (by decide) i9 (ofN (by omega)).2) (fun p12 => ?_)
                            refine c_aload rfl ?_
                            refine c_gfr (fun _ C _ => C.ar (k := 14) (K := 33) (n := 36) (by decide)) ?_
                            refine c_iload rfl ?_
                            refine c_dup2 ?_
                            refine c_ald (fun _ C l9 i9 => (fun z => ⟨z.1, z.2.trans (show _ = Int32.ofNat 0 from ((u2_ne (by decide)).trans ((u2_ne (by decide)).trans ((u2_ne (by decide)).trans u2_eq))))⟩) (C.an (k := 14) (K := 33) (n := 36) (by decide) i9 (ofN (by omega)).2)) (fun p13 => ?_)
                            refine c_iconst ?_
                            refine c_bin (ofN_add (0) (1)) ?_
                            refine c_ast (fun _ C l9 i9 => C.sn (k := 14) (K := 33) (n := 36) (by decide) i9 (ofN (by omega)).2) (fun p14 => ?_)
                            refine c_goto ?_
                            refine BC.blk c97_458 (fun m17 hm17 => ?_)
                            refine c_aload rfl ?_
                            refine c_gfr (fun _ C _ => C.ar (k := 14) (K := 33) (n := 36) (by decide)) ?_
                            refine c_iload rfl ?_
                            refine c_ald (fun _ C l9 i9 => C.an (k := 14) (K := 33) (n := 36) (by decide) i9 (ofN (by omega)).2) (fun p15 => ?_)
                            exact absurd d7 (by decide)
                        · skip
                          refine c_iconst ?_
                          refine c_goto ?_
                          refine BC.blk c97_397 (fun m18 hm18 => ?_)
                          refine c_zst (fun _ C l9 i9 => C.sn (k := 15) (K := 34) (n := 36) (by decide) i9 (ofN (by omega)).2) (fun p16 => ?_)
                          refine c_aload rfl ?_
                          refine c_gfr (fun _ C _ => C.ar (k := 14) (K := 33) (n := 36) (by decide)) ?_
                          refine c_iload rfl ?_
                          refine c_iconst ?_
                          refine c_ast (fun _ C l9 i9 => C.sn (k := 14) (K := 33) (n := 36) (by decide) i9 (ofN (by omega)).2) (fun p17 => ?_)
                          refine c_goto ?_
                          refine BC.blk c97_406 (fun m19 hm19 => ?_)
                          refine c_aload rfl ?_
                          refine c_gfr (fun _ C _ => C.ar (k := 12) (K := 31) (n := 36) (by decide)) ?_
                          refine c_iload rfl ?_
                          refine c_iload rfl ?_
                          refine c_ast (fun _ C l9 i9 => C.sn (k := 12) (K := 31) (n := 36) (by decide) i9 (ofN (by omega)).2) (fun p18 => ?_)
                          refine c_aload rfl ?_
                          refine c_gfr (fun _ C _ => C.ar (k := 13) (K := 32) (n := 36) (by decide)) ?_
                          refine c_iload rfl ?_
                          refine c_iload rfl ?_
                          refine c_ast (fun _ C l9 i9 => C.sn (k := 13) (K := 32) (n := 36) (by decide) i9 (ofN (by omega)).2) (fun p19 => ?_)
                          refine c_iload rfl ?_
                          refine c_iload rfl ?_
                          refine c_icmp_eq (fun d11 => ?_) (fun d11 => ?_)
                          · skip
                            refine BC.blk c97_458 (fun m20 hm20 => ?_)
                            refine c_aload rfl ?_
                            refine c_gfr (fun _ C _ => C.ar (k := 14) (K := 33) (n := 36) (by decide)) ?_
                            refine c_iload rfl ?_
                            refine c_ald (fun _ C l9 i9 => C.an (k := 14) (K := 33) (n := 36) (by decide) i9 (ofN (by omega)).2) (fun p20 => ?_)
                            exact absurd d7 (by decide)
                          · skip
                            refine c_aload rfl ?_
                            refine c_gfr (fun _ C _ => C.ar (k := 16) (K := 35) (n := 108) (by decide)) ?_
                            refine c_iconst ?_
                            refine c_iload rfl ?_
                            refine c_bin (ofN_mul (3) (((12 * o) + N))) ?_
                            refine c_aload rfl ?_
                            refine c_gfr (fun _ C _ => C.ar (k := 14) (K := 33) (n := 36) (by decide)) ?_
                            refine c_iload rfl ?_
                            refine c_ald (fun _ C l9 i9 => (fun z => ⟨z.1, z.2.trans (show _ = Int32.ofNat 0 from ((u2_ne (by decide)).trans ((u2_ne (by decide)).trans u2_eq)))⟩) (C.an (k := 14) (K := 33) (n := 36) (by decide) i9 (ofN (by omega)).2)) (fun p21 => ?_)
                            refine c_bin (ofN_add ((3 * ((12 * o) + N))) (0)) ?_
                            refine c_iload rfl ?_
                            refine c_ast (fun _ C l9 i9 => C.sn (k := 16) (K := 35) (n := 108) (by decide) i9 (ofN (by omega)).2) (fun p22 => ?_)
                            refine c_aload rfl ?_
                            refine c_gfr (fun _ C _ => C.ar (k := 14) (K := 33) (n := 36) (by decide)) ?_
                            refine c_iload rfl ?_
                            refine c_dup2 ?_
                            refine c_ald (fun _ C l9 i9 => (fun z => ⟨z.1, z.2.trans (show _ = Int32.ofNat 0 from ((u2_ne (by decide)).trans ((u2_ne (by decide)).trans ((u2_ne (by decide)).trans u2_eq))))⟩) (C.an (k := 14) (K := 33) (n := 36) (by decide) i9 (ofN (by omega)).2)) (fun p23 => ?_)
                            refine c_iconst ?_
                            refine c_bin (ofN_add (0) (1)) ?_
                            refine c_ast (fun _ C l9 i9 => C.sn (k := 14) (K := 33) (n := 36) (by decide) i9 (ofN (by omega)).2) (fun p24 => ?_)
                            refine c_goto ?_
                            refine BC.blk c97_458 (fun m21 hm21 => ?_)
                            refine c_aload rfl ?_
                            refine c_gfr (fun _ C _ => C.ar (k := 14) (K := 33) (n := 36) (by decide)) ?_
                            refine c_iload rfl ?_
                            refine c_ald (fun _ C l9 i9 => C.an (k := 14) (K := 33) (n := 36) (by decide) i9 (ofN (by omega)).2) (fun p25 => ?_)
                            exact absurd d7 (by decide)
                    · skip
                      refine c_iconst ?_
                      have hna : ¬ hrf v ((Int32.ofNat o).toNatClampNeg + 1) p = true := by
                        rw [oo.2, hh]
                        exact fun z => (tb.t d4).elim (fun k' w => z.2 k' (by omega) w.2)
                      exact c_iret ⟨by rw [vroute, if_pos hok, if_pos hm0, if_neg hna]; exact S1.f8 ⟨by decide, by decide⟩, Or.inl ⟨2, by rw [oroute, if_pos hok, if_pos hm0, if_neg hna], rfl, by decide, by decide⟩, rfl, rfl⟩
                · exact absurd d5 (by decide)
              · skip
                refine c_iload rfl ?_
                refine c_if_ge (fun d12 => ?_) (fun d12 => ?_)
                · exact absurd d12 (by decide)
                · skip
                  refine c_aload rfl ?_
                  refine c_gfr (fun _ C _ => C.ar (k := 10) (K := 29) (n := 3) (by decide)) ?_
                  refine c_iload rfl ?_
                  refine c_ald (fun _ C l9 i9 => (fun z => ⟨z.1, z.2.trans n3⟩) (C.an (k := 10) (K := 29) (n := 3) (by decide) i9 (ofN (by omega)).2)) (fun p26 => ?_)
                  refine c_iconst ?_
                  refine c_icmp_ne (fun d13 => ?_) (fun d13 => ?_)
                  · skip
                    refine BC.blk c97_231 (fun m22 hm22 => ?_)
                    refine c_iconst ?_
                    refine c_goto ?_
                    refine BC.blk c97_232 (fun m23 hm23 => ?_)
                    refine c_istore rfl ?_
                    refine c_iload rfl ?_
                    refine c_if_lt (fun d14 => ?_) (fun d14 => ?_)
                    · skip
                      refine BC.blk c97_326 (fun m24 hm24 => ?_)
                      refine c_aload rfl ?_
                      refine c_iload rfl ?_
                      refine c_if_eq (fun d15 => ?_) (fun d15 => ?_)
                      · skip
                        refine BC.blk c97_336 (fun m25 hm25 => ?_)
                        refine c_iconst ?_
                        refine c_goto ?_
                        refine BC.blk c97_337 (fun m26 hm26 => ?_)
                        refine d_callv mr_rs (e91) ?_
                        refine c_if_eq (fun d16 => ?_) (fun d16 => ?_)
                        · skip
                          refine BC.blk c97_345 (fun m27 hm27 => ?_)
                          refine c_iload rfl ?_
                          refine c_if_ge (fun d17 => ?_) (fun d17 => ?_)
                          · exact absurd d17 (by decide)
                          · skip
                            refine c_iconst ?_
                            refine c_iload rfl ?_
                            refine c_bin (ofN_mul (12) (o)) ?_
                            refine c_aload rfl ?_
                            refine c_gfr (fun _ C _ => C.ar (k := 10) (K := 29) (n := 3) (by decide)) ?_
                            refine c_iload rfl ?_
                            refine c_ald (fun _ C l9 i9 => (fun z => ⟨z.1, z.2.trans n3⟩) (C.an (k := 10) (K := 29) (n := 3) (by decide) i9 (ofN (by omega)).2)) (fun p27 => ?_)
                            refine c_bin (ofN_add ((12 * o)) (N)) ?_
                            refine c_istore rfl ?_
                            refine c_aload rfl ?_
                            refine c_gfr (fun _ C _ => C.ar (k := 10) (K := 29) (n := 3) (by decide)) ?_
                            refine c_iload rfl ?_
                            refine c_dup2 ?_
                            refine c_ald (fun _ C l9 i9 => (fun z => ⟨z.1, z.2.trans n3⟩) (C.an (k := 10) (K := 29) (n := 3) (by decide) i9 (ofN (by omega)).2)) (fun p28 => ?_)
                            refine c_iconst ?_
                            refine c_bin (ofN_add (N) (1)) ?_
                            refine c_ast (fun _ C l9 i9 => C.sn (k := 10) (K := 29) (n := 3) (by decide) i9 (ofN (by omega)).2) (fun p29 => ?_)
                            refine c_aload rfl ?_
                            refine c_gfr (fun _ C _ => C.ar (k := 11) (K := 30) (n := 36) (by decide)) ?_
                            refine c_iload rfl ?_
                            refine c_iload rfl ?_
                            refine c_ast (fun _ C l9 i9 => C.sn (k := 11) (K := 30) (n := 36) (by decide) i9 (ofN (by omega)).2) (fun p30 => ?_)
                            refine c_aload rfl ?_
                            refine c_gfr (fun _ C _ => C.ar (k := 15) (K := 34) (n := 36) (by decide)) ?_
                            refine c_iload rfl ?_
                            refine c_iload rfl ?_
                            refine c_iload rfl ?_
                            refine c_icmp_ne (fun d18 => ?_) (fun d18 => ?_)
                            · skip
                              refine BC.blk c97_396 (fun m28 hm28 => ?_)
                              refine c_iconst ?_
                              refine c_goto ?_
                              refine BC.blk c97_397 (fun m29 hm29 => ?_)
                              refine c_zst (fun _ C l9 i9 => C.sn (k := 15) (K := 34) (n := 36) (by decide) i9 (ofN (by omega)).2) (fun p31 => ?_)
                              refine c_aload rfl ?_
                              refine c_gfr (fun _ C _ => C.ar (k := 14) (K := 33) (n := 36) (by decide)) ?_
                              refine c_iload rfl ?_
                              refine c_iconst ?_
                              refine c_ast (fun _ C l9 i9 => C.sn (k := 14) (K := 33) (n := 36) (by decide) i9 (ofN (by omega)).2) (fun p32 => ?_)
                              refine c_goto ?_
                              refine BC.blk c97_406 (fun m30 hm30 => ?_)
                              refine c_aload rfl ?_
                              refine c_gfr (fun _ C _ => C.ar (k := 12) (K := 31) (n := 36) (by decide)) ?_
                              refine c_iload rfl ?_
                              refine c_iload rfl ?_
                              refine c_ast (fun _ C l9 i9 => C.sn (k := 12) (K := 31) (n := 36) (by decide) i9 (ofN (by omega)).2) (fun p33 => ?_)
                              refine c_aload rfl ?_
                              refine c_gfr (fun _ C _ => C.ar (k := 13) (K := 32) (n := 36) (by decide)) ?_
                              refine c_iload rfl ?_
                              refine c_iload rfl ?_
                              refine c_ast (fun _ C l9 i9 => C.sn (k := 13) (K := 32) (n := 36) (by decide) i9 (ofN (by omega)).2) (fun p34 => ?_)
                              refine c_iload rfl ?_
                              refine c_iload rfl ?_
                              refine c_icmp_eq (fun d19 => ?_) (fun d19 => ?_)
                              · skip
                                refine BC.blk c97_458 (fun m31 hm31 => ?_)
                                refine c_aload rfl ?_
                                refine c_gfr (fun _ C _ => C.ar (k := 14) (K := 33) (n := 36) (by decide)) ?_
                                refine c_iload rfl ?_
                                refine c_ald (fun _ C l9 i9 => C.an (k := 14) (K := 33) (n := 36) (by decide) i9 (ofN (by omega)).2) (fun p35 => ?_)
                                exact absurd d19 d18
                              · skip
                                refine c_aload rfl ?_
                                refine c_gfr (fun _ C _ => C.ar (k := 16) (K := 35) (n := 108) (by decide)) ?_
                                refine c_iconst ?_
                                refine c_iload rfl ?_
                                refine c_bin (ofN_mul (3) (((12 * o) + N))) ?_
                                refine c_aload rfl ?_
                                refine c_gfr (fun _ C _ => C.ar (k := 14) (K := 33) (n := 36) (by decide)) ?_
                                refine c_iload rfl ?_
                                refine c_ald (fun _ C l9 i9 => (fun z => ⟨z.1, z.2.trans (show _ = Int32.ofNat 0 from ((u2_ne (by decide)).trans ((u2_ne (by decide)).trans u2_eq)))⟩) (C.an (k := 14) (K := 33) (n := 36) (by decide) i9 (ofN (by omega)).2)) (fun p36 => ?_)
                                refine c_bin (ofN_add ((3 * ((12 * o) + N))) (0)) ?_
                                refine c_iload rfl ?_
                                refine c_ast (fun _ C l9 i9 => C.sn (k := 16) (K := 35) (n := 108) (by decide) i9 (ofN (by omega)).2) (fun p37 => ?_)
                                refine c_aload rfl ?_
                                refine c_gfr (fun _ C _ => C.ar (k := 14) (K := 33) (n := 36) (by decide)) ?_
                                refine c_iload rfl ?_
                                refine c_dup2 ?_
                                refine c_ald (fun _ C l9 i9 => (fun z => ⟨z.1, z.2.trans (show _ = Int32.ofNat 0 from ((u2_ne (by decide)).trans ((u2_ne (by decide)).trans ((u2_ne (by decide)).trans u2_eq))))⟩) (C.an (k := 14) (K := 33) (n := 36) (by decide) i9 (ofN (by omega)).2)) (fun p38 => ?_)
                                refine c_iconst ?_
                                refine c_bin (ofN_add (0) (1)) ?_
                                refine c_ast (fun _ C l9 i9 => C.sn (k := 14) (K := 33) (n := 36) (by decide) i9 (ofN (by omega)).2) (fun p39 => ?_)
                                refine c_goto ?_
                                refine BC.blk c97_458 (fun m32 hm32 => ?_)
                                refine c_aload rfl ?_
                                refine c_gfr (fun _ C _ => C.ar (k := 14) (K := 33) (n := 36) (by decide)) ?_
                                refine c_iload rfl ?_
                                refine c_ald (fun _ C l9 i9 => C.an (k := 14) (K := 33) (n := 36) (by decide) i9 (ofN (by omega)).2) (fun p40 => ?_)
                                have hlt : N < 12 := by
                                  have : N ≠ 12 := fun z => d13 (by rw [z]; rfl)
                                  omega
                                have hkN : k = N := by omega
                                have hov : ∀ k', k' < N → ¬ ovl (F 30 (12 * o + k')).toInt p.toInt := fun k' z w => tb.f d4 ⟨k', by omega, w⟩
                                have hya : hrf v ((Int32.ofNat o).toNatClampNeg + 1) p = true := by
                                  rw [oo.2, hh]
                                  exact ⟨hlt, hov⟩
                                have hyo : y ≠ o := fun z => d18 (by rw [z])
                                have S3 := S2.routeN0 (u := u) (q := q) ho hy hyo hlt n3 h5 hp hov
                                exact c_iret ⟨by rw [vroute, if_pos hok, if_pos hm0, if_pos hya]; exact S3.1, Or.inr ⟨_, by rw [oroute, if_pos hok, if_pos hm0, if_pos hya, S3.2]; rfl, rfl, rfl⟩, rfl, rfl⟩
                            · skip
                              refine c_iconst ?_
                              refine c_goto ?_
                              refine BC.blk c97_397 (fun m33 hm33 => ?_)
                              refine c_zst (fun _ C l9 i9 => C.sn (k := 15) (K := 34) (n := 36) (by decide) i9 (ofN (by omega)).2) (fun p41 => ?_)
                              refine c_aload rfl ?_
                              refine c_gfr (fun _ C _ => C.ar (k := 14) (K := 33) (n := 36) (by decide)) ?_
                              refine c_iload rfl ?_
                              refine c_iconst ?_
                              refine c_ast (fun _ C l9 i9 => C.sn (k := 14) (K := 33) (n := 36) (by decide) i9 (ofN (by omega)).2) (fun p42 => ?_)
                              refine c_goto ?_
                              refine BC.blk c97_406 (fun m34 hm34 => ?_)
                              refine c_aload rfl ?_
                              refine c_gfr (fun _ C _ => C.ar (k := 12) (K := 31) (n := 36) (by decide)) ?_
                              refine c_iload rfl ?_
                              refine c_iload rfl ?_
                              refine c_ast (fun _ C l9 i9 => C.sn (k := 12) (K := 31) (n := 36) (by decide) i9 (ofN (by omega)).2) (fun p43 => ?_)
                              refine c_aload rfl ?_
                              refine c_gfr (fun _ C _ => C.ar (k := 13) (K := 32) (n := 36) (by decide)) ?_
                              refine c_iload rfl ?_
                              refine c_iload rfl ?_
                              refine c_ast (fun _ C l9 i9 => C.sn (k := 13) (K := 32) (n := 36) (by decide) i9 (ofN (by omega)).2) (fun p44 => ?_)
                              refine c_iload rfl ?_
                              refine c_iload rfl ?_
                              refine c_icmp_eq (fun d20 => ?_) (fun d20 => ?_)
                              · skip
                                refine BC.blk c97_458 (fun m35 hm35 => ?_)
                                refine c_aload rfl ?_
                                refine c_gfr (fun _ C _ => C.ar (k := 14) (K := 33) (n := 36) (by decide)) ?_
                                refine c_iload rfl ?_
                                refine c_ald (fun _ C l9 i9 => C.an (k := 14) (K := 33) (n := 36) (by decide) i9 (ofN (by omega)).2) (fun p45 => ?_)
                                have hlt : N < 12 := by
                                  have : N ≠ 12 := fun z => d13 (by rw [z]; rfl)
                                  omega
                                have hkN : k = N := by omega
                                have hov : ∀ k', k' < N → ¬ ovl (F 30 (12 * o + k')).toInt p.toInt := fun k' z w => tb.f d4 ⟨k', by omega, w⟩
                                have hya : hrf v ((Int32.ofNat o).toNatClampNeg + 1) p = true := by
                                  rw [oo.2, hh]
                                  exact ⟨hlt, hov⟩
                                obtain rfl : o = y := ofN_inj (by omega) (by omega) d18.symm
                                have S3 := S2.routeN1 (u := u) (q := q) ho hlt n3 h5 hp hov
                                exact c_iret ⟨by rw [vroute, if_pos hok, if_pos hm0, if_pos hya]; exact S3.1, Or.inr ⟨_, by rw [oroute, if_pos hok, if_pos hm0, if_pos hya, S3.2]; rfl, rfl, rfl⟩, rfl, rfl⟩
                              · skip
                                refine c_aload rfl ?_
                                refine c_gfr (fun _ C _ => C.ar (k := 16) (K := 35) (n := 108) (by decide)) ?_
                                refine c_iconst ?_
                                refine c_iload rfl ?_
                                refine c_bin (ofN_mul (3) (((12 * o) + N))) ?_
                                refine c_aload rfl ?_
                                refine c_gfr (fun _ C _ => C.ar (k := 14) (K := 33) (n := 36) (by decide)) ?_
                                refine c_iload rfl ?_
                                refine c_ald (fun _ C l9 i9 => (fun z => ⟨z.1, z.2.trans (show _ = Int32.ofNat 0 from ((u2_ne (by decide)).trans ((u2_ne (by decide)).trans u2_eq)))⟩) (C.an (k := 14) (K := 33) (n := 36) (by decide) i9 (ofN (by omega)).2)) (fun p46 => ?_)
                                refine c_bin (ofN_add ((3 * ((12 * o) + N))) (0)) ?_
                                refine c_iload rfl ?_
                                refine c_ast (fun _ C l9 i9 => C.sn (k := 16) (K := 35) (n := 108) (by decide) i9 (ofN (by omega)).2) (fun p47 => ?_)
                                refine c_aload rfl ?_
                                refine c_gfr (fun _ C _ => C.ar (k := 14) (K := 33) (n := 36) (by decide)) ?_
                                refine c_iload rfl ?_
                                refine c_dup2 ?_
                                refine c_ald (fun _ C l9 i9 => (fun z => ⟨z.1, z.2.trans (show _ = Int32.ofNat 0 from ((u2_ne (by decide)).trans ((u2_ne (by decide)).trans ((u2_ne (by decide)).trans u2_eq))))⟩) (C.an (k := 14) (K := 33) (n := 36) (by decide) i9 (ofN (by omega)).2)) (fun p48 => ?_)
                                refine c_iconst ?_
                                refine c_bin (ofN_add (0) (1)) ?_
                                refine c_ast (fun _ C l9 i9 => C.sn (k := 14) (K := 33) (n := 36) (by decide) i9 (ofN (by omega)).2) (fun p49 => ?_)
                                refine c_goto ?_
                                refine BC.blk c97_458 (fun m36 hm36 => ?_)
                                refine c_aload rfl ?_
                                refine c_gfr (fun _ C _ => C.ar (k := 14) (K := 33) (n := 36) (by decide)) ?_
                                refine c_iload rfl ?_
                                refine c_ald (fun _ C l9 i9 => C.an (k := 14) (K := 33) (n := 36) (by decide) i9 (ofN (by omega)).2) (fun p50 => ?_)
                                exact absurd d18 d20
                        · skip
                          refine c_iconst ?_
                          exact absurd (show b2i (0 < (0 : Int32).toInt) = 0 from rfl) d16
                      · exact absurd d15 (by decide)
                    · exact absurd d14 (by decide)
                  · skip
                    refine c_goto ?_
                    refine BC.blk c97_227 (fun m37 hm37 => ?_)
                    refine c_iconst ?_
                    refine c_goto ?_
                    refine BC.blk c97_232 (fun m38 hm38 => ?_)
                    refine c_istore rfl ?_
                    refine c_iload rfl ?_
                    refine c_if_lt (fun d21 => ?_) (fun d21 => ?_)
                    · skip
                      refine BC.blk c97_326 (fun m39 hm39 => ?_)
                      refine c_aload rfl ?_
                      refine c_iload rfl ?_
                      refine c_if_eq (fun d22 => ?_) (fun d22 => ?_)
                      · exact absurd d22 (by decide)
                      · skip
                        refine c_iconst ?_
                        refine c_goto ?_
                        refine BC.blk c97_337 (fun m40 hm40 => ?_)
                        refine d_callv mr_rs (e91) ?_
                        refine c_if_eq (fun d23 => ?_) (fun d23 => ?_)
                        · skip
                          refine BC.blk c97_345 (fun m41 hm41 => ?_)
                          refine c_iload rfl ?_
                          refine c_if_ge (fun d24 => ?_) (fun d24 => ?_)
                          · exact absurd d24 (by decide)
                          · skip
                            refine c_iconst ?_
                            refine c_iload rfl ?_
                            refine c_bin (ofN_mul (12) (o)) ?_
                            refine c_aload rfl ?_
                            refine c_gfr (fun _ C _ => C.ar (k := 10) (K := 29) (n := 3) (by decide)) ?_
                            refine c_iload rfl ?_
                            refine c_ald (fun _ C l9 i9 => (fun z => ⟨z.1, z.2.trans n3⟩) (C.an (k := 10) (K := 29) (n := 3) (by decide) i9 (ofN (by omega)).2)) (fun p51 => ?_)
                            refine c_bin (ofN_add ((12 * o)) (N)) ?_
                            refine c_istore rfl ?_
                            refine c_aload rfl ?_
                            refine c_gfr (fun _ C _ => C.ar (k := 10) (K := 29) (n := 3) (by decide)) ?_
                            refine c_iload rfl ?_
                            refine c_dup2 ?_
                            refine c_ald (fun _ C l9 i9 => (fun z => ⟨z.1, z.2.trans n3⟩) (C.an (k := 10) (K := 29) (n := 3) (by decide) i9 (ofN (by omega)).2)) (fun p52 => ?_)
                            refine c_iconst ?_
                            refine c_bin (ofN_add (N) (1)) ?_
                            refine c_ast (fun _ C l9 i9 => C.sn (k := 10) (K := 29) (n := 3) (by decide) i9 (ofN (by omega)).2) (fun p53 => ?_)
                            refine c_aload rfl ?_
                            refine c_gfr (fun _ C _ => C.ar (k := 11) (K := 30) (n := 36) (by decide)) ?_
                            refine c_iload rfl ?_
                            refine c_iload rfl ?_
                            refine c_ast (fun _ C l9 i9 => C.sn (k := 11) (K := 30) (n := 36) (by decide) i9 (ofN (by omega)).2) (fun p54 => ?_)
                            refine c_aload rfl ?_
                            refine c_gfr (fun _ C _ => C.ar (k := 15) (K := 34) (n := 36) (by decide)) ?_
                            refine c_iload rfl ?_
                            refine c_iload rfl ?_
                            refine c_iload rfl ?_
                            refine c_icmp_ne (fun d25 => ?_) (fun d25 => ?_)
                            · skip
                              refine BC.blk c97_396 (fun m42 hm42 => ?_)
                              refine c_iconst ?_
                              refine c_goto ?_
                              refine BC.blk c97_397 (fun m43 hm43 => ?_)
                              refine c_zst (fun _ C l9 i9 => C.sn (k := 15) (K := 34) (n := 36) (by decide) i9 (ofN (by omega)).2) (fun p55 => ?_)
                              refine c_aload rfl ?_
                              refine c_gfr (fun _ C _ => C.ar (k := 14) (K := 33) (n := 36) (by decide)) ?_
                              refine c_iload rfl ?_
                              refine c_iconst ?_
                              refine c_ast (fun _ C l9 i9 => C.sn (k := 14) (K := 33) (n := 36) (by decide) i9 (ofN (by omega)).2) (fun p56 => ?_)
                              refine c_goto ?_
                              refine BC.blk c97_406 (fun m44 hm44 => ?_)
                              refine c_aload rfl ?_
                              refine c_gfr (fun _ C _ => C.ar (k := 12) (K := 31) (n := 36) (by decide)) ?_
                              refine c_iload rfl ?_
                              refine c_iload rfl ?_
                              refine c_ast (fun _ C l9 i9 => C.sn (k := 12) (K := 31) (n := 36) (by decide) i9 (ofN (by omega)).2) (fun p57 => ?_)
                              refine c_aload rfl ?_
                              refine c_gfr (fun _ C _ => C.ar (k := 13) (K := 32) (n := 36) (by decide)) ?_
                              refine c_iload rfl ?_
                              refine c_iload rfl ?_
                              refine c_ast (fun _ C l9 i9 => C.sn (k := 13) (K := 32) (n := 36) (by decide) i9 (ofN (by omega)).2) (fun p58 => ?_)
                              refine c_iload rfl ?_
                              refine c_iload rfl ?_
                              refine c_icmp_eq (fun d26 => ?_) (fun d26 => ?_)
                              · skip
                                refine BC.blk c97_458 (fun m45 hm45 => ?_)
                                refine c_aload rfl ?_
                                refine c_gfr (fun _ C _ => C.ar (k := 14) (K := 33) (n := 36) (by decide)) ?_
                                refine c_iload rfl ?_
                                refine c_ald (fun _ C l9 i9 => C.an (k := 14) (K := 33) (n := 36) (by decide) i9 (ofN (by omega)).2) (fun p59 => ?_)
                                exact absurd d23 (by decide)
                              · skip
                                refine c_aload rfl ?_
                                refine c_gfr (fun _ C _ => C.ar (k := 16) (K := 35) (n := 108) (by decide)) ?_
                                refine c_iconst ?_
                                refine c_iload rfl ?_
                                refine c_bin (ofN_mul (3) (((12 * o) + N))) ?_
                                refine c_aload rfl ?_
                                refine c_gfr (fun _ C _ => C.ar (k := 14) (K := 33) (n := 36) (by decide)) ?_
                                refine c_iload rfl ?_
                                refine c_ald (fun _ C l9 i9 => (fun z => ⟨z.1, z.2.trans (show _ = Int32.ofNat 0 from ((u2_ne (by decide)).trans ((u2_ne (by decide)).trans u2_eq)))⟩) (C.an (k := 14) (K := 33) (n := 36) (by decide) i9 (ofN (by omega)).2)) (fun p60 => ?_)
                                refine c_bin (ofN_add ((3 * ((12 * o) + N))) (0)) ?_
                                refine c_iload rfl ?_
                                refine c_ast (fun _ C l9 i9 => C.sn (k := 16) (K := 35) (n := 108) (by decide) i9 (ofN (by omega)).2) (fun p61 => ?_)
                                refine c_aload rfl ?_
                                refine c_gfr (fun _ C _ => C.ar (k := 14) (K := 33) (n := 36) (by decide)) ?_
                                refine c_iload rfl ?_
                                refine c_dup2 ?_
                                refine c_ald (fun _ C l9 i9 => (fun z => ⟨z.1, z.2.trans (show _ = Int32.ofNat 0 from ((u2_ne (by decide)).trans ((u2_ne (by decide)).trans ((u2_ne (by decide)).trans u2_eq))))⟩) (C.an (k := 14) (K := 33) (n := 36) (by decide) i9 (ofN (by omega)).2)) (fun p62 => ?_)
                                refine c_iconst ?_
                                refine c_bin (ofN_add (0) (1)) ?_
                                refine c_ast (fun _ C l9 i9 => C.sn (k := 14) (K := 33) (n := 36) (by decide) i9 (ofN (by omega)).2) (fun p63 => ?_)
                                refine c_goto ?_
                                refine BC.blk c97_458 (fun m46 hm46 => ?_)
                                refine c_aload rfl ?_
                                refine c_gfr (fun _ C _ => C.ar (k := 14) (K := 33) (n := 36) (by decide)) ?_
                                refine c_iload rfl ?_
                                refine c_ald (fun _ C l9 i9 => C.an (k := 14) (K := 33) (n := 36) (by decide) i9 (ofN (by omega)).2) (fun p64 => ?_)
                                exact absurd d23 (by decide)
                            · skip
                              refine c_iconst ?_
                              refine c_goto ?_
                              refine BC.blk c97_397 (fun m47 hm47 => ?_)
                              refine c_zst (fun _ C l9 i9 => C.sn (k := 15) (K := 34) (n := 36) (by decide) i9 (ofN (by omega)).2) (fun p65 => ?_)
                              refine c_aload rfl ?_
                              refine c_gfr (fun _ C _ => C.ar (k := 14) (K := 33) (n := 36) (by decide)) ?_
                              refine c_iload rfl ?_
                              refine c_iconst ?_
                              refine c_ast (fun _ C l9 i9 => C.sn (k := 14) (K := 33) (n := 36) (by decide) i9 (ofN (by omega)).2) (fun p66 => ?_)
                              refine c_goto ?_
                              refine BC.blk c97_406 (fun m48 hm48 => ?_)
                              refine c_aload rfl ?_
                              refine c_gfr (fun _ C _ => C.ar (k := 12) (K := 31) (n := 36) (by decide)) ?_
                              refine c_iload rfl ?_
                              refine c_iload rfl ?_
                              refine c_ast (fun _ C l9 i9 => C.sn (k := 12) (K := 31) (n := 36) (by decide) i9 (ofN (by omega)).2) (fun p67 => ?_)
                              refine c_aload rfl ?_
                              refine c_gfr (fun _ C _ => C.ar (k := 13) (K := 32) (n := 36) (by decide)) ?_
                              refine c_iload rfl ?_
                              refine c_iload rfl ?_
                              refine c_ast (fun _ C l9 i9 => C.sn (k := 13) (K := 32) (n := 36) (by decide) i9 (ofN (by omega)).2) (fun p68 => ?_)
                              refine c_iload rfl ?_
                              refine c_iload rfl ?_
                              refine c_icmp_eq (fun d27 => ?_) (fun d27 => ?_)
                              · skip
                                refine BC.blk c97_458 (fun m49 hm49 => ?_)
                                refine c_aload rfl ?_
                                refine c_gfr (fun _ C _ => C.ar (k := 14) (K := 33) (n := 36) (by decide)) ?_
                                refine c_iload rfl ?_
                                refine c_ald (fun _ C l9 i9 => C.an (k := 14) (K := 33) (n := 36) (by decide) i9 (ofN (by omega)).2) (fun p69 => ?_)
                                exact absurd d23 (by decide)
                              · skip
                                refine c_aload rfl ?_
                                refine c_gfr (fun _ C _ => C.ar (k := 16) (K := 35) (n := 108) (by decide)) ?_
                                refine c_iconst ?_
                                refine c_iload rfl ?_
                                refine c_bin (ofN_mul (3) (((12 * o) + N))) ?_
                                refine c_aload rfl ?_
                                refine c_gfr (fun _ C _ => C.ar (k := 14) (K := 33) (n := 36) (by decide)) ?_
                                refine c_iload rfl ?_
                                refine c_ald (fun _ C l9 i9 => (fun z => ⟨z.1, z.2.trans (show _ = Int32.ofNat 0 from ((u2_ne (by decide)).trans ((u2_ne (by decide)).trans u2_eq)))⟩) (C.an (k := 14) (K := 33) (n := 36) (by decide) i9 (ofN (by omega)).2)) (fun p70 => ?_)
                                refine c_bin (ofN_add ((3 * ((12 * o) + N))) (0)) ?_
                                refine c_iload rfl ?_
                                refine c_ast (fun _ C l9 i9 => C.sn (k := 16) (K := 35) (n := 108) (by decide) i9 (ofN (by omega)).2) (fun p71 => ?_)
                                refine c_aload rfl ?_
                                refine c_gfr (fun _ C _ => C.ar (k := 14) (K := 33) (n := 36) (by decide)) ?_
                                refine c_iload rfl ?_
                                refine c_dup2 ?_
                                refine c_ald (fun _ C l9 i9 => (fun z => ⟨z.1, z.2.trans (show _ = Int32.ofNat 0 from ((u2_ne (by decide)).trans ((u2_ne (by decide)).trans ((u2_ne (by decide)).trans u2_eq))))⟩) (C.an (k := 14) (K := 33) (n := 36) (by decide) i9 (ofN (by omega)).2)) (fun p72 => ?_)
                                refine c_iconst ?_
                                refine c_bin (ofN_add (0) (1)) ?_
                                refine c_ast (fun _ C l9 i9 => C.sn (k := 14) (K := 33) (n := 36) (by decide) i9 (ofN (by omega)).2) (fun p73 => ?_)
                                refine c_goto ?_
                                refine BC.blk c97_458 (fun m50 hm50 => ?_)
                                refine c_aload rfl ?_
                                refine c_gfr (fun _ C _ => C.ar (k := 14) (K := 33) (n := 36) (by decide)) ?_
                                refine c_iload rfl ?_
                                refine c_ald (fun _ C l9 i9 => C.an (k := 14) (K := 33) (n := 36) (by decide) i9 (ofN (by omega)).2) (fun p74 => ?_)
                                exact absurd d23 (by decide)
                        · skip
                          refine c_iconst ?_
                          have hna : ¬ hrf v ((Int32.ofNat o).toNatClampNeg + 1) p = true := by
                            rw [oo.2, hh]
                            exact fun z => absurd z.1 (by have := ofN_inj (a := N) (b := 12) (by omega) (by omega) d13; omega)
                          exact c_iret ⟨by rw [vroute, if_pos hok, if_pos hm0, if_neg hna]; exact S1.f8 ⟨by decide, by decide⟩, Or.inl ⟨2, by rw [oroute, if_pos hok, if_pos hm0, if_neg hna], rfl, by decide, by decide⟩, rfl, rfl⟩
                    · exact absurd d21 (by decide)
            · skip
              refine c_aload rfl ?_
              refine c_gfr (fun _ C _ => C.ar (k := 11) (K := 30) (n := 36) (by decide)) ?_
              refine c_iload rfl ?_
              refine c_ald (fun _ C l9 i9 => (fun z => ⟨z.1, z.2.trans (show _ = F 30 (12 * o + k) from rfl)⟩) (C.an (k := 11) (K := 30) (n := 36) (by decide) i9 (ofN (by omega)).2)) (fun p75 => ?_)
              refine c_iload rfl ?_
              refine c_icmp_ne (fun d28 => ?_) (fun d28 => ?_)
              · skip
                refine BC.blk c97_159 (fun m51 hm51 => ?_)
                refine c_iload rfl ?_
                refine c_goto ?_
                refine BC.blk c97_161 (fun m52 hm52 => ?_)
                refine c_istore rfl ?_
                refine c_iload rfl ?_
                refine c_if_ne (fun d29 => ?_) (fun d29 => ?_)
                · skip
                  refine BC.blk c97_193 (fun m53 hm53 => ?_)
                  refine c_iconst ?_
                  refine c_goto ?_
                  refine BC.blk c97_198 (fun m54 hm54 => ?_)
                  refine c_istore rfl ?_
                  refine c_iincN (i := (12 * o + k)) (k := 1) rfl rfl rfl ?_
                  refine c_goto ?_
                  exact ih127 m54 (by omega) (k + 1) 1 (by omega) (Or.inl ⟨rfl, (tb.t d29).elim (fun k' z => ⟨k', by omega, z.2⟩)⟩)
                · skip
                  refine c_aload rfl ?_
                  refine c_gfr (fun _ C _ => C.ar (k := 11) (K := 30) (n := 36) (by decide)) ?_
                  refine c_iload rfl ?_
                  refine c_ald (fun _ C l9 i9 => (fun z => ⟨z.1, z.2.trans (show _ = F 30 (12 * o + k) from rfl)⟩) (C.an (k := 11) (K := 30) (n := 36) (by decide) i9 (ofN (by omega)).2)) (fun p76 => ?_)
                  refine c_iload rfl ?_
                  refine c_icmp_eq (fun d30 => ?_) (fun d30 => ?_)
                  · exact absurd d30 (hn9 k (by omega))
                  · skip
                    refine c_aload rfl ?_
                    refine c_gfr (fun _ C _ => C.ar (k := 11) (K := 30) (n := 36) (by decide)) ?_
                    refine c_iload rfl ?_
                    refine c_ald (fun _ C l9 i9 => (fun z => ⟨z.1, z.2.trans (show _ = F 30 (12 * o + k) from rfl)⟩) (C.an (k := 11) (K := 30) (n := 36) (by decide) i9 (ofN (by omega)).2)) (fun p77 => ?_)
                    refine c_iload rfl ?_
                    refine p_call mr_rs (e96 (n4 k (by omega)).2.2.1 hp) (fun bo hbo => ?_)
                    refine c_if_eq (fun d31 => ?_) (fun d31 => ?_)
                    · skip
                      refine BC.blk c97_197 (fun m55 hm55 => ?_)
                      refine c_iconst ?_
                      refine c_goto ?_
                      refine BC.blk c97_198 (fun m56 hm56 => ?_)
                      refine c_istore rfl ?_
                      refine c_iincN (i := (12 * o + k)) (k := 1) rfl rfl rfl ?_
                      refine c_goto ?_
                      exact ih127 m56 (by omega) (k + 1) 0 (by omega) (Or.inr ⟨rfl, fun ⟨k', z1, z2⟩ => if z : k' = k then hbo.f d31 (by rw [← z]; exact z2) else tb.f d29 ⟨k', by omega, z2⟩⟩)
                    · skip
                      refine c_goto ?_
                      refine BC.blk c97_193 (fun m57 hm57 => ?_)
                      refine c_iconst ?_
                      refine c_goto ?_
                      refine BC.blk c97_198 (fun m58 hm58 => ?_)
                      refine c_istore rfl ?_
                      refine c_iincN (i := (12 * o + k)) (k := 1) rfl rfl rfl ?_
                      refine c_goto ?_
                      exact ih127 m58 (by omega) (k + 1) 1 (by omega) (Or.inl ⟨rfl, k, by omega, hbo.t d31⟩)
              · skip
                exact absurd d28 (hn9 k (by omega))
        exact lp127 m5 0 0 (by omega) (Or.inr ⟨rfl, fun ⟨k', z, _⟩ => absurd z (by omega)⟩)
      · skip
        refine c_iconst ?_
        exact absurd (show b2i (0 < (0 : Int32).toInt) = 0 from rfl) d2
  have jn41 : ∀ (n : Nat) (b : Int32), TB b (pfx2 p.toInt) → BC MR n 97 41 [rf 8 1, .inl (Int32.ofNat o), .inl p, .inl (Int32.ofNat y), .inl u, .inl q, rf 0 0, rf 0 0, rf 0 0, rf 0 0, rf 0 0, rf 0 0] [.inl b] F (fun o9 t => Sim D (vroute v (Int32.ofNat o) p (Int32.ofNat y) u q) t ∧ AG (oroute v (Int32.ofNat o) p (Int32.ofNat y) u q) o9 t ∧ t 8 1 = F 8 1 ∧ t 8 2 = F 8 2) := by
    intro n41 b tb
    refine BC.blk c97_41 (fun m59 hm59 => ?_)
    refine c_istore rfl ?_
    refine c_iload rfl ?_
    refine c_iconst ?_
    refine c_iconst ?_
    refine d_call mr_rs (e92) ?_
    refine c_if_eq (fun d32 => ?_) (fun d32 => ?_)
    · skip
      refine BC.blk c97_93 (fun m60 hm60 => ?_)
      refine c_iconst ?_
      refine c_goto ?_
      exact jn94 m60 _ _ (Or.inr ⟨rfl, fun z => b2i0.mp d32 z.1.1⟩)
    · skip
      refine c_iload rfl ?_
      refine c_if_eq (fun d33 => ?_) (fun d33 => ?_)
      · skip
        refine BC.blk c97_93 (fun m61 hm61 => ?_)
        refine c_iconst ?_
        refine c_goto ?_
        exact jn94 m61 _ _ (Or.inr ⟨rfl, fun z => tb.f d33 z.1.2.2⟩)
      · skip
        refine c_iload rfl ?_
        refine c_iconst ?_
        refine c_iconst ?_
        refine d_call mr_rs (e92) ?_
        refine c_if_eq (fun d34 => ?_) (fun d34 => ?_)
        · skip
          refine BC.blk c97_93 (fun m62 hm62 => ?_)
          refine c_iconst ?_
          refine c_goto ?_
          exact jn94 m62 _ _ (Or.inr ⟨rfl, fun z => b2i0.mp d34 z.1.2.1⟩)
        · skip
          refine c_iload rfl ?_
          refine c_iconst ?_
          refine c_iconst ?_
          refine d_call mr_rs (e92) ?_
          refine c_if_eq (fun d35 => ?_) (fun d35 => ?_)
          · skip
            refine BC.blk c97_93 (fun m63 hm63 => ?_)
            refine c_iconst ?_
            refine c_goto ?_
            exact jn94 m63 _ _ (Or.inr ⟨rfl, fun z => b2i0.mp d35 z.2.1⟩)
          · skip
            refine c_iload rfl ?_
            refine c_iconst ?_
            refine c_iconst ?_
            refine d_call mr_rs (e92) ?_
            refine c_if_eq (fun d36 => ?_) (fun d36 => ?_)
            · skip
              refine BC.blk c97_93 (fun m64 hm64 => ?_)
              refine c_iconst ?_
              refine c_goto ?_
              exact jn94 m64 _ _ (Or.inr ⟨rfl, fun z => b2i0.mp d36 z.2.2⟩)
            · skip
              refine c_iconst ?_
              refine c_goto ?_
              exact jn94 m59 _ _ (Or.inl ⟨rfl, ⟨⟨b2i1.mp d32, b2i1.mp d34, tb.t d33⟩, b2i1.mp d35, b2i1.mp d36⟩⟩)
  refine c_iload rfl ?_
  refine c_iconst ?_
  refine c_iconst ?_
  refine d_call mr_rs (e92) ?_
  refine c_if_ne (fun d37 => ?_) (fun d37 => ?_)
  · skip
    refine BC.blk c97_36 (fun m65 hm65 => ?_)
    refine c_iconst ?_
    refine c_goto ?_
    exact jn41 m65 _ (Or.inl ⟨rfl, Or.inl (b2i1.mp d37)⟩)
  · skip
    refine c_iload rfl ?_
    refine c_iconst ?_
    refine c_iconst ?_
    refine d_call mr_rs (e92) ?_
    refine c_if_ne (fun d38 => ?_) (fun d38 => ?_)
    · skip
      refine BC.blk c97_36 (fun m66 hm66 => ?_)
      refine c_iconst ?_
      refine c_goto ?_
      exact jn41 m66 _ (Or.inl ⟨rfl, Or.inr (Or.inl (b2i1.mp d38))⟩)
    · skip
      refine c_iload rfl ?_
      refine c_iconst ?_
      refine c_iconst ?_
      refine d_call mr_rs (e92) ?_
      refine c_if_eq (fun d39 => ?_) (fun d39 => ?_)
      · skip
        refine BC.blk c97_40 (fun m67 hm67 => ?_)
        refine c_iconst ?_
        refine c_goto ?_
        exact jn41 m67 _ (Or.inr ⟨rfl, fun z => z.elim (b2i0.mp d37) (fun z => z.elim (b2i0.mp d38) (b2i0.mp d39))⟩)
      · skip
        refine c_goto ?_
        refine BC.blk c97_36 (fun m68 hm68 => ?_)
        refine c_iconst ?_
        refine c_goto ?_
        exact jn41 m68 _ (Or.inl ⟨rfl, Or.inr (Or.inr (b2i1.mp d39))⟩)
