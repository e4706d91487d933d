theorem e49 {v : vS} {x p y u q : Int32} (h5 : v.2.2.2 5 = 90 + v.2.2.2 4) (h20 : v.2.2.2 20 = v.2.2.2 5) : ED CR 49 [rf 7 1, .inl x, .inl p, .inl y, .inl u, .inl q] v (oroute v x p y u q) (vroute v x p y u q) := by
  refine EC.mk (fun n0 => ?_)
  show BC _ n0 49 0 [rf 7 1, .inl x, .inl p, .inl y, .inl u, .inl q, rf 0 0, rf 0 0] [] _ _
  refine BC.blk c49_0 (fun m1 hm1 => ?_)
  refine c_iload rfl ?_
  refine d_call cr_rs (e44) ?_
  refine c_if_eq (fun d1 => ?_) (fun d1 => ?_)
  · skip
    refine BC.blk c49_25 (fun m2 hm2 => ?_)
    refine c_iconst ?_
    refine c_goto ?_
    refine BC.blk c49_26 (fun m3 hm3 => ?_)
    refine n_need (fun d2 => ?_) (fun d2 => ?_)
    · skip
      exact id ⟨by rw [oroute, if_neg (fun z => b2i0.mp d1 z.1.1)], by rw [vroute, if_neg (fun z => b2i0.mp d1 z.1.1)]⟩
    · exact absurd rfl d2
  · skip
    refine c_iload rfl ?_
    refine d_call cr_rs (e44) ?_
    refine c_if_eq (fun d3 => ?_) (fun d3 => ?_)
    · skip
      refine BC.blk c49_25 (fun m4 hm4 => ?_)
      refine c_iconst ?_
      refine c_goto ?_
      refine BC.blk c49_26 (fun m5 hm5 => ?_)
      refine n_need (fun d4 => ?_) (fun d4 => ?_)
      · skip
        exact id ⟨by rw [oroute, if_neg (fun z => b2i0.mp d3 z.1.2.1)], by rw [vroute, if_neg (fun z => b2i0.mp d3 z.1.2.1)]⟩
      · exact absurd rfl d4
    · skip
      refine c_iload rfl ?_
      refine d_call cr_rs (e48) ?_
      refine c_if_eq (fun d5 => ?_) (fun d5 => ?_)
      · skip
        refine BC.blk c49_25 (fun m6 hm6 => ?_)
        refine c_iconst ?_
        refine c_goto ?_
        refine BC.blk c49_26 (fun m7 hm7 => ?_)
        refine n_need (fun d6 => ?_) (fun d6 => ?_)
        · skip
          exact id ⟨by rw [oroute, if_neg (fun z => b2i0.mp d5 z.1.2.2)], by rw [vroute, if_neg (fun z => b2i0.mp d5 z.1.2.2)]⟩
        · exact absurd rfl d6
      · skip
        refine c_iconst ?_
        refine c_goto ?_
        refine BC.blk c49_26 (fun m8 hm8 => ?_)
        refine n_need (fun d7 => ?_) (fun d7 => ?_)
        · exact absurd d7 (by decide)
        · skip
          refine c_iload rfl ?_
          refine c_iconst ?_
          refine c_iconst ?_
          refine d_call cr_rs (e25) ?_
          refine c_if_eq (fun d8 => ?_) (fun d8 => ?_)
          · skip
            refine BC.blk c49_56 (fun m9 hm9 => ?_)
            refine c_iconst ?_
            refine c_goto ?_
            refine BC.blk c49_57 (fun m10 hm10 => ?_)
            refine n_need (fun d9 => ?_) (fun d9 => ?_)
            · skip
              exact id ⟨by rw [oroute, if_neg (fun z => b2i0.mp d8 z.2.1)], by rw [vroute, if_neg (fun z => b2i0.mp d8 z.2.1)]⟩
            · exact absurd rfl d9
          · skip
            refine c_iload rfl ?_
            refine c_iconst ?_
            refine c_iconst ?_
            refine d_call cr_rs (e25) ?_
            refine c_if_eq (fun d10 => ?_) (fun d10 => ?_)
            · skip
              refine BC.blk c49_56 (fun m11 hm11 => ?_)
              refine c_iconst ?_
              refine c_goto ?_
              refine BC.blk c49_57 (fun m12 hm12 => ?_)
              refine n_need (fun d11 => ?_) (fun d11 => ?_)
              · skip
                exact id ⟨by rw [oroute, if_neg (fun z => b2i0.mp d10 z.2.2)], by rw [vroute, if_neg (fun z => b2i0.mp d10 z.2.2)]⟩
              · exact absurd rfl d11
            · skip
              refine c_iconst ?_
              refine c_goto ?_
              refine BC.blk c49_57 (fun m13 hm13 => ?_)
              refine n_need (fun d12 => ?_) (fun d12 => ?_)
              · exact absurd d12 (by decide)
              · skip
                have jn142 : ∀ (n : Nat) (w : vS) (m : Nat), BC CR n 49 142 [rf 7 1, .inl x, .inl p, .inl y, .inl u, .inl q, rf 3 (x.toNatClampNeg + 1), rf 4 m] [] w (fun o t => o = ort2 w m y u q ∧ t = vrt2 w m y u q) := by
                  intro n142 w m
                  refine BC.blk c49_142 (fun m14 hm14 => ?_)
                  refine c_aload rfl ?_
                  refine c_gfi (fun _ C _ => C.i rfl) ?_
                  refine c_if_ne (fun d13 => ?_) (fun d13 => ?_)
                  · skip
                    refine BC.blk c49_159 (fun m15 hm15 => ?_)
                    refine c_aload rfl ?_
                    refine c_iload rfl ?_
                    refine c_pfi (fun _ C _ => C.pi rfl) ?_
                    refine c_aload rfl ?_
                    refine c_iload rfl ?_
                    refine c_pfi (fun _ C _ => C.pi rfl) ?_
                    refine c_aload rfl ?_
                    refine c_gfr (fun _ C _ => C.r rfl) ?_
                    refine d_callvP cr_rs rfl (fun _ C l => And.intro (C.rl l) (C.rlen l)) (fun hr => e24) (fun hr => ?_)
                    exact c_iret ⟨by rw [ort2, vrt2, if_neg d13], by rw [vrt2, if_neg d13]⟩
                  · skip
                    refine c_aload rfl ?_
                    refine c_gfr (fun _ C _ => C.r rfl) ?_
                    refine c_iload rfl ?_
                    refine d_callvP cr_rs rfl (fun _ C l => C.rl l) (fun hr => e37 hr) (fun hr => ?_)
                    refine c_goto ?_
                    refine BC.blk c49_159 (fun m16 hm16 => ?_)
                    refine c_aload rfl ?_
                    refine c_iload rfl ?_
                    refine c_pfi (fun _ C _ => C.pi rfl) ?_
                    refine c_aload rfl ?_
                    refine c_iload rfl ?_
                    refine c_pfi (fun _ C _ => C.pi rfl) ?_
                    refine c_aload rfl ?_
                    refine c_gfr (fun _ C _ => C.r rfl) ?_
                    refine d_callvP cr_rs rfl (fun _ C l => And.intro (C.rl l) (C.rlen l)) (fun hr => e24) (fun hr => ?_)
                    exact c_iret ⟨by rw [ort2, vrt2, if_pos d13], by rw [vrt2, if_pos d13]⟩
                refine c_aload rfl ?_
                refine c_gfr (fun _ C l => C.r7 (k := 0) (by decide) l) ?_
                refine c_iload rfl ?_
                refine c_aald (fun _ C l i => C.a11 l i) (fun p1 => ?_)
                refine c_astore rfl ?_
                refine c_aload rfl ?_
                refine c_iload rfl ?_
                refine d_callv cr_rs (e15) ?_
                refine c_astore rfl ?_
                refine c_aload rfl ?_
                refine c_ifnonnull (fun d14 => ?_) (fun d14 => ?_)
                · skip
                  refine BC.blk c49_120 (fun m17 hm17 => ?_)
                  refine c_iload rfl ?_
                  refine c_iload rfl ?_
                  refine c_icmp_eq (fun d15 => ?_) (fun d15 => ?_)
                  · skip
                    refine BC.blk c49_138 (fun m18 hm18 => ?_)
                    refine c_iconst ?_
                    refine c_goto ?_
                    refine BC.blk c49_139 (fun m19 hm19 => ?_)
                    refine n_allow (fun d16 => ?_) (fun d16 => ?_)
                    · skip
                      exact id ⟨by rw [oroute, if_pos ⟨⟨b2i1.mp d1, b2i1.mp d3, b2i1.mp d5⟩, b2i1.mp d8, b2i1.mp d10⟩, if_neg d14, if_neg (fun z => z.1 d15)], by rw [vroute, if_pos ⟨⟨b2i1.mp d1, b2i1.mp d3, b2i1.mp d5⟩, b2i1.mp d8, b2i1.mp d10⟩, if_neg d14, if_neg (fun z => z.1 d15)]⟩
                    · exact absurd rfl d16
                  · skip
                    refine c_aload rfl ?_
                    refine c_iload rfl ?_
                    refine d_callv cr_rs (e33) ?_
                    refine c_if_eq (fun d17 => ?_) (fun d17 => ?_)
                    · skip
                      refine BC.blk c49_138 (fun m20 hm20 => ?_)
                      refine c_iconst ?_
                      refine c_goto ?_
                      refine BC.blk c49_139 (fun m21 hm21 => ?_)
                      refine n_allow (fun d18 => ?_) (fun d18 => ?_)
                      · skip
                        exact id ⟨by rw [oroute, if_pos ⟨⟨b2i1.mp d1, b2i1.mp d3, b2i1.mp d5⟩, b2i1.mp d8, b2i1.mp d10⟩, if_neg d14, if_neg (fun z => absurd z.2 (by rw [bI0.mp d17]; decide))], by rw [vroute, if_pos ⟨⟨b2i1.mp d1, b2i1.mp d3, b2i1.mp d5⟩, b2i1.mp d8, b2i1.mp d10⟩, if_neg d14, if_neg (fun z => absurd z.2 (by rw [bI0.mp d17]; decide))]⟩
                      · exact absurd rfl d18
                    · skip
                      refine c_iconst ?_
                      refine c_goto ?_
                      refine BC.blk c49_139 (fun m22 hm22 => ?_)
                      refine n_allow (fun d19 => ?_) (fun d19 => ?_)
                      · exact absurd d19 (by decide)
                      · skip
                        refine c_goto ?_
                        exact (jn142 m22 v _).mono (fun o9 t9 pp => ⟨by rw [oroute, if_pos ⟨⟨b2i1.mp d1, b2i1.mp d3, b2i1.mp d5⟩, b2i1.mp d8, b2i1.mp d10⟩, if_neg d14, if_pos ⟨d15, bI1.mp d17⟩]; exact pp.1, by rw [vroute, if_pos ⟨⟨b2i1.mp d1, b2i1.mp d3, b2i1.mp d5⟩, b2i1.mp d8, b2i1.mp d10⟩, if_neg d14, if_pos ⟨d15, bI1.mp d17⟩]; exact pp.2⟩)
                · skip
                  refine c_aload rfl ?_
                  refine c_iload rfl ?_
                  refine d_callv cr_rs (e19) ?_
                  refine n_allow (fun d20 => ?_) (fun d20 => ?_)
                  · skip
                    exact id ⟨by rw [oroute, if_pos ⟨⟨b2i1.mp d1, b2i1.mp d3, b2i1.mp d5⟩, b2i1.mp d8, b2i1.mp d10⟩, if_pos d14, if_neg (by rw [bI0.mp d20]; decide)], by rw [vroute, if_pos ⟨⟨b2i1.mp d1, b2i1.mp d3, b2i1.mp d5⟩, b2i1.mp d8, b2i1.mp d10⟩, if_pos d14, if_neg (by rw [bI0.mp d20]; decide)]⟩
                  · skip
                    refine c_newo (j := v.2.2.2 4 + 1) (fun _ C => ⟨C.no (K := 4) (by decide), by rw [C.1.cn (by unfold ck; omega)]⟩) ?_
                    refine c_dup ?_
                    refine c_iload rfl ?_
                    refine c_iload rfl ?_
                    refine c_iload rfl ?_
                    refine c_icmp_ne (fun d21 => ?_) (fun d21 => ?_)
                    · skip
                      refine BC.blk c49_104 (fun m23 hm23 => ?_)
                      refine c_iconst ?_
                      refine c_goto ?_
                      refine BC.blk c49_105 (fun m24 hm24 => ?_)
                      refine d_calli cr_rs (e32 (show 90 ≤ v.2.2.2 5 by omega) (show v.2.2.2 20 = v.2.2.2 5 from h20)) ?_
                      refine c_astore rfl ?_
                      refine c_aload rfl ?_
                      refine c_aload rfl ?_
                      refine d_callv cr_rs (e20) ?_
                      refine c_goto ?_
                      have hw9 : vrtn v x p y = vadr (vin (vno v 4) (v.2.2.2 4 + 1) p 0) (x.toNatClampNeg + 1) (v.2.2.2 4 + 1) := by rw [vrtn, b2i_neg d21]
                      exact (jn142 m24 _ _).mono (fun o9 t9 pp => ⟨by rw [oroute, if_pos ⟨⟨b2i1.mp d1, b2i1.mp d3, b2i1.mp d5⟩, b2i1.mp d8, b2i1.mp d10⟩, if_pos d14, if_pos (bI1.mp d20), hw9]; exact pp.1, by rw [vroute, if_pos ⟨⟨b2i1.mp d1, b2i1.mp d3, b2i1.mp d5⟩, b2i1.mp d8, b2i1.mp d10⟩, if_pos d14, if_pos (bI1.mp d20), hw9]; exact pp.2⟩)
                    · skip
                      refine c_iconst ?_
                      refine c_goto ?_
                      refine BC.blk c49_105 (fun m25 hm25 => ?_)
                      refine d_calli cr_rs (e32 (show 90 ≤ v.2.2.2 5 by omega) (show v.2.2.2 20 = v.2.2.2 5 from h20)) ?_
                      refine c_astore rfl ?_
                      refine c_aload rfl ?_
                      refine c_aload rfl ?_
                      refine d_callv cr_rs (e20) ?_
                      refine c_goto ?_
                      have hw9 : vrtn v x p y = vadr (vin (vno v 4) (v.2.2.2 4 + 1) p 1) (x.toNatClampNeg + 1) (v.2.2.2 4 + 1) := by rw [vrtn, b2i_pos d21]
                      exact (jn142 m25 _ _).mono (fun o9 t9 pp => ⟨by rw [oroute, if_pos ⟨⟨b2i1.mp d1, b2i1.mp d3, b2i1.mp d5⟩, b2i1.mp d8, b2i1.mp d10⟩, if_pos d14, if_pos (bI1.mp d20), hw9]; exact pp.1, by rw [vroute, if_pos ⟨⟨b2i1.mp d1, b2i1.mp d3, b2i1.mp d5⟩, b2i1.mp d8, b2i1.mp d10⟩, if_pos d14, if_pos (bI1.mp d20), hw9]; exact pp.2⟩)
theorem e85 {v : vS} {x y z : Int32} : EC CR 85 [rf 7 1, .inl x, .inl y, .inl z] v (fun _ t => t = v) := by
  refine EC.mk (fun n0 => ?_)
  show BC _ n0 85 0 [rf 7 1, .inl x, .inl y, .inl z, rf 0 0, rf 0 0] [] _ _
  refine BC.blk c85_0 (fun m1 hm1 => ?_)
  refine c_aload rfl ?_
  refine c_iload rfl ?_
  refine c_iload rfl ?_
  refine n_line (fun d1 => ?_) (fun d1 => ?_)
  · skip
    exact id rfl
  · skip
    refine c_astore rfl ?_
    refine c_iload rfl ?_
    refine c_if_lt (fun d2 => ?_) (fun d2 => ?_)
    · skip
      refine BC.blk c85_16 (fun m2 hm2 => ?_)
      refine c_iconst ?_
      refine c_goto ?_
      refine BC.blk c85_17 (fun m3 hm3 => ?_)
      refine n_need (fun d3 => ?_) (fun d3 => ?_)
      · skip
        exact id rfl
      · exact absurd rfl d3
    · skip
      refine c_iconst ?_
      refine c_goto ?_
      refine BC.blk c85_17 (fun m4 hm4 => ?_)
      refine n_need (fun d4 => ?_) (fun d4 => ?_)
      · exact absurd d4 (by decide)
      · skip
        refine c_aload rfl ?_
        refine c_gfr (fun _ C _ => C.r rfl) ?_
        refine c_astore rfl ?_
        refine c_aload rfl ?_
        refine c_ifnull (fun d5 => ?_) (fun d5 => ?_)
        · skip
          refine BC.blk c85_54 (fun m5 hm5 => ?_)
          refine c_iconst ?_
          refine c_goto ?_
          refine BC.blk c85_55 (fun m6 hm6 => ?_)
          exact c_iret rfl
        · skip
          refine c_aload rfl ?_
          refine c_gfr (fun _ C l => C.r10 l) ?_
          refine c_aload rfl ?_
          refine c_ane (fun d6 => ?_) (fun d6 => ?_)
          · skip
            refine BC.blk c85_54 (fun m7 hm7 => ?_)
            refine c_iconst ?_
            refine c_goto ?_
            refine BC.blk c85_55 (fun m8 hm8 => ?_)
            exact c_iret rfl
          · skip
            refine c_aload rfl ?_
            refine c_gfr (fun _ C l => C.r11 l) ?_
            refine c_iload rfl ?_
            refine d_callv cr_rs (e23) ?_
            refine c_goto ?_
            refine BC.blk c85_55 (fun m9 hm9 => ?_)
            exact c_iret rfl
