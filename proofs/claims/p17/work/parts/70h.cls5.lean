theorem e55 {v : vS} {jo l : Nat} (hl : 1 ≤ l ∧ l ≤ 72) : ED CR 55 [rf 7 1, rf 3 jo, rf 2 l] v (ov) (vask v jo l) := by
  refine EC.mk (fun n0 => ?_)
  show BC _ n0 55 0 [rf 7 1, rf 3 jo, rf 2 l, rf 0 0] [] _ _
  refine BC.blk c55_0 (fun m1 hm1 => ?_)
  refine c_aload rfl ?_
  refine c_iconst ?_
  refine c_iconst ?_
  refine d_callv cr_rs (show ED CR 29 [rf 3 jo, .inl 30, .inl 33] _ (oi (fidl _ jo 30 33)) _ from e29 (by decide)) ?_
  refine c_istore rfl ?_
  refine c_iload rfl ?_
  refine c_iconst ?_
  refine c_icmp_eq (fun d1 => ?_) (fun d1 => ?_)
  · skip
    refine BC.blk c55_24 (fun m2 hm2 => ?_)
    refine c_aload rfl ?_
    refine c_gfr (fun _ C l => C.r35 l) ?_
    refine c_aload rfl ?_
    refine c_gfi (fun _ C l => (C.n21 l).2) ?_
    refine d_callvP cr_rs rfl (fun _ C l => C.rl l) (fun hr => e37 hr) (fun hr => ?_)
    refine c_goto ?_
    refine BC.blk c55_45 (fun m3 hm3 => ?_)
    exact c_ret ⟨rfl, by rw [vask, if_pos (Or.inl d1)]⟩
  · skip
    refine c_aload rfl ?_
    refine c_gfr (fun _ C l => C.r35 l) ?_
    refine d_callvP cr_rs rfl (fun _ C l => And.intro (C.rl l) (C.rlen l)) (fun hr => e24) (fun hr => ?_)
    have o2 := ofN (n := (v.2.2.1 (30 * (jo - 1) + 1)).length) (by omega)
    refine c_if_le (fun d2 => ?_) (fun d2 => ?_)
    · skip
      refine BC.blk c55_38 (fun m4 hm4 => ?_)
      refine c_aload rfl ?_
      refine c_aload rfl ?_
      refine c_aload rfl ?_
      refine c_iload rfl ?_
      refine d_callv cr_rs (e54 hl) ?_
      refine c_goto ?_
      refine BC.blk c55_45 (fun m5 hm5 => ?_)
      exact c_ret ⟨rfl, by rw [vask, if_neg (fun z => z.elim d1 (fun y => by omega))]⟩
    · skip
      refine c_goto ?_
      refine BC.blk c55_24 (fun m6 hm6 => ?_)
      refine c_aload rfl ?_
      refine c_gfr (fun _ C l => C.r35 l) ?_
      refine c_aload rfl ?_
      refine c_gfi (fun _ C l => (C.n21 l).2) ?_
      refine d_callvP cr_rs rfl (fun _ C l => C.rl l) (fun hr => e37 hr) (fun hr => ?_)
      refine c_goto ?_
      refine BC.blk c55_45 (fun m7 hm7 => ?_)
      exact c_ret ⟨rfl, by rw [vask, if_pos (Or.inr (by omega))]⟩
theorem e58 {v : vS} {x y : Int32} : ED CR 58 [rf 7 1, .inl x, .inl y] v (olift v x y) (vlift v x y) := by
  refine EC.mk (fun n0 => ?_)
  show BC _ n0 58 0 [rf 7 1, .inl x, .inl y, rf 0 0, rf 0 0] [] _ _
  refine BC.blk c58_0 (fun m1 hm1 => ?_)
  refine c_aload rfl ?_
  refine c_iload rfl ?_
  refine c_iload rfl ?_
  refine n_line (fun d1 => ?_) (fun d1 => ?_)
  · skip
    exact id ⟨by rw [olift, if_neg d1], by rw [vlift, if_neg (fun z => d1 z.1)]⟩
  · skip
    refine c_astore rfl ?_
    refine c_aload rfl ?_
    refine c_gfi (fun _ C _ => C.i rfl) ?_
    refine c_if_ne (fun d2 => ?_) (fun d2 => ?_)
    · skip
      refine BC.blk c58_18 (fun m2 hm2 => ?_)
      refine c_iconst ?_
      refine c_goto ?_
      refine BC.blk c58_19 (fun m3 hm3 => ?_)
      refine n_allow (fun d3 => ?_) (fun d3 => ?_)
      · skip
        exact id ⟨by rw [olift, if_pos d1, if_neg d2], by rw [vlift, if_neg (fun z => d2 z.2)]⟩
      · exact absurd rfl d3
    · skip
      refine c_iconst ?_
      refine c_goto ?_
      refine BC.blk c58_19 (fun m4 hm4 => ?_)
      refine n_allow (fun d4 => ?_) (fun d4 => ?_)
      · exact absurd d4 (by decide)
      · skip
        refine c_aload rfl ?_
        refine c_iconst ?_
        refine c_pfz (fun _ C _ => C.pi rfl) ?_
        refine c_aload rfl ?_
        refine c_gfr (fun _ C _ => C.r rfl) ?_
        refine c_astore rfl ?_
        refine c_aload rfl ?_
        refine c_ifnonnull (fun d5 => ?_) (fun d5 => ?_)
        · skip
          refine BC.blk c58_52 (fun m5 hm5 => ?_)
          refine c_aload rfl ?_
          refine c_gfr (fun _ C _ => C.r rfl) ?_
          refine c_aload rfl ?_
          refine c_ane (fun d6 => ?_) (fun d6 => ?_)
          · skip
            refine BC.blk c58_67 (fun m6 hm6 => ?_)
            exact c_ret ⟨by rw [olift, if_pos d1, if_pos d2], by rw [vlift, if_pos ⟨d1, d2⟩, vlif, if_neg (show ¬ v.2.1 2 5 (lno x y) = 0 from d5), if_neg (show ¬ v.2.1 1 3 (v.2.1 2 5 (lno x y)) = lno x y from d6)]⟩
          · skip
            refine c_aload rfl ?_
            refine c_aload rfl ?_
            refine d_callv cr_rs (e57) ?_
            refine c_goto ?_
            refine BC.blk c58_67 (fun m7 hm7 => ?_)
            exact c_ret ⟨by rw [olift, if_pos d1, if_pos d2], by rw [vlift, if_pos ⟨d1, d2⟩, vlif, if_neg (show ¬ v.2.1 2 5 (lno x y) = 0 from d5), if_pos (show v.2.1 1 3 (v.2.1 2 5 (lno x y)) = lno x y from d6)]; rfl⟩
        · skip
          refine c_aload rfl ?_
          refine c_aload rfl ?_
          refine c_gfr (fun _ C l => C.r7 (k := 0) (by decide) l) ?_
          refine c_iload rfl ?_
          refine c_aald (fun _ C l i => C.a11 l i) (fun p1 => ?_)
          refine c_aload rfl ?_
          refine d_callv cr_rs (e55 (by have := x_clamp d1.1.1; have := x_clamp d1.2.1; unfold lno; omega)) ?_
          refine c_goto ?_
          refine BC.blk c58_67 (fun m8 hm8 => ?_)
          exact c_ret ⟨by rw [olift, if_pos d1, if_pos d2], by rw [vlift, if_pos ⟨d1, d2⟩, vlif, if_pos (show v.2.1 2 5 (lno x y) = 0 from d5)]⟩
theorem e60 {v : vS} {x y : Int32} : ED CR 60 [rf 7 1, .inl x, .inl y] v (ohang v x y) (vhang v x y) := by
  refine EC.mk (fun n0 => ?_)
  show BC _ n0 60 0 [rf 7 1, .inl x, .inl y, rf 0 0, rf 0 0] [] _ _
  refine BC.blk c60_0 (fun m1 hm1 => ?_)
  refine c_aload rfl ?_
  refine c_iload rfl ?_
  refine c_iload rfl ?_
  refine n_line (fun d1 => ?_) (fun d1 => ?_)
  · skip
    exact id ⟨by rw [ohang, if_neg d1], by rw [vhang, if_neg (fun z => d1 z.1)]⟩
  · skip
    refine c_astore rfl ?_
    refine c_aload rfl ?_
    refine c_gfi (fun _ C _ => C.i rfl) ?_
    refine n_allow (fun d2 => ?_) (fun d2 => ?_)
    · skip
      exact id ⟨by rw [ohang, if_pos d1, if_pos d2], by rw [vhang, if_neg (fun z => z.2 d2)]⟩
    · skip
      refine c_aload rfl ?_
      refine c_iconst ?_
      refine c_pfz (fun _ C _ => C.pi rfl) ?_
      refine c_aload rfl ?_
      refine c_iconst ?_
      refine c_pfi (fun _ C _ => C.pi rfl) ?_
      refine c_aload rfl ?_
      refine c_gfr (fun _ C _ => C.r rfl) ?_
      refine c_astore rfl ?_
      refine c_aload rfl ?_
      refine c_ifnonnull (fun d3 => ?_) (fun d3 => ?_)
      · skip
        refine BC.blk c60_51 (fun m2 hm2 => ?_)
        refine c_aload rfl ?_
        refine c_gfr (fun _ C _ => C.r rfl) ?_
        refine c_aload rfl ?_
        refine c_ane (fun d4 => ?_) (fun d4 => ?_)
        · skip
          refine BC.blk c60_69 (fun m3 hm3 => ?_)
          refine c_aload rfl ?_
          refine c_gfi (fun _ C _ => C.i rfl) ?_
          refine c_if_ne (fun d5 => ?_) (fun d5 => ?_)
          · skip
            refine BC.blk c60_84 (fun m4 hm4 => ?_)
            exact c_ret ⟨by rw [ohang, if_pos d1, if_neg d2], by rw [vhang, if_pos ⟨d1, d2⟩, vhan, if_neg (show ¬ v.2.1 2 5 (lno x y) = 0 from d3), if_neg (show ¬ v.2.1 1 3 (v.2.1 2 5 (lno x y)) = lno x y from d4), if_neg (show ¬ v.1 1 5 (v.2.1 2 5 (lno x y)) = 0 from d5)]; rfl⟩
          · skip
            refine c_aload rfl ?_
            refine c_aload rfl ?_
            refine c_iconst ?_
            refine d_callv cr_rs (e59) ?_
            refine c_goto ?_
            refine BC.blk c60_84 (fun m5 hm5 => ?_)
            exact c_ret ⟨by rw [ohang, if_pos d1, if_neg d2], by rw [vhang, if_pos ⟨d1, d2⟩, vhan, if_neg (show ¬ v.2.1 2 5 (lno x y) = 0 from d3), if_neg (show ¬ v.2.1 1 3 (v.2.1 2 5 (lno x y)) = lno x y from d4), if_pos (show v.1 1 5 (v.2.1 2 5 (lno x y)) = 0 from d5)]; rfl⟩
        · skip
          refine c_aload rfl ?_
          refine c_iconst ?_
          refine c_pfi (fun _ C _ => C.pi rfl) ?_
          refine c_goto ?_
          refine BC.blk c60_84 (fun m6 hm6 => ?_)
          exact c_ret ⟨by rw [ohang, if_pos d1, if_neg d2], by rw [vhang, if_pos ⟨d1, d2⟩, vhan, if_neg (show ¬ v.2.1 2 5 (lno x y) = 0 from d3), if_pos (show v.2.1 1 3 (v.2.1 2 5 (lno x y)) = lno x y from d4)]; rfl⟩
      · skip
        refine c_aload rfl ?_
        refine c_gfr (fun _ C l => C.r7 (k := 0) (by decide) l) ?_
        refine c_iload rfl ?_
        refine c_aald (fun _ C l i => C.a11 l i) (fun p1 => ?_)
        refine c_gfr (fun _ C l => C.r35 l) ?_
        refine c_iload rfl ?_
        refine d_callvP cr_rs rfl (fun _ C l => C.rl l) (fun hr => e38 hr) (fun hr => ?_)
        refine c_goto ?_
        refine BC.blk c60_84 (fun m7 hm7 => ?_)
        exact c_ret ⟨by rw [ohang, if_pos d1, if_neg d2], by rw [vhang, if_pos ⟨d1, d2⟩, vhan, if_pos (show v.2.1 2 5 (lno x y) = 0 from d3)]; rfl⟩
theorem e62 {v : vS} {jo j : Nat} {z : Int32} : ED CR 62 [rf 7 1, rf 3 jo, rf 1 j, .inl z] v (ov) (vdig v jo j z) := by
  refine EC.mk (fun n0 => ?_)
  show BC _ n0 62 0 [rf 7 1, rf 3 jo, rf 1 j, .inl z, rf 0 0] [] _ _
  refine BC.blk c62_0 (fun m1 hm1 => ?_)
  refine c_aload rfl ?_
  refine c_aload rfl ?_
  refine c_gfi (fun _ C _ => C.i rfl) ?_
  refine c_iconst ?_
  refine c_bin rfl ?_
  refine c_iload rfl ?_
  refine c_bin rfl ?_
  refine c_pfi (fun _ C _ => C.pi rfl) ?_
  refine c_aload rfl ?_
  refine c_iconst ?_
  refine c_pfi (fun _ C _ => C.pi rfl) ?_
  refine c_aload rfl ?_
  refine c_gfr (fun _ C l => C.r10 l) ?_
  refine c_iconst ?_
  refine c_pfi (fun _ C _ => C.pi rfl) ?_
  refine c_aload rfl ?_
  refine c_aload rfl ?_
  refine c_gfi (fun _ C _ => (C.i rfl).trans vd0_6) ?_
  refine d_callv cr_rs (e17) ?_
  refine c_astore rfl ?_
  refine c_aload rfl ?_
  refine c_ifnonnull (fun d1 => ?_) (fun d1 => ?_)
  · skip
    refine BC.blk c62_61 (fun m2 hm2 => ?_)
    refine c_aload rfl ?_
    refine c_aload rfl ?_
    refine c_gfi (fun _ C _ => (C.i rfl).trans vd0_6) ?_
    refine d_callv cr_rs (e35) ?_
    refine c_iconst ?_
    refine c_icmpk_lt (k := 2) rfl (fun d2 => ?_) (fun d2 => ?_)
    · skip
      refine BC.blk c62_86 (fun m3 hm3 => ?_)
      exact c_ret ⟨rfl, by rw [vdig, if_neg (show ¬ vdm v jo j z = 0 from d1), if_pos (show (dbh v (vdm v jo j z) (v.1 1 6 j * 10 + z)).toInt < 2 from d2)]; rfl⟩
    · skip
      refine c_aload rfl ?_
      refine c_aload rfl ?_
      refine c_pfr (fun _ C _ => C.pr rfl) ?_
      refine c_aload rfl ?_
      refine c_aload rfl ?_
      refine c_aload rfl ?_
      refine d_callv cr_rs (e61) ?_
      refine c_goto ?_
      refine BC.blk c62_86 (fun m4 hm4 => ?_)
      exact c_ret ⟨rfl, by rw [vdig, if_neg (show ¬ vdm v jo j z = 0 from d1), if_neg (show ¬ (dbh v (vdm v jo j z) (v.1 1 6 j * 10 + z)).toInt < 2 from d2)]; rfl⟩
  · skip
    refine c_aload rfl ?_
    refine c_aload rfl ?_
    refine c_gfi (fun _ C _ => (C.i rfl).trans vd0_6) ?_
    refine d_callv cr_rs (e18) ?_
    refine c_if_ne (fun d3 => ?_) (fun d3 => ?_)
    · skip
      refine BC.blk c62_86 (fun m5 hm5 => ?_)
      exact c_ret ⟨rfl, by rw [vdig, if_pos (show vdm v jo j z = 0 from d1), if_pos (show (cbp v jo (v.1 1 6 j * 10 + z)).isSome = true from bI1.mp d3)]; rfl⟩
    · skip
      refine c_aload rfl ?_
      refine c_aload rfl ?_
      refine c_iconst ?_
      refine d_callv cr_rs (e59) ?_
      refine c_goto ?_
      refine BC.blk c62_86 (fun m6 hm6 => ?_)
      exact c_ret ⟨rfl, by rw [vdig, if_pos (show vdm v jo j z = 0 from d1), if_neg (by rw [show (cbp v jo (v.1 1 6 j * 10 + z)).isSome = false from bI0.mp d3]; decide)]; rfl⟩
theorem e63 {v : vS} {x y z : Int32} : ED CR 63 [rf 7 1, .inl x, .inl y, .inl z] v (odial v x y z) (vdial v x y z) := by
  refine EC.mk (fun n0 => ?_)
  show BC _ n0 63 0 [rf 7 1, .inl x, .inl y, .inl z, rf 0 0, rf 0 0] [] _ _
  refine BC.blk c63_0 (fun m1 hm1 => ?_)
  refine c_aload rfl ?_
  refine c_iload rfl ?_
  refine c_iload rfl ?_
  refine n_line (fun d1 => ?_) (fun d1 => ?_)
  · skip
    exact id ⟨by rw [odial, if_neg (fun z => d1 z.1)], by rw [vdial, if_neg (fun z => d1 z.1.1)]⟩
  · skip
    refine c_astore rfl ?_
    refine c_iload rfl ?_
    refine c_iconst ?_
    refine c_iconst ?_
    refine d_call cr_rs (e25) ?_
    refine n_need (fun d2 => ?_) (fun d2 => ?_)
    · skip
      exact id ⟨by rw [odial, if_neg (fun z => b2i0.mp d2 z.2)], by rw [vdial, if_neg (fun z => b2i0.mp d2 z.1.2)]⟩
    · skip
      refine c_aload rfl ?_
      refine c_gfi (fun _ C _ => C.i rfl) ?_
      refine n_allow (fun d3 => ?_) (fun d3 => ?_)
      · skip
        exact id ⟨by rw [odial, if_pos ⟨d1, b2i1.mp d2⟩, if_pos d3], by rw [vdial, if_neg (fun z => z.2.1 d3)]⟩
      · skip
        refine c_aload rfl ?_
        refine c_gfr (fun _ C _ => C.r rfl) ?_
        refine c_astore rfl ?_
        refine c_aload rfl ?_
        refine c_ifnull (fun d4 => ?_) (fun d4 => ?_)
        · skip
          refine BC.blk c63_49 (fun m2 hm2 => ?_)
          refine c_iconst ?_
          exact c_zret ⟨by rw [odial, if_pos ⟨d1, b2i1.mp d2⟩, if_neg d3, b2i_neg (fun z => z.1 d4)], by rw [vdial, if_neg (fun z => z.2.2.1 d4)]⟩
        · skip
          refine c_aload rfl ?_
          refine c_gfr (fun _ C _ => C.r rfl) ?_
          refine c_stage ?_
          refine c_aeq (fun d5 => ?_) (fun d5 => ?_)
          · skip
            refine BC.blk c63_51 (fun m3 hm3 => ?_)
            refine c_aload rfl ?_
            refine c_aload rfl ?_
            refine c_gfr (fun _ C l => C.r7 (k := 0) (by decide) l) ?_
            refine c_iload rfl ?_
            refine c_aald (fun _ C l i => C.a11 l i) (fun p1 => ?_)
            refine c_aload rfl ?_
            refine c_iload rfl ?_
            refine d_callv cr_rs (e62) ?_
            refine c_iconst ?_
            exact c_zret ⟨by rw [odial, if_pos ⟨d1, b2i1.mp d2⟩, if_neg d3, b2i_pos ⟨d4, d5⟩], by rw [vdial, if_pos ⟨⟨d1, b2i1.mp d2⟩, d3, d4, d5⟩]⟩
          · skip
            refine c_goto ?_
            refine BC.blk c63_49 (fun m4 hm4 => ?_)
            refine c_iconst ?_
            exact c_zret ⟨by rw [odial, if_pos ⟨d1, b2i1.mp d2⟩, if_neg d3, b2i_neg (fun z => d5 z.2)], by rw [vdial, if_neg (fun z => d5 z.2.2.2)]⟩
theorem e79 {v : vS} {x b : Int32} : ED CR 79 [rf 7 1, .inl x, .inl b] v (oout v x) (vout v x b) := by
  refine EC.mk (fun n0 => ?_)
  show BC _ n0 79 0 [rf 7 1, .inl x, .inl b, rf 0 0, rf 0 0] [] _ _
  refine BC.blk c79_0 (fun m1 hm1 => ?_)
  refine c_iload rfl ?_
  refine c_iconst ?_
  refine c_aload rfl ?_
  refine c_gfi (fun _ C _ => C.i rfl) ?_
  refine c_iconst ?_
  refine c_bin rfl ?_
  refine d_call cr_rs (e25) ?_
  refine n_need (fun d1 => ?_) (fun d1 => ?_)
  · skip
    have h9 : ¬ tok v x := b2i0.mp d1
    exact id ⟨by rw [oout, if_neg h9], by rw [vout, if_neg h9]⟩
  · skip
    refine c_aload rfl ?_
    refine c_gfr (fun _ C l => C.r7 (k := 2) (by decide) l) ?_
    refine c_iload rfl ?_
    refine c_aald (fun _ C l i => C.a13 l i) (fun p1 => ?_)
    refine c_astore rfl ?_
    refine c_aload rfl ?_
    refine c_gfi (fun _ C _ => C.i rfl) ?_
    refine c_istore rfl ?_
    refine c_aload rfl ?_
    refine c_iload rfl ?_
    refine c_pfz (fun _ C _ => C.pi rfl) ?_
    refine c_iload rfl ?_
    refine c_if_eq (fun d2 => ?_) (fun d2 => ?_)
    · skip
      refine BC.blk c79_52 (fun m2 hm2 => ?_)
      refine c_iload rfl ?_
      have h9 : tok v x := b2i1.mp d1
      exact c_zret ⟨by rw [oout, if_pos h9], by rw [vout, if_pos h9, if_neg (fun z => z.1 d2)]⟩
    · skip
      refine c_aload rfl ?_
      refine c_gfr (fun _ C _ => C.r rfl) ?_
      refine c_ifnull (fun d3 => ?_) (fun d3 => ?_)
      · skip
        refine BC.blk c79_52 (fun m3 hm3 => ?_)
        refine c_iload rfl ?_
        have h9 : tok v x := b2i1.mp d1
        exact c_zret ⟨by rw [oout, if_pos h9], by rw [vout, if_pos h9, if_neg (fun z => z.2 (show v.2.1 6 3 (tob v x) = 0 from d3))]⟩
      · skip
        refine c_aload rfl ?_
        refine c_aload rfl ?_
        refine c_gfr (fun _ C _ => C.r rfl) ?_
        refine c_iconst ?_
        refine d_callv cr_rs (e59) ?_
        refine c_goto ?_
        refine BC.blk c79_52 (fun m4 hm4 => ?_)
        refine c_iload rfl ?_
        have h9 : tok v x := b2i1.mp d1
        exact c_zret ⟨by rw [oout, if_pos h9], by rw [vout, if_pos h9, if_pos ⟨d2, show ¬ v.2.1 6 3 (tob v x) = 0 from d3⟩];  rfl⟩
theorem e80 {v : vS} {x y b : Int32} : ED CR 80 [rf 7 1, .inl x, .inl y, .inl b] v (ohold v x y) (vhold v x y b) := by
  refine EC.mk (fun n0 => ?_)
  show BC _ n0 80 0 [rf 7 1, .inl x, .inl y, .inl b, rf 0 0, rf 0 0] [] _ _
  refine BC.blk c80_0 (fun m1 hm1 => ?_)
  refine c_aload rfl ?_
  refine c_iload rfl ?_
  refine c_iload rfl ?_
  refine n_line (fun d1 => ?_) (fun d1 => ?_)
  · skip
    exact id ⟨by rw [ohold, if_neg d1], by rw [vhold, if_neg (fun z => d1 z.1)]⟩
  · skip
    refine c_astore rfl ?_
    refine c_aload rfl ?_
    refine c_gfr (fun _ C _ => C.r rfl) ?_
    refine c_astore rfl ?_
    refine c_aload rfl ?_
    refine c_ifnull (fun d2 => ?_) (fun d2 => ?_)
    · skip
      refine BC.blk c80_41 (fun m2 hm2 => ?_)
      refine c_iconst ?_
      exact c_zret ⟨by rw [ohold, if_pos d1, b2i_neg (fun z => z.1 d2)], by rw [vhold, if_neg (fun z => z.2.1 d2)]⟩
    · skip
      refine c_aload rfl ?_
      refine c_gfr (fun _ C _ => C.r rfl) ?_
      refine c_aload rfl ?_
      refine c_ane (fun d3 => ?_) (fun d3 => ?_)
      · skip
        refine BC.blk c80_41 (fun m3 hm3 => ?_)
        refine c_iconst ?_
        exact c_zret ⟨by rw [ohold, if_pos d1, b2i_neg (fun z => d3 z.2.1)], by rw [vhold, if_neg (fun z => d3 z.2.2.1)]⟩
      · skip
        refine c_aload rfl ?_
        refine c_gfr (fun _ C _ => C.r rfl) ?_
        refine c_stage ?_
        refine c_aeq (fun d4 => ?_) (fun d4 => ?_)
        · skip
          refine BC.blk c80_43 (fun m4 hm4 => ?_)
          refine c_aload rfl ?_
          refine c_iload rfl ?_
          refine c_pfz (fun _ C _ => C.pi rfl) ?_
          refine c_iload rfl ?_
          refine c_if_ne (fun d5 => ?_) (fun d5 => ?_)
          · skip
            refine BC.blk c80_71 (fun m5 hm5 => ?_)
            refine c_iconst ?_
            exact c_zret ⟨by rw [ohold, if_pos d1, b2i_pos ⟨d2, d3, d4⟩], by rw [vhold, if_pos ⟨d1, d2, d3, d4⟩, if_neg (fun z => d5 z.1)]⟩
          · skip
            refine c_aload rfl ?_
            refine c_gfr (fun _ C l => C.r10 l) ?_
            refine c_gfi (fun _ C _ => C.i rfl) ?_
            refine c_if_ne (fun d6 => ?_) (fun d6 => ?_)
            · skip
              refine BC.blk c80_71 (fun m6 hm6 => ?_)
              refine c_iconst ?_
              exact c_zret ⟨by rw [ohold, if_pos d1, b2i_pos ⟨d2, d3, d4⟩], by rw [vhold, if_pos ⟨d1, d2, d3, d4⟩, if_neg (fun z => d6 z.2)]⟩
            · skip
              refine c_aload rfl ?_
              refine c_aload rfl ?_
              refine c_iconst ?_
              refine d_callv cr_rs (e59) ?_
              refine c_goto ?_
              refine BC.blk c80_71 (fun m7 hm7 => ?_)
              refine c_iconst ?_
              exact c_zret ⟨by rw [ohold, if_pos d1, b2i_pos ⟨d2, d3, d4⟩], by rw [vhold, if_pos ⟨d1, d2, d3, d4⟩, if_pos ⟨d5, d6⟩]⟩
        · skip
          refine c_goto ?_
          refine BC.blk c80_41 (fun m8 hm8 => ?_)
          refine c_iconst ?_
          exact c_zret ⟨by rw [ohold, if_pos d1, b2i_neg (fun z => d4 z.2.2)], by rw [vhold, if_neg (fun z => d4 z.2.2.2)]⟩
theorem e81 {v : vS} {x y : Int32} : ED CR 81 [rf 7 1, .inl x, .inl y] v (otone v x y) (v) := by
  refine EC.mk (fun n0 => ?_)
  show BC _ n0 81 0 [rf 7 1, .inl x, .inl y] [] _ _
  refine BC.blk c81_0 (fun m1 hm1 => ?_)
  refine c_aload rfl ?_
  refine c_iload rfl ?_
  refine c_iload rfl ?_
  refine n_line (fun d1 => ?_) (fun d1 => ?_)
  · skip
    exact id ⟨by rw [otone, if_neg d1], rfl⟩
  · skip
    refine c_gfi (fun _ C _ => C.i rfl) ?_
    exact c_iret ⟨by rw [otone, if_pos d1], rfl⟩
theorem e84 {v : vS} {x y : Int32} : ED CR 84 [rf 7 1, .inl x, .inl y] v (ometer v x y) (v) := by
  refine EC.mk (fun n0 => ?_)
  show BC _ n0 84 0 [rf 7 1, .inl x, .inl y] [] _ _
  refine BC.blk c84_0 (fun m1 hm1 => ?_)
  refine c_aload rfl ?_
  refine c_iload rfl ?_
  refine c_iload rfl ?_
  refine n_line (fun d1 => ?_) (fun d1 => ?_)
  · skip
    exact id ⟨by rw [ometer, if_neg d1], rfl⟩
  · skip
    refine c_gfi (fun _ C _ => C.i rfl) ?_
    exact c_iret ⟨by rw [ometer, if_pos d1], rfl⟩
theorem e82 {v : vS} {x y : Int32} : ED CR 82 [rf 7 1, .inl x, .inl y] v (orings v x y) (v) := by
  refine EC.mk (fun n0 => ?_)
  show BC _ n0 82 0 [rf 7 1, .inl x, .inl y, rf 0 0, rf 0 0] [] _ _
  refine BC.blk c82_0 (fun m1 hm1 => ?_)
  refine c_aload rfl ?_
  refine c_iload rfl ?_
  refine c_iload rfl ?_
  refine n_line (fun d1 => ?_) (fun d1 => ?_)
  · skip
    exact id ⟨by rw [orings, if_neg d1], rfl⟩
  · skip
    refine c_astore rfl ?_
    refine c_aload rfl ?_
    refine c_gfr (fun _ C _ => C.r rfl) ?_
    refine c_astore rfl ?_
    refine c_aload rfl ?_
    refine c_ifnull (fun d2 => ?_) (fun d2 => ?_)
    · skip
      refine BC.blk c82_42 (fun m2 hm2 => ?_)
      refine c_iconst ?_
      refine c_goto ?_
      refine BC.blk c82_43 (fun m3 hm3 => ?_)
      exact c_zret ⟨by rw [orings, if_pos d1, b2i_neg (fun z => z.1 d2)], rfl⟩
    · skip
      refine c_aload rfl ?_
      refine c_gfr (fun _ C _ => C.r rfl) ?_
      refine c_aload rfl ?_
      refine c_ane (fun d3 => ?_) (fun d3 => ?_)
      · skip
        refine BC.blk c82_42 (fun m4 hm4 => ?_)
        refine c_iconst ?_
        refine c_goto ?_
        refine BC.blk c82_43 (fun m5 hm5 => ?_)
        exact c_zret ⟨by rw [orings, if_pos d1, b2i_neg (fun z => d3 z.2.1)], rfl⟩
      · skip
        refine c_aload rfl ?_
        refine c_gfr (fun _ C _ => C.r rfl) ?_
        refine c_stage ?_
        refine c_ane (fun d4 => ?_) (fun d4 => ?_)
        · skip
          refine BC.blk c82_42 (fun m6 hm6 => ?_)
          refine c_iconst ?_
          refine c_goto ?_
          refine BC.blk c82_43 (fun m7 hm7 => ?_)
          exact c_zret ⟨by rw [orings, if_pos d1, b2i_neg (fun z => d4 z.2.2)], rfl⟩
        · skip
          refine c_iconst ?_
          refine c_goto ?_
          refine BC.blk c82_43 (fun m8 hm8 => ?_)
          exact c_zret ⟨by rw [orings, if_pos d1, b2i_pos ⟨d2, d3, d4⟩], rfl⟩
theorem e83 {v : vS} {x y : Int32} : ED CR 83 [rf 7 1, .inl x, .inl y] v (otalks v x y) (v) := by
  refine EC.mk (fun n0 => ?_)
  show BC _ n0 83 0 [rf 7 1, .inl x, .inl y, rf 0 0, rf 0 0] [] _ _
  refine BC.blk c83_0 (fun m1 hm1 => ?_)
  refine c_aload rfl ?_
  refine c_iload rfl ?_
  refine c_iload rfl ?_
  refine n_line (fun d1 => ?_) (fun d1 => ?_)
  · skip
    exact id ⟨by rw [otalks, if_neg d1], rfl⟩
  · skip
    refine c_astore rfl ?_
    refine c_aload rfl ?_
    refine c_gfr (fun _ C _ => C.r rfl) ?_
    refine c_astore rfl ?_
    refine c_aload rfl ?_
    refine c_ifnull (fun d2 => ?_) (fun d2 => ?_)
    · skip
      refine BC.blk c83_48 (fun m2 hm2 => ?_)
      refine c_iconst ?_
      exact c_iret ⟨by rw [otalks, if_pos d1, if_neg (fun z => z.1 d2)], rfl⟩
    · skip
      refine c_aload rfl ?_
      refine c_gfr (fun _ C _ => C.r rfl) ?_
      refine c_stage ?_
      refine c_ane (fun d3 => ?_) (fun d3 => ?_)
      · skip
        refine BC.blk c83_48 (fun m3 hm3 => ?_)
        refine c_iconst ?_
        exact c_iret ⟨by rw [otalks, if_pos d1, if_neg (fun z => d3 z.2.1)], rfl⟩
      · skip
        refine c_aload rfl ?_
        refine c_gfr (fun _ C l => C.r10 l) ?_
        refine c_gfi (fun _ C _ => C.i rfl) ?_
        refine c_if_eq (fun d4 => ?_) (fun d4 => ?_)
        · skip
          refine BC.blk c83_48 (fun m4 hm4 => ?_)
          refine c_iconst ?_
          exact c_iret ⟨by rw [otalks, if_pos d1, if_neg (fun z => z.2.2.1 d4)], rfl⟩
        · skip
          refine c_aload rfl ?_
          refine d_callv cr_rs (e5) ?_
          refine c_if_ne (fun d5 => ?_) (fun d5 => ?_)
          · skip
            refine BC.blk c83_50 (fun m5 hm5 => ?_)
            refine c_aload rfl ?_
            refine c_gfr (fun _ C _ => C.r rfl) ?_
            refine c_aload rfl ?_
            refine c_ane (fun d6 => ?_) (fun d6 => ?_)
            · skip
              refine BC.blk c83_70 (fun m6 hm6 => ?_)
              refine c_aload rfl ?_
              refine c_gfr (fun _ C _ => C.r rfl) ?_
              refine d_callv cr_rs (e9) ?_
              refine c_goto ?_
              refine BC.blk c83_78 (fun m7 hm7 => ?_)
              exact c_iret ⟨by rw [otalks, if_pos d1, if_pos ⟨d2, d3, d4, b2i1.mp d5⟩, if_neg d6], rfl⟩
            · skip
              refine c_aload rfl ?_
              refine c_gfr (fun _ C l => C.r10 l) ?_
              refine d_callv cr_rs (e9) ?_
              refine c_goto ?_
              refine BC.blk c83_78 (fun m8 hm8 => ?_)
              exact c_iret ⟨by rw [otalks, if_pos d1, if_pos ⟨d2, d3, d4, b2i1.mp d5⟩, if_pos d6], rfl⟩
          · skip
            refine c_goto ?_
            refine BC.blk c83_48 (fun m9 hm9 => ?_)
            refine c_iconst ?_
            exact c_iret ⟨by rw [otalks, if_pos d1, if_neg (fun z => b2i0.mp d5 z.2.2.2)], rfl⟩
theorem e87 {v : vS} {x y : Int32} : ED CR 87 [rf 7 1, .inl x, .inl y] v (oidle v x y) (v) := by
  refine EC.mk (fun n0 => ?_)
  show BC _ n0 87 0 [rf 7 1, .inl x, .inl y, rf 0 0] [] _ _
  refine BC.blk c87_0 (fun m1 hm1 => ?_)
  refine c_iload rfl ?_
  refine d_call cr_rs (e44) ?_
  refine n_need (fun d1 => ?_) (fun d1 => ?_)
  · skip
    exact id ⟨by rw [oidle, if_neg (fun z => b2i0.mp d1 z.1)], rfl⟩
  · skip
    refine c_aload rfl ?_
    refine c_gfr (fun _ C l => C.r7 (k := 0) (by decide) l) ?_
    refine c_iload rfl ?_
    refine c_aald (fun _ C l i => C.a11 l i) (fun p1 => ?_)
    refine c_astore rfl ?_
    refine c_iload rfl ?_
    refine c_switch (fun k9 a9 hk9 hx9 => ?_) (fun hx9 => ?_)
    · have hlt9 := (List.getElem?_eq_some_iff.mp hk9).1
      rcases (show k9 = 0 ∨ k9 = 1 ∨ k9 = 2 ∨ k9 = 3 ∨ k9 = 4 ∨ k9 = 5 by simp at hlt9; omega) with rfl | rfl | rfl | rfl | rfl | rfl
      · cases hk9
        refine BC.blk c87_52 (fun m2 hm2 => ?_)
        refine c_aload rfl ?_
        refine c_iconst ?_
        refine c_iconst ?_
        refine d_callv cr_rs (show ED CR 30 [rf 3 _, .inl 30, .inl 33] _ (oi (Int32.ofNat (cidl _ _ 30 33))) _ from e30 (by decide)) ?_
        have hy9 : y = 0 := i32_eq.mpr (by show _ = (0 : Int); omega)
        subst hy9
        exact c_iret ⟨by rw [oidle, if_pos ⟨b2i1.mp d1, by decide⟩, idl, if_pos rfl], rfl⟩
      · cases hk9
        refine BC.blk c87_61 (fun m3 hm3 => ?_)
        refine c_aload rfl ?_
        refine c_iconst ?_
        refine c_iconst ?_
        refine d_callv cr_rs (show ED CR 30 [rf 3 _, .inl 0, .inl 12] _ (oi (Int32.ofNat (cidl _ _ 0 12))) _ from e30 (by decide)) ?_
        have hy9 : y = 1 := i32_eq.mpr (by show _ = (1 : Int); omega)
        subst hy9
        exact c_iret ⟨by rw [oidle, if_pos ⟨b2i1.mp d1, by decide⟩, idl, if_neg (by decide), if_pos rfl], rfl⟩
      · cases hk9
        refine BC.blk c87_69 (fun m4 hm4 => ?_)
        refine c_aload rfl ?_
        refine c_iconst ?_
        refine c_iconst ?_
        refine d_callv cr_rs (show ED CR 30 [rf 3 _, .inl 20, .inl 25] _ (oi (Int32.ofNat (cidl _ _ 20 25))) _ from e30 (by decide)) ?_
        have hy9 : y = 2 := i32_eq.mpr (by show _ = (2 : Int); omega)
        subst hy9
        exact c_iret ⟨by rw [oidle, if_pos ⟨b2i1.mp d1, by decide⟩, idl, if_neg (by decide), if_neg (by decide), if_pos rfl], rfl⟩
      · cases hk9
        refine BC.blk c87_78 (fun m5 hm5 => ?_)
        refine c_aload rfl ?_
        refine c_iload rfl ?_
        refine d_callv cr_rs (e86) ?_
        have hy9 : y = 3 := i32_eq.mpr (by show _ = (3 : Int); omega)
        subst hy9
        exact c_iret ⟨by rw [oidle, if_pos ⟨b2i1.mp d1, by decide⟩, idl, if_neg (by decide), if_neg (by decide), if_neg (by decide), if_pos rfl], rfl⟩
      · cases hk9
        refine BC.blk c87_84 (fun m6 hm6 => ?_)
        refine c_aload rfl ?_
        refine c_gfr (fun _ C l => C.r35 l) ?_
        refine d_callv cr_rs (e24) ?_
        have hy9 : y = 4 := i32_eq.mpr (by show _ = (4 : Int); omega)
        subst hy9
        exact c_iret ⟨by rw [oidle, if_pos ⟨b2i1.mp d1, by decide⟩, idl, if_neg (by decide), if_neg (by decide), if_neg (by decide), if_neg (by decide), if_pos rfl], rfl⟩
      · cases hk9
        refine BC.blk c87_92 (fun m7 hm7 => ?_)
        refine c_aload rfl ?_
        refine c_gfr (fun _ C l => C.r36 l) ?_
        refine d_callv cr_rs (e24) ?_
        have hy9 : y = 5 := i32_eq.mpr (by show _ = (5 : Int); omega)
        subst hy9
        exact c_iret ⟨by rw [oidle, if_pos ⟨b2i1.mp d1, by decide⟩, idl, if_neg (by decide), if_neg (by decide), if_neg (by decide), if_neg (by decide), if_neg (by decide)], rfl⟩
    · skip
      refine BC.blk c87_100 (fun m8 hm8 => ?_)
      exact c_throw cr_rs ⟨by rw [oidle, if_neg (fun z => by have h9 : (0 : Int) + ([52, 61, 69, 78, 84, 92] : List Nat).length = 6 := rfl; omega)], rfl⟩
theorem e88 {v : vS} {x y : Int32} : ED CR 88 [rf 7 1, .inl x, .inl y] v (ooverflow v x y) (v) := by
  refine EC.mk (fun n0 => ?_)
  show BC _ n0 88 0 [rf 7 1, .inl x, .inl y] [] _ _
  refine BC.blk c88_0 (fun m1 hm1 => ?_)
  refine c_iload rfl ?_
  refine d_call cr_rs (e44) ?_
  refine c_if_eq (fun d1 => ?_) (fun d1 => ?_)
  · skip
    refine BC.blk c88_18 (fun m2 hm2 => ?_)
    refine c_iconst ?_
    refine c_goto ?_
    refine BC.blk c88_19 (fun m3 hm3 => ?_)
    refine n_need (fun d2 => ?_) (fun d2 => ?_)
    · skip
      exact id ⟨by rw [ooverflow, if_neg (fun z => b2i0.mp d1 z.1)], rfl⟩
    · exact absurd rfl d2
  · skip
    refine c_iload rfl ?_
    refine d_call cr_rs (e44) ?_
    refine c_if_eq (fun d3 => ?_) (fun d3 => ?_)
    · skip
      refine BC.blk c88_18 (fun m4 hm4 => ?_)
      refine c_iconst ?_
      refine c_goto ?_
      refine BC.blk c88_19 (fun m5 hm5 => ?_)
      refine n_need (fun d4 => ?_) (fun d4 => ?_)
      · skip
        exact id ⟨by rw [ooverflow, if_neg (fun z => b2i0.mp d3 z.2)], rfl⟩
      · exact absurd rfl d4
    · skip
      refine c_iconst ?_
      refine c_goto ?_
      refine BC.blk c88_19 (fun m6 hm6 => ?_)
      refine n_need (fun d5 => ?_) (fun d5 => ?_)
      · exact absurd d5 (by decide)
      · skip
        refine c_aload rfl ?_
        refine c_gfr (fun _ C l => C.r7 (k := 3) (by decide) l) ?_
        refine c_iload rfl ?_
        refine c_aald (fun _ C l i => C.a14 l i) (fun p1 => ?_)
        refine c_iload rfl ?_
        refine c_ald (fun _ C l i => C.a15 l i) (fun p2 => ?_)
        exact c_iret ⟨by rw [ooverflow, if_pos ⟨b2i1.mp d1, b2i1.mp d3⟩], rfl⟩
theorem e50 {v : vS} {x y z : Int32} : ED CR 50 [rf 7 1, .inl x, .inl y, .inl z] v (ohunt v x y z) (vhunt v x y z) := by
  refine EC.mk (fun n0 => ?_)
  show BC _ n0 50 0 [rf 7 1, .inl x, .inl y, .inl z, rf 0 0] [] _ _
  refine BC.blk c50_0 (fun m1 hm1 => ?_)
  refine c_iload rfl ?_
  refine d_call cr_rs (e44) ?_
  refine c_if_eq (fun d1 => ?_) (fun d1 => ?_)
  · skip
    refine BC.blk c50_27 (fun m2 hm2 => ?_)
    refine c_iconst ?_
    refine c_goto ?_
    refine BC.blk c50_28 (fun m3 hm3 => ?_)
    refine n_need (fun d2 => ?_) (fun d2 => ?_)
    · skip
      exact id ⟨by rw [ohunt, if_neg (fun q => b2i0.mp d1 q.1)], by rw [vhunt, if_neg (fun q => b2i0.mp d1 q.1.1)]⟩
    · exact absurd rfl d2
  · skip
    refine c_iload rfl ?_
    refine c_iconst ?_
    refine c_iconst ?_
    refine d_call cr_rs (e25) ?_
    refine c_if_eq (fun d3 => ?_) (fun d3 => ?_)
    · skip
      refine BC.blk c50_27 (fun m4 hm4 => ?_)
      refine c_iconst ?_
      refine c_goto ?_
      refine BC.blk c50_28 (fun m5 hm5 => ?_)
      refine n_need (fun d4 => ?_) (fun d4 => ?_)
      · skip
        exact id ⟨by rw [ohunt, if_neg (fun q => b2i0.mp d3 q.2.1)], by rw [vhunt, if_neg (fun q => b2i0.mp d3 q.1.2.1)]⟩
      · exact absurd rfl d4
    · skip
      refine c_iload rfl ?_
      refine d_call cr_rs (e26) ?_
      refine c_if_eq (fun d5 => ?_) (fun d5 => ?_)
      · skip
        refine BC.blk c50_27 (fun m6 hm6 => ?_)
        refine c_iconst ?_
        refine c_goto ?_
        refine BC.blk c50_28 (fun m7 hm7 => ?_)
        refine n_need (fun d6 => ?_) (fun d6 => ?_)
        · skip
          exact id ⟨by rw [ohunt, if_neg (fun q => b2i0.mp d5 q.2.2)], by rw [vhunt, if_neg (fun q => b2i0.mp d5 q.1.2.2)]⟩
        · exact absurd rfl d6
      · skip
        refine c_iconst ?_
        refine c_goto ?_
        refine BC.blk c50_28 (fun m8 hm8 => ?_)
        refine n_need (fun d7 => ?_) (fun d7 => ?_)
        · exact absurd d7 (by decide)
        · skip
          refine c_aload rfl ?_
          refine c_gfr (fun _ C l => C.r7 (k := 0) (by decide) l) ?_
          refine c_iload rfl ?_
          refine c_aald (fun _ C l i => C.a11 l i) (fun p1 => ?_)
          refine c_gfr (fun _ C l => C.r3 (k := 4) rfl l) ?_
          refine c_iload rfl ?_
          refine c_aald (fun _ C l i => C.a19 l i) (fun p2 => ?_)
          refine c_astore rfl ?_
          refine c_aload rfl ?_
          refine d_callvP cr_rs rfl (fun _ C l => And.intro (C.rl l) (C.rlen l)) (fun hr => e24) (fun hr => ?_)
          have hr2 : (v.2.2.1 (hrow x y)).length ≤ 24 := hr.2
          have o2 := ofN (n := (v.2.2.1 (hrow x y)).length) (by omega)
          refine c_iconst ?_
          refine c_icmpk_ge (k := 6) rfl (fun d8 => ?_) (fun d8 => ?_)
          · skip
            refine BC.blk c50_71 (fun m9 hm9 => ?_)
            refine c_iconst ?_
            refine c_goto ?_
            refine BC.blk c50_72 (fun m10 hm10 => ?_)
            refine n_allow (fun d9 => ?_) (fun d9 => ?_)
            · skip
              have d8 : 6 ≤ (Int32.ofNat (v.2.2.1 (hrow x y)).length).toInt := d8
              exact id ⟨by rw [ohunt, if_pos ⟨b2i1.mp d1, b2i1.mp d3, b2i1.mp d5⟩, if_neg (fun q => absurd q.1 (by omega))], by rw [vhunt, if_neg (fun q => absurd q.2.1 (by omega))]⟩
            · exact absurd rfl d9
          · skip
            refine c_aload rfl ?_
            refine c_gfr (fun _ C l => C.r7 (k := 0) (by decide) l) ?_
            refine c_iload rfl ?_
            refine c_aald (fun _ C l i => C.a11 l i) (fun p3 => ?_)
            refine c_iload rfl ?_
            refine d_callv cr_rs (e22) ?_
            refine c_if_ne (fun d10 => ?_) (fun d10 => ?_)
            · skip
              refine BC.blk c50_71 (fun m11 hm11 => ?_)
              refine c_iconst ?_
              refine c_goto ?_
              refine BC.blk c50_72 (fun m12 hm12 => ?_)
              refine n_allow (fun d11 => ?_) (fun d11 => ?_)
              · skip
                have h9 : ¬ iah v (x.toNatClampNeg + 1) z = none := fun q => by have e8 : (iah v (x.toNatClampNeg + 1) z).isSome = true := bI1.mp d10; rw [q] at e8; cases e8
                exact id ⟨by rw [ohunt, if_pos ⟨b2i1.mp d1, b2i1.mp d3, b2i1.mp d5⟩, if_neg (fun q => h9 q.2)], by rw [vhunt, if_neg (fun q => h9 q.2.2)]⟩
              · exact absurd rfl d11
            · skip
              refine c_iconst ?_
              refine c_goto ?_
              refine BC.blk c50_72 (fun m13 hm13 => ?_)
              refine n_allow (fun d12 => ?_) (fun d12 => ?_)
              · exact absurd d12 (by decide)
              · skip
                refine c_aload rfl ?_
                refine c_iload rfl ?_
                refine d_callvP cr_rs rfl (fun _ C l => C.rl l) (fun hr => e37 hr) (fun hr => ?_)
                refine c_aload rfl ?_
                refine d_callv cr_rs (e24) ?_
                have h9 : iah v (x.toNatClampNeg + 1) z = none := by have e8 : (iah v (x.toNatClampNeg + 1) z).isSome = false := bI0.mp d10; simpa using e8
                have d8 : ¬ 6 ≤ (Int32.ofNat (v.2.2.1 (hrow x y)).length).toInt := d8
                have h8 : hnal v x y z := ⟨by omega, h9⟩
                exact c_iret ⟨by rw [ohunt, if_pos ⟨b2i1.mp d1, b2i1.mp d3, b2i1.mp d5⟩, if_pos h8]; show oi (Int32.ofNat (x_u1 v.2.2.1 (hrow x y) _ (hrow x y)).length) = _; unfold x_u1; rw [if_pos rfl], by rw [vhunt, if_pos ⟨⟨b2i1.mp d1, b2i1.mp d3, b2i1.mp d5⟩, h8⟩]⟩
