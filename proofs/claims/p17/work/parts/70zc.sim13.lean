/-! LIFTING, on both sides -/
section XLI
variable {D : Int} {v : vS} {F : xF} {o n c : Nat}
theorem ol_0 (S : Sim D v F) (ho : o < 3) (hn : n < 24) (h22 : F 22 (24 * o + n) = 0) : olift v (Int32.ofNat o) (Int32.ofNat n) = ov ∧ vlift v (Int32.ofNat o) (Int32.ofNat n) = vlif v (Int32.ofNat o) (Int32.ofNat n) := by
  have e : v.1 2 2 (24 * o + n + 1) = 0 := (S.li (c := 24 * o + n) (by omega)).trans h22
  unfold olift vlift
  rw [if_pos (lnok_e ho hn), lno_e ho hn, if_pos e, if_pos ⟨lnok_e ho hn, e⟩]
  exact ⟨rfl, rfl⟩
theorem ol_2 (S : Sim D v F) (ho : o < 3) (hn : n < 24) (h22 : ¬ F 22 (24 * o + n) = 0) : olift v (Int32.ofNat o) (Int32.ofNat n) = .inr 2 ∧ vlift v (Int32.ofNat o) (Int32.ofNat n) = v := by
  have e : ¬ v.1 2 2 (24 * o + n + 1) = 0 := fun z => h22 ((S.li (c := 24 * o + n) (by omega)).symm.trans z)
  unfold olift vlift
  rw [if_pos (lnok_e ho hn), lno_e ho hn, if_neg e, if_neg (fun z => e z.2)]
  exact ⟨rfl, rfl⟩
theorem vl_a (S : Sim D v F) (ho : o < 3) (hn : n < 24) (hc : c < 72) (h28 : F 28 (24 * o + n) = Int32.ofNat c) : vlif v (Int32.ofNat o) (Int32.ofNat n) = vans (vpi v 2 2 (24 * o + n + 1) 1) (c + 1) := by
  obtain ⟨a1, a2, -⟩ := S.cr2 (c := 24 * o + n) (by omega) hc h28
  unfold vlif
  rw [lno_e ho hn, a1, if_neg (by omega), if_pos a2]
theorem vl_b (S : Sim D v F) (ho : o < 3) (hn : n < 24) (h47 : ¬ F 47 (24 * o + n) = 0) : vlif v (Int32.ofNat o) (Int32.ofNat n) = vpi v 2 2 (24 * o + n + 1) 1 := by
  have a1 := S.cr1 (c := 24 * o + n) (by omega) h47
  have a2 := S.cd1 (c := 24 * o + n) (by omega) h47
  unfold vlif
  rw [lno_e ho hn, a1, if_neg (by omega), if_neg a2]
theorem vl_c (S : Sim D v F) (ho : o < 3) (hn : n < 24) (h47 : F 47 (24 * o + n) = 0) (h28 : (F 28 (24 * o + n)).toInt < 0) : vlif v (Int32.ofNat o) (Int32.ofNat n) = vask (vpi v 2 2 (24 * o + n + 1) 1) (o + 1) (24 * o + n + 1) := by
  have a1 := S.cr0 (c := 24 * o + n) (by omega) h47 h28
  unfold vlif
  rw [lno_e ho hn, a1, if_pos rfl, (ofN (n := o) (by omega)).2]
/-- lifted while no call has it: asking for a register -/
theorem vask_w (S : Sim D v F) (ho : o < 3) (hn : n < 24) (h : fidl v (o + 1) 30 33 = -1 ∨ 0 < (v.2.2.1 (30 * o + 1)).length) : vask v (o + 1) (24 * o + n + 1) = vrw v (30 * o + 1) (radd (cap (30 * o + 1)) (v.2.2.1 (30 * o + 1)) (Int32.ofNat n)) := by
  unfold vask
  rw [show o + 1 - 1 = o from rfl, if_pos h, show (24 * o + n + 1 - 1) % 24 = n by omega]
theorem vask_b (S : Sim D v F) {k : Nat} (h1 : fidl v (o + 1) 30 33 = Int32.ofNat (30 + k)) (hk : k < 3) (h : v.2.2.1 (30 * o + 1) = []) : vask v (o + 1) (24 * o + n + 1) = vbeg v (o + 1) (24 * o + n + 1) (Int32.ofNat (30 + k)) := by
  unfold vask
  rw [show o + 1 - 1 = o from rfl, h1, h, if_neg]
  rintro (z | z)
  · have := congrArg Int32.toInt z
    rw [(ofN (n := 30 + k) (by omega)).1] at this
    have : ((30 + k : Nat) : Int) = -1 := this
    omega
  · exact absurd z (by decide)
end XLI
theorem rbeg_8 {F : xF} {l i : Nat} {r : Int32} : rbeg F l r 8 i = F 8 i := by
  unfold rbeg
  rw [rseize_k (by omega)]
  rfl
theorem r110x {D : Int} {v : vS} {F : xF} {x y : Int32} (S : Sim D v F) (hx : ¬ lnok x y) : EC MR 110 [rf 8 1, .inl x, .inl y] F (fun o9 t => Sim D (vlift v x y) t ∧ AG (olift v x y) o9 t ∧ t 8 1 = F 8 1 ∧ t 8 2 = F 8 2) := by
  refine EC.mk (fun n0 => ?_)
  show BC _ n0 110 0 [rf 8 1, .inl x, .inl y, rf 0 0, rf 0 0] [] _ _
  refine BC.blk c110_0 (fun m1 hm1 => ?_)
  refine c_aload rfl ?_
  refine c_iload rfl ?_
  refine c_iload rfl ?_
  refine d_call mr_rs (e93) ?_
  refine c_if_ne (fun d1 => ?_) (fun d1 => ?_)
  · skip
    exact absurd (b2i1.mp d1) hx
  · skip
    refine c_iconst ?_
    refine c_goto ?_
    refine BC.blk c110_32 (fun m2 hm2 => ?_)
    refine d_callv mr_rs (e91) ?_
    refine c_if_eq (fun d2 => ?_) (fun d2 => ?_)
    · skip
      exact absurd d2 (by decide)
    · skip
      exact c_ret ⟨by rw [vlift, if_neg (fun z => hx z.1)]; exact S.f8 ⟨by decide, by decide⟩, Or.inl ⟨1, by rw [olift, if_neg hx], rfl, by decide, by decide⟩, rfl, rfl⟩
theorem r110l {D : Int} {v : vS} {F : xF} {o n : Nat} (S : Sim D v F) (ho : o < 3) (hn : n < 24) (h22 : ¬ F 22 (24 * o + n) = 0) : EC MR 110 [rf 8 1, .inl (Int32.ofNat o), .inl (Int32.ofNat n)] F (fun o9 t => Sim D (vlift v (Int32.ofNat o) (Int32.ofNat n)) t ∧ AG (olift v (Int32.ofNat o) (Int32.ofNat n)) o9 t ∧ t 8 1 = F 8 1 ∧ t 8 2 = F 8 2) := by
  refine EC.mk (fun n0 => ?_)
  show BC _ n0 110 0 [rf 8 1, .inl (Int32.ofNat o), .inl (Int32.ofNat n), rf 0 0, rf 0 0] [] _ _
  refine BC.blk c110_0 (fun m1 hm1 => ?_)
  refine c_aload rfl ?_
  refine c_iload rfl ?_
  refine c_iload rfl ?_
  refine d_call mr_rs (e93) ?_
  refine c_if_ne (fun d1 => ?_) (fun d1 => ?_)
  · skip
    refine BC.blk c110_13 (fun m2 hm2 => ?_)
    refine c_aload rfl ?_
    refine c_gfr (fun _ C _ => C.ar (k := 3) (K := 22) (n := 72) (by decide)) ?_
    refine c_iconst ?_
    refine c_iload rfl ?_
    refine c_bin (ofN_mul (24) (o)) ?_
    refine c_iload rfl ?_
    refine c_bin (ofN_add ((24 * o)) (n)) ?_
    refine c_ald (fun _ C l9 i9 => C.an (k := 3) (K := 22) (n := 72) (by decide) i9 (ofN (by omega)).2) (fun p1 => ?_)
    refine c_if_eq (fun d2 => ?_) (fun d2 => ?_)
    · skip
      exact absurd d2 h22
    · skip
      refine c_iconst ?_
      refine c_goto ?_
      refine BC.blk c110_32 (fun m3 hm3 => ?_)
      refine d_callv mr_rs (e91) ?_
      refine c_if_eq (fun d3 => ?_) (fun d3 => ?_)
      · skip
        exact absurd d3 (by decide)
      · skip
        exact c_ret ⟨by rw [(ol_2 S ho hn h22).2]; exact S.f8 ⟨by decide, by decide⟩, Or.inl ⟨2, (ol_2 S ho hn h22).1, rfl, by decide, by decide⟩, rfl, rfl⟩
  · skip
    exact absurd (lnok_e ho hn) (b2i0.mp d1)
theorem r110o {D : Int} {v : vS} {F : xF} {o n : Nat} (S : Sim D v F) (ho : o < 3) (hn : n < 24) (h22 : F 22 (24 * o + n) = 0) (hst : 0 ≤ (F 8 2).toInt ∧ (F 8 2).toInt < 100000) : EC MR 110 [rf 8 1, .inl (Int32.ofNat o), .inl (Int32.ofNat n)] F (fun o9 t => Sim D (vlift v (Int32.ofNat o) (Int32.ofNat n)) t ∧ AG (olift v (Int32.ofNat o) (Int32.ofNat n)) o9 t ∧ t 8 1 = F 8 1 ∧ 0 ≤ (t 8 2).toInt ∧ (t 8 2).toInt ≤ (F 8 2).toInt + 1) := by
  have S1 : Sim D v (x_u2 F 8 0 0) := S.f8 ⟨by decide, by decide⟩
  have S2 := S1.lift0 (c := 24 * o + n) (by omega)
  have hE := (ol_0 S ho hn h22).2
  have pl := S.pl (c := 24 * o + n) (by omega)
  have h24 : (F 24 (24 * o + n)).toInt < 0 := Int.not_le.mp (fun z => (pl.2.2.2.2.2.2.2.1.2 z).2.2.1 h22)
  have h23 : F 23 (24 * o + n) = 0 := Classical.byContradiction (fun z => (pl.2.2.2.2.2.2.2.2.1 z).2.2 h22)
  have h24e : F 24 (24 * o + n) = -1 := i32_eq.mpr (by have := pl.2.2.2.2.2.2.2.1.1; show _ = (-1 : Int); omega)
  have e24 : (24 * o + n) / 24 = o := by omega
  have g22 : ¬ (x_u2 (x_u2 F 8 0 0) 22 (24 * o + n) 1) 22 (24 * o + n) = 0 := by rw [u2_eq]; decide
  have s1 : (F 8 2 + 1).toInt = (F 8 2).toInt + 1 := i32_add (by show _ ≤ _ + (1 : Int); omega) (by show _ + (1 : Int) < _; omega)
  refine EC.mk (fun n0 => ?_)
  show BC _ n0 110 0 [rf 8 1, .inl (Int32.ofNat o), .inl (Int32.ofNat n), rf 0 0, rf 0 0] [] _ _
  refine BC.blk c110_0 (fun m1 hm1 => ?_)
  refine c_aload rfl ?_
  refine c_iload rfl ?_
  refine c_iload rfl ?_
  refine d_call mr_rs (e93) ?_
  refine c_if_ne (fun d1 => ?_) (fun d1 => ?_)
  · skip
    refine BC.blk c110_13 (fun m2 hm2 => ?_)
    refine c_aload rfl ?_
    refine c_gfr (fun _ C _ => C.ar (k := 3) (K := 22) (n := 72) (by decide)) ?_
    refine c_iconst ?_
    refine c_iload rfl ?_
    refine c_bin (ofN_mul (24) (o)) ?_
    refine c_iload rfl ?_
    refine c_bin (ofN_add ((24 * o)) (n)) ?_
    refine c_ald (fun _ C l9 i9 => C.an (k := 3) (K := 22) (n := 72) (by decide) i9 (ofN (by omega)).2) (fun p1 => ?_)
    refine c_if_eq (fun d2 => ?_) (fun d2 => ?_)
    · skip
      refine BC.blk c110_31 (fun m3 hm3 => ?_)
      refine c_iconst ?_
      refine c_goto ?_
      refine BC.blk c110_32 (fun m4 hm4 => ?_)
      refine d_callv mr_rs (e91) ?_
      refine c_if_eq (fun d3 => ?_) (fun d3 => ?_)
      · skip
        refine BC.blk c110_39 (fun m5 hm5 => ?_)
        refine c_iconst ?_
        refine c_iload rfl ?_
        refine c_bin (ofN_mul (24) (o)) ?_
        refine c_iload rfl ?_
        refine c_bin (ofN_add ((24 * o)) (n)) ?_
        refine c_istore rfl ?_
        refine c_aload rfl ?_
        refine c_gfr (fun _ C _ => C.ar (k := 3) (K := 22) (n := 72) (by decide)) ?_
        refine c_iload rfl ?_
        refine c_iconst ?_
        refine c_zst (fun _ C l9 i9 => C.sn (k := 3) (K := 22) (n := 72) (by decide) i9 (ofN (by omega)).2) (fun p2 => ?_)
        refine c_aload rfl ?_
        refine c_gfr (fun _ C _ => C.ar (k := 9) (K := 28) (n := 72) (by decide)) ?_
        refine c_iload rfl ?_
        refine c_ald (fun _ C l9 i9 => (fun z => ⟨z.1, z.2.trans (show _ = F 28 (24 * o + n) from rfl)⟩) (C.an (k := 9) (K := 28) (n := 72) (by decide) i9 (ofN (by omega)).2)) (fun p3 => ?_)
        refine c_istore rfl ?_
        refine c_iload rfl ?_
        refine c_if_lt (fun d4 => ?_) (fun d4 => ?_)
        · skip
          refine BC.blk c110_131 (fun m6 hm6 => ?_)
          refine c_aload rfl ?_
          refine c_gfr (fun _ C _ => C.ar (k := 29) (K := 47) (n := 72) (by decide)) ?_
          refine c_iload rfl ?_
          refine c_ald (fun _ C l9 i9 => (fun z => ⟨z.1, z.2.trans (show _ = F 47 (24 * o + n) from rfl)⟩) (C.an (k := 29) (K := 47) (n := 72) (by decide) i9 (ofN (by omega)).2)) (fun p4 => ?_)
          refine c_if_ne (fun d5 => ?_) (fun d5 => ?_)
          · skip
            refine BC.blk c110_184 (fun m7 hm7 => ?_)
            exact c_ret ⟨by rw [hE, vl_b S ho hn d5]; exact S2, Or.inr ⟨none, (ol_0 S ho hn h22).1, rfl, rfl⟩, rfl, by exact hst.1, by show (F 8 2).toInt ≤ _; omega⟩
          · skip
            refine c_aload rfl ?_
            refine c_iload rfl ?_
            refine p_callv mr_rs (e107 ho) (fun r hr => ?_)
            refine c_if_lt (fun d6 => ?_) (fun d6 => ?_)
            · skip
              refine BC.blk c110_164 (fun m8 hm8 => ?_)
              refine c_aload rfl ?_
              refine c_gfr (fun _ C _ => C.ar (k := 5) (K := 24) (n := 72) (by decide)) ?_
              refine c_iload rfl ?_
              refine c_aload rfl ?_
              refine c_gfi (fun _ C _ => C.f _) ?_
              refine c_ast (fun _ C l9 i9 => C.sn (k := 5) (K := 24) (n := 72) (by decide) i9 (ofN (by omega)).2) (fun p5 => ?_)
              refine c_aload rfl ?_
              refine c_dup ?_
              refine c_gfi (fun _ C _ => C.f _) ?_
              refine c_iconst ?_
              refine c_bin rfl ?_
              refine c_pfi (fun _ C _ => C.pf) ?_
              refine c_goto ?_
              refine BC.blk c110_184 (fun m9 hm9 => ?_)
              have SW := S2.wadd ho hn h24 d5 d4 g22 h23 hst
              refine c_ret ⟨?_, Or.inr ⟨none, (ol_0 S ho hn h22).1, rfl, rfl⟩, rfl, ?_, ?_⟩
              · rw [hE, vl_c S ho hn d5 d4, vask_w S2 ho hn (Or.inl ((S2.1.freg ho hr).elim (fun z => z.2) (fun ⟨k, k1, k2, _⟩ => absurd d6 (by rw [k2, (ofN (n := k) (by omega)).1]; omega))))]
                exact SW
              · show 0 ≤ (F 8 2 + 1).toInt
                omega
              · show (F 8 2 + 1).toInt ≤ _
                omega
            · skip
              refine c_aload rfl ?_
              refine c_iload rfl ?_
              refine p_callv mr_rs (e108 ho) (fun b hb => ?_)
              refine c_if_ne (fun d7 => ?_) (fun d7 => ?_)
              · skip
                refine BC.blk c110_164 (fun m10 hm10 => ?_)
                refine c_aload rfl ?_
                refine c_gfr (fun _ C _ => C.ar (k := 5) (K := 24) (n := 72) (by decide)) ?_
                refine c_iload rfl ?_
                refine c_aload rfl ?_
                refine c_gfi (fun _ C _ => C.f _) ?_
                refine c_ast (fun _ C l9 i9 => C.sn (k := 5) (K := 24) (n := 72) (by decide) i9 (ofN (by omega)).2) (fun p6 => ?_)
                refine c_aload rfl ?_
                refine c_dup ?_
                refine c_gfi (fun _ C _ => C.f _) ?_
                refine c_iconst ?_
                refine c_bin rfl ?_
                refine c_pfi (fun _ C _ => C.pf) ?_
                refine c_goto ?_
                refine BC.blk c110_184 (fun m11 hm11 => ?_)
                have SW := S2.wadd ho hn h24 d5 d4 g22 h23 hst
                refine c_ret ⟨?_, Or.inr ⟨none, (ol_0 S ho hn h22).1, rfl, rfl⟩, rfl, ?_, ?_⟩
                · rw [hE, vl_c S ho hn d5 d4, vask_w S2 ho hn (Or.inr ((S2.1.fwt ho hb).elim (fun z => z.2) (fun z => absurd z.1 d7)))]
                  exact SW
                · show 0 ≤ (F 8 2 + 1).toInt
                  omega
                · show (F 8 2 + 1).toInt ≤ _
                  omega
              · skip
                refine c_aload rfl ?_
                refine c_iload rfl ?_
                refine c_callv mr_rs (e109 (l := 24 * o + n) (by omega)) (fun w t1 p => ?_) (fun k t1 p => by cases p.1)
                obtain ⟨e9, ⟨r2, hr2, rfl⟩⟩ := p
                cases e9
                refine c_goto ?_
                refine BC.blk c110_184 (fun m12 hm12 => ?_)
                rw [e24] at hr2
                have er := FS.eq hr hr2 (fun _ _ => Iff.rfl)
                subst er
                rcases S2.1.freg ho hr with ⟨z, -⟩ | ⟨k, k1, k2, k3, k4⟩
                · rw [z] at d6; exact absurd (show (-1 : Int32).toInt < 0 by decide) d6
                · have hb0 : (vpi v 2 2 (24 * o + n + 1) 1).2.2.1 (30 * o + 1) = [] := (S2.1.fwt ho hb).elim (fun z => absurd (z.1.symm.trans d7) (by decide)) (fun z => z.2)
                  have SB := S2.begin (c := 24 * o + n) (r := k) (by omega) d5 d4 h24e g22 h23 k1 (by rw [e24]; exact k4)
                  rw [e24, ← k2] at SB
                  refine c_ret ⟨?_, Or.inr ⟨none, (ol_0 S ho hn h22).1, rbeg_8, rfl⟩, ?_, ?_, ?_⟩
                  · rw [hE, vl_c S ho hn d5 d4, vask_b S2 k3 k1 hb0]
                    exact SB
                  · exact rbeg_8
                  · rw [rbeg_8]; exact hst.1
                  · rw [rbeg_8]; show (F 8 2).toInt ≤ _; omega
        · skip
          obtain ⟨c, hc, ec⟩ := S.b28 (c := 24 * o + n) (by omega) (Int.not_lt.mp d4)
          rw [ec]
          refine c_aload rfl ?_
          refine c_gfr (fun _ C _ => C.ar (k := 29) (K := 47) (n := 72) (by decide)) ?_
          refine c_iload rfl ?_
          refine c_ald (fun _ C l9 i9 => (fun z => ⟨z.1, z.2.trans (show _ = F 47 c from rfl)⟩) (C.an (k := 29) (K := 47) (n := 72) (by decide) i9 (ofN (by omega)).2)) (fun p7 => ?_)
          refine c_iconst ?_
          refine c_icmp_ne (fun d8 => ?_) (fun d8 => ?_)
          · skip
            refine BC.blk c110_120 (fun m13 hm13 => ?_)
            refine c_aload rfl ?_
            refine c_gfr (fun _ C _ => C.ar (k := 44) (K := 62) (n := 72) (by decide)) ?_
            refine c_iload rfl ?_
            refine c_iconst ?_
            refine c_ast (fun _ C l9 i9 => C.sn (k := 44) (K := 62) (n := 72) (by decide) i9 (ofN (by omega)).2) (fun p8 => ?_)
            refine c_goto ?_
            refine BC.blk c110_184 (fun m14 hm14 => ?_)
            have hl : ¬ (x_u2 (x_u2 F 8 0 0) 22 (24 * o + n) 1) 22 ((x_u2 (x_u2 F 8 0 0) 22 (24 * o + n) 1) 57 c).toNatClampNeg = 0 := by
              rw [show (x_u2 (x_u2 F 8 0 0) 22 (24 * o + n) 1) 57 c = F 57 c from rfl, (S.cr2 (c := 24 * o + n) (by omega) hc ec).2.2.2, (ofN (n := 24 * o + n) (by omega)).2]; exact g22
            refine c_ret ⟨?_, Or.inr ⟨none, (ol_0 S ho hn h22).1, rfl, rfl⟩, rfl, by exact hst.1, by show (F 8 2).toInt ≤ _; omega⟩
            rw [hE, vl_a S ho hn hc ec, vans, if_neg (show ¬ (vpi v 2 2 (24 * o + n + 1) 1).2.1 1 2 (c + 1) = 5 from fun z => d8 ((S.stg hc 4 (by omega)).mp z))]
            exact S2.unh hc hl
          · skip
            refine c_aload rfl ?_
            refine c_gfr (fun _ C _ => C.ar (k := 29) (K := 47) (n := 72) (by decide)) ?_
            refine c_iload rfl ?_
            refine c_iconst ?_
            refine c_ast (fun _ C l9 i9 => C.sn (k := 29) (K := 47) (n := 72) (by decide) i9 (ofN (by omega)).2) (fun p9 => ?_)
            refine c_aload rfl ?_
            refine c_gfr (fun _ C _ => C.ar (k := 43) (K := 61) (n := 72) (by decide)) ?_
            refine c_iload rfl ?_
            refine c_iconst ?_
            refine c_ast (fun _ C l9 i9 => C.sn (k := 43) (K := 61) (n := 72) (by decide) i9 (ofN (by omega)).2) (fun p10 => ?_)
            refine c_aload rfl ?_
            refine c_gfr (fun _ C _ => C.ar (k := 6) (K := 25) (n := 72) (by decide)) ?_
            refine c_iload rfl ?_
            refine c_aload rfl ?_
            refine c_gfr (fun _ C _ => C.ar (k := 6) (K := 25) (n := 72) (by decide)) ?_
            refine c_iload rfl ?_
            refine c_ald (fun _ C l9 i9 => C.an (k := 6) (K := 25) (n := 72) (by decide) i9 (ofN (by omega)).2) (fun p11 => ?_)
            refine c_aload rfl ?_
            refine c_gfr (fun _ C _ => C.ar (k := 12) (K := 31) (n := 36) (by decide)) ?_
            refine c_aload rfl ?_
            refine c_gfr (fun _ C _ => C.ar (k := 40) (K := 58) (n := 72) (by decide)) ?_
            refine c_iload rfl ?_
            refine c_ald (fun _ C l9 i9 => C.an (k := 40) (K := 58) (n := 72) (by decide) i9 (ofN (by omega)).2) (fun p12 => ?_)
            refine c_ald (fun _ C l9 i9 => C.an (k := 12) (K := 31) (n := 36) (by decide) i9 rfl) (fun p13 => ?_)
            refine c_bin rfl ?_
            refine c_ast (fun _ C l9 i9 => C.sn (k := 6) (K := 25) (n := 72) (by decide) i9 (ofN (by omega)).2) (fun p14 => ?_)
            refine c_goto ?_
            refine BC.blk c110_120 (fun m15 hm15 => ?_)
            refine c_aload rfl ?_
            refine c_gfr (fun _ C _ => C.ar (k := 44) (K := 62) (n := 72) (by decide)) ?_
            refine c_iload rfl ?_
            refine c_iconst ?_
            refine c_ast (fun _ C l9 i9 => C.sn (k := 44) (K := 62) (n := 72) (by decide) i9 (ofN (by omega)).2) (fun p15 => ?_)
            refine c_goto ?_
            refine BC.blk c110_184 (fun m16 hm16 => ?_)
            have hl : ¬ (x_u2 (x_u2 F 8 0 0) 22 (24 * o + n) 1) 22 ((x_u2 (x_u2 F 8 0 0) 22 (24 * o + n) 1) 57 c).toNatClampNeg = 0 := by
              rw [show (x_u2 (x_u2 F 8 0 0) 22 (24 * o + n) 1) 57 c = F 57 c from rfl, (S.cr2 (c := 24 * o + n) (by omega) hc ec).2.2.2, (ofN (n := 24 * o + n) (by omega)).2]; exact g22
            refine c_ret ⟨?_, Or.inr ⟨none, (ol_0 S ho hn h22).1, rfl, rfl⟩, rfl, by exact hst.1, by show (F 8 2).toInt ≤ _; omega⟩
            rw [hE, vl_a S ho hn hc ec]
            exact S2.ans hc d8 hl
      · skip
        exact absurd (show b2i (0 < (0 : Int32).toInt) = 0 from rfl) d3
    · skip
      exact absurd h22 d2
  · skip
    exact absurd (lnok_e ho hn) (b2i0.mp d1)
