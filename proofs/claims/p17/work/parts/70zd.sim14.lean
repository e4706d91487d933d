/-! HANGING UP, on both sides -/
section XHN
variable {D : Int} {v : vS} {F : xF} {o n c : Nat}
theorem oh_0 (S : Sim D v F) (ho : o < 3) (hn : n < 24) (h22 : ¬ F 22 (24 * o + n) = 0) : ohang v (Int32.ofNat o) (Int32.ofNat n) = ov ∧ vhang v (Int32.ofNat o) (Int32.ofNat n) = vhan v (Int32.ofNat o) (Int32.ofNat n) := by
  have e : ¬ v.1 2 2 (24 * o + n + 1) = 0 := fun z => h22 ((S.li (c := 24 * o + n) (by omega)).symm.trans z)
  unfold ohang vhang
  rw [if_pos (lnok_e ho hn), lno_e ho hn, if_neg e, if_pos ⟨lnok_e ho hn, e⟩]
  exact ⟨rfl, rfl⟩
theorem oh_2 (S : Sim D v F) (ho : o < 3) (hn : n < 24) (h22 : F 22 (24 * o + n) = 0) : ohang v (Int32.ofNat o) (Int32.ofNat n) = .inr 2 ∧ vhang v (Int32.ofNat o) (Int32.ofNat n) = v := by
  have e : v.1 2 2 (24 * o + n + 1) = 0 := (S.li (c := 24 * o + n) (by omega)).trans h22
  unfold ohang vhang
  rw [if_pos (lnok_e ho hn), lno_e ho hn, if_pos e, if_neg (fun z => z.2 e)]
  exact ⟨rfl, rfl⟩
theorem vh_a (S : Sim D v F) (ho : o < 3) (hn : n < 24) (h47 : F 47 (24 * o + n) = 0) (h28 : (F 28 (24 * o + n)).toInt < 0) : vhan v (Int32.ofNat o) (Int32.ofNat n) = vh0 (vrw v (30 * o + 1) (rdel (v.2.2.1 (30 * o + 1)) (Int32.ofNat n))) (24 * o + n + 1) := by
  have a1 := S.cr0 (c := 24 * o + n) (by omega) h47 h28
  unfold vhan
  rw [lno_e ho hn, a1, if_pos rfl, (ofN (n := o) (by omega)).2]
  rfl
theorem vh_b (S : Sim D v F) (ho : o < 3) (hn : n < 24) (hc : c < 72) (h28 : F 28 (24 * o + n) = Int32.ofNat c) : vhan v (Int32.ofNat o) (Int32.ofNat n) = vpi (vh0 v (24 * o + n + 1)) 1 14 (c + 1) 0 := by
  obtain ⟨a1, a2, -⟩ := S.cr2 (c := 24 * o + n) (by omega) hc h28
  unfold vhan
  rw [lno_e ho hn, a1, if_neg (by omega), if_pos a2]
theorem vh_c (S : Sim D v F) (ho : o < 3) (hn : n < 24) (h47 : ¬ F 47 (24 * o + n) = 0) (h : v.1 1 5 (24 * o + n + 1) = 0) : vhan v (Int32.ofNat o) (Int32.ofNat n) = vend (vh0 v (24 * o + n + 1)) (24 * o + n + 1) 3 := by
  have a1 := S.cr1 (c := 24 * o + n) (by omega) h47
  have a2 := S.cd1 (c := 24 * o + n) (by omega) h47
  unfold vhan
  rw [lno_e ho hn, a1, if_neg (by omega), if_neg a2, if_pos h]
theorem vh_d (S : Sim D v F) (ho : o < 3) (hn : n < 24) (h47 : ¬ F 47 (24 * o + n) = 0) (h : ¬ v.1 1 5 (24 * o + n + 1) = 0) : vhan v (Int32.ofNat o) (Int32.ofNat n) = vh0 v (24 * o + n + 1) := by
  have a1 := S.cr1 (c := 24 * o + n) (by omega) h47
  have a2 := S.cd1 (c := 24 * o + n) (by omega) h47
  unfold vhan
  rw [lno_e ho hn, a1, if_neg (by omega), if_neg a2, if_neg h]
theorem Sim.h24e (S : Sim D v F) (hc : c < 72) (h : ¬ F 47 c = 0 ∨ 0 ≤ (F 28 c).toInt) : F 24 c = -1 := by
  have p := (S.pl hc).2.2.2.2.2.2.2.1
  have : ¬ 0 ≤ (F 24 c).toInt := fun z => by
    rcases h with h | h
    · exact h (p.2 z).1
    · have := (p.2 z).2.1
      omega
  exact i32_eq.mpr (by show _ = (-1 : Int); omega)
theorem rover_k {F t : xF} {c K i : Nat} {x : Int32} (h : K ≠ 23 ∧ K ≠ 57) : rover F t c x K i = t K i := by
  have e : (if F 22 c = 0 then x_u2 t 57 c (-1) else x_u2 (x_u2 t 57 c (-1)) 23 c x) K i = t K i := by
    by_cases e : F 22 c = 0
    · rw [if_pos e, u2_ne h.2]
    · rw [if_neg e, u2_ne h.1, u2_ne h.2]
  unfold rover
  split
  · rw [u2_ne h.1]; exact e
  · exact e
end XHN
section XQY
variable {D : Int} {v : vS} {F : xF} {c l k : Nat}
theorem Sim.ncd (S : Sim D v F) (hl : l < 72) (h28 : (F 28 l).toInt < 0) : ¬ (¬ v.2.1 2 5 (l + 1) = 0 ∧ v.2.1 1 3 (v.2.1 2 5 (l + 1)) = l + 1) := by
  rintro ⟨a, b⟩
  by_cases h : F 47 l = 0
  · exact a (S.cr0 hl h h28)
  · rw [S.cr1 hl h] at b
    exact S.cd1 hl h b
theorem Sim.tlk (S : Sim D v F) (hc : c < 72) (h : F 47 c = 5) : v.2.1 1 2 (c + 1) = 6 ∧ v.1 2 2 (c + 1) = F 22 c ∧ v.2.1 1 3 (c + 1) = (F 57 c).toNatClampNeg + 1 ∧ v.1 2 2 (v.2.1 1 3 (c + 1)) = F 22 (F 57 c).toNatClampNeg ∧ F 57 c = Int32.ofNat (F 57 c).toNatClampNeg ∧ (F 57 c).toNatClampNeg < 72 := by
  have h0 := S.c57 hc h
  have e0 := x_clamp h0
  have a := (S.pl hc).2.2.2.1
  have e3 : v.2.1 1 3 (c + 1) = (F 57 c).toNatClampNeg + 1 := by omega
  refine ⟨(S.stg hc 5 (by omega)).mpr h, S.li hc, e3, ?_, i32_nat h0, by omega⟩
  rw [e3]
  exact S.li (by omega)
end XQY
theorem Sim.cne {D : Int} {v : vS} {F : xF} {c l : Nat} (S : Sim D v F) (hl : l < 72) (hc : c < 72) (h : F 28 l = Int32.ofNat c) : ¬ c = l := by
  intro z
  obtain ⟨-, -, k3, k4⟩ := S.cr2 hl hc h
  rw [z] at k4
  have := ((S.pl hl).2.2.2.2.2.2.1 k3).1
  rw [k4, (ofN (n := l) (by omega)).1] at this
  omega
theorem r111x {D : Int} {v : vS} {F : xF} {x y : Int32} (S : Sim D v F) (hx : ¬ lnok x y) : EC MR 111 [rf 8 1, .inl x, .inl y] F (fun o9 t => Sim D (vhang v x y) t ∧ AG (ohang v x y) o9 t ∧ t 8 1 = F 8 1 ∧ t 8 2 = F 8 2) := by
  refine EC.mk (fun n0 => ?_)
  show BC _ n0 111 0 [rf 8 1, .inl x, .inl y, rf 0 0] [] _ _
  refine BC.blk c111_0 (fun m1 hm1 => ?_)
  refine c_aload rfl ?_
  refine c_iload rfl ?_
  refine c_iload rfl ?_
  refine d_call mr_rs (e93) ?_
  refine c_if_ne (fun d1 => ?_) (fun d1 => ?_)
  · skip
    exact absurd (b2i1.mp d1) hx
  · skip
    refine c_iconst ?_
    refine c_goto ?_
    refine BC.blk c111_32 (fun m2 hm2 => ?_)
    refine d_callv mr_rs (e91) ?_
    refine c_if_eq (fun d2 => ?_) (fun d2 => ?_)
    · skip
      exact absurd d2 (by decide)
    · skip
      exact c_ret ⟨by rw [vhang, if_neg (fun z => hx z.1)]; exact S.f8 ⟨by decide, by decide⟩, Or.inl ⟨1, by rw [ohang, if_neg hx], rfl, by decide, by decide⟩, rfl, rfl⟩
theorem r111l {D : Int} {v : vS} {F : xF} {o n : Nat} (S : Sim D v F) (ho : o < 3) (hn : n < 24) (h22 : F 22 (24 * o + n) = 0) : EC MR 111 [rf 8 1, .inl (Int32.ofNat o), .inl (Int32.ofNat n)] F (fun o9 t => Sim D (vhang v (Int32.ofNat o) (Int32.ofNat n)) t ∧ AG (ohang v (Int32.ofNat o) (Int32.ofNat n)) o9 t ∧ t 8 1 = F 8 1 ∧ t 8 2 = F 8 2) := by
  refine EC.mk (fun n0 => ?_)
  show BC _ n0 111 0 [rf 8 1, .inl (Int32.ofNat o), .inl (Int32.ofNat n), rf 0 0] [] _ _
  refine BC.blk c111_0 (fun m1 hm1 => ?_)
  refine c_aload rfl ?_
  refine c_iload rfl ?_
  refine c_iload rfl ?_
  refine d_call mr_rs (e93) ?_
  refine c_if_ne (fun d1 => ?_) (fun d1 => ?_)
  · skip
    refine BC.blk c111_13 (fun m2 hm2 => ?_)
    refine c_aload rfl ?_
    refine c_gfr (fun _ C _ => C.ar (k := 3) (K := 22) (n := 72) (by decide)) ?_
    refine c_iconst ?_
    refine c_iload rfl ?_
    refine c_bin (ofN_mul (24) (o)) ?_
    refine c_iload rfl ?_
    refine c_bin (ofN_add ((24 * o)) (n)) ?_
    refine c_ald (fun _ C l9 i9 => C.an (k := 3) (K := 22) (n := 72) (by decide) i9 (ofN (by omega)).2) (fun p1 => ?_)
    refine c_if_ne (fun d2 => ?_) (fun d2 => ?_)
    · skip
      exact absurd h22 d2
    · skip
      refine c_iconst ?_
      refine c_goto ?_
      refine BC.blk c111_32 (fun m3 hm3 => ?_)
      refine d_callv mr_rs (e91) ?_
      refine c_if_eq (fun d3 => ?_) (fun d3 => ?_)
      · skip
        exact absurd d3 (by decide)
      · skip
        exact c_ret ⟨by rw [(oh_2 S ho hn h22).2]; exact S.f8 ⟨by decide, by decide⟩, Or.inl ⟨2, (oh_2 S ho hn h22).1, rfl, by decide, by decide⟩, rfl, rfl⟩
  · skip
    exact absurd (lnok_e ho hn) (b2i0.mp d1)
theorem r111o {D : Int} {v : vS} {F : xF} {o n : Nat} (S : Sim D v F) (ho : o < 3) (hn : n < 24) (h22 : ¬ F 22 (24 * o + n) = 0) : EC MR 111 [rf 8 1, .inl (Int32.ofNat o), .inl (Int32.ofNat n)] F (fun o9 t => Sim D (vhang v (Int32.ofNat o) (Int32.ofNat n)) t ∧ AG (ohang v (Int32.ofNat o) (Int32.ofNat n)) o9 t ∧ t 8 1 = F 8 1 ∧ t 8 2 = F 8 2) := by
  have S1 : Sim D v (x_u2 F 8 0 0) := S.f8 ⟨by decide, by decide⟩
  have hE := (oh_0 S ho hn h22).2
  have pl := S.pl (c := 24 * o + n) (by omega)
  refine EC.mk (fun n0 => ?_)
  show BC _ n0 111 0 [rf 8 1, .inl (Int32.ofNat o), .inl (Int32.ofNat n), rf 0 0] [] _ _
  refine BC.blk c111_0 (fun m1 hm1 => ?_)
  refine c_aload rfl ?_
  refine c_iload rfl ?_
  refine c_iload rfl ?_
  refine d_call mr_rs (e93) ?_
  refine c_if_ne (fun d1 => ?_) (fun d1 => ?_)
  · skip
    refine BC.blk c111_13 (fun m2 hm2 => ?_)
    refine c_aload rfl ?_
    refine c_gfr (fun _ C _ => C.ar (k := 3) (K := 22) (n := 72) (by decide)) ?_
    refine c_iconst ?_
    refine c_iload rfl ?_
    refine c_bin (ofN_mul (24) (o)) ?_
    refine c_iload rfl ?_
    refine c_bin (ofN_add ((24 * o)) (n)) ?_
    refine c_ald (fun _ C l9 i9 => C.an (k := 3) (K := 22) (n := 72) (by decide) i9 (ofN (by omega)).2) (fun p1 => ?_)
    refine c_if_ne (fun d2 => ?_) (fun d2 => ?_)
    · skip
      refine BC.blk c111_31 (fun m3 hm3 => ?_)
      refine c_iconst ?_
      refine c_goto ?_
      refine BC.blk c111_32 (fun m4 hm4 => ?_)
      refine d_callv mr_rs (e91) ?_
      refine c_if_eq (fun d3 => ?_) (fun d3 => ?_)
      · skip
        refine BC.blk c111_39 (fun m5 hm5 => ?_)
        refine c_iconst ?_
        refine c_iload rfl ?_
        refine c_bin (ofN_mul (24) (o)) ?_
        refine c_iload rfl ?_
        refine c_bin (ofN_add ((24 * o)) (n)) ?_
        refine c_istore rfl ?_
        refine c_aload rfl ?_
        refine c_gfr (fun _ C _ => C.ar (k := 3) (K := 22) (n := 72) (by decide)) ?_
        refine c_iload rfl ?_
        refine c_iconst ?_
        refine c_zst (fun _ C l9 i9 => C.sn (k := 3) (K := 22) (n := 72) (by decide) i9 (ofN (by omega)).2) (fun p2 => ?_)
        refine c_aload rfl ?_
        refine c_gfr (fun _ C _ => C.ar (k := 4) (K := 23) (n := 72) (by decide)) ?_
        refine c_iload rfl ?_
        refine c_iconst ?_
        refine c_ast (fun _ C l9 i9 => C.sn (k := 4) (K := 23) (n := 72) (by decide) i9 (ofN (by omega)).2) (fun p3 => ?_)
        refine c_aload rfl ?_
        refine c_gfr (fun _ C _ => C.ar (k := 5) (K := 24) (n := 72) (by decide)) ?_
        refine c_iload rfl ?_
        refine c_iconst ?_
        refine c_ast (fun _ C l9 i9 => C.sn (k := 5) (K := 24) (n := 72) (by decide) i9 (ofN (by omega)).2) (fun p4 => ?_)
        refine c_aload rfl ?_
        refine c_gfr (fun _ C _ => C.ar (k := 29) (K := 47) (n := 72) (by decide)) ?_
        refine c_iload rfl ?_
        refine c_ald (fun _ C l9 i9 => (fun z => ⟨z.1, z.2.trans (show _ = F 47 (24 * o + n) from rfl)⟩) (C.an (k := 29) (K := 47) (n := 72) (by decide) i9 (ofN (by omega)).2)) (fun p5 => ?_)
        refine c_if_eq (fun d4 => ?_) (fun d4 => ?_)
        · skip
          refine BC.blk c111_104 (fun m6 hm6 => ?_)
          refine c_aload rfl ?_
          refine c_gfr (fun _ C _ => C.ar (k := 9) (K := 28) (n := 72) (by decide)) ?_
          refine c_iload rfl ?_
          refine c_ald (fun _ C l9 i9 => (fun z => ⟨z.1, z.2.trans (show _ = F 28 (24 * o + n) from rfl)⟩) (C.an (k := 9) (K := 28) (n := 72) (by decide) i9 (ofN (by omega)).2)) (fun p6 => ?_)
          refine c_if_lt (fun d5 => ?_) (fun d5 => ?_)
          · skip
            refine BC.blk c111_125 (fun m7 hm7 => ?_)
            have SW := (S1.wdel ho hn).hng0 (c := 24 * o + n) (by omega) (by rw [u2_eq]; decide) (Or.inl d4) d5
            refine c_ret ⟨?_, Or.inr ⟨none, (oh_0 S ho hn h22).1, rfl, rfl⟩, rfl, rfl⟩
            rw [hE, vh_a S ho hn d4 d5, u2_comm (K := 23) (K' := 24) (by decide), u2_comm (K := 22) (K' := 24) (by decide)]
            exact SW
          · skip
            obtain ⟨c, hc, ec⟩ := S.b28 (c := 24 * o + n) (by omega) (Int.not_lt.mp d5)
            refine c_aload rfl ?_
            refine c_gfr (fun _ C _ => C.ar (k := 44) (K := 62) (n := 72) (by decide)) ?_
            refine c_aload rfl ?_
            refine c_gfr (fun _ C _ => C.ar (k := 9) (K := 28) (n := 72) (by decide)) ?_
            refine c_iload rfl ?_
            refine c_ald (fun _ C l9 i9 => (fun z => ⟨z.1, z.2.trans ec⟩) (C.an (k := 9) (K := 28) (n := 72) (by decide) i9 (ofN (by omega)).2)) (fun p7 => ?_)
            refine c_iconst ?_
            refine c_ast (fun _ C l9 i9 => C.sn (k := 44) (K := 62) (n := 72) (by decide) i9 (ofN (by omega)).2) (fun p8 => ?_)
            refine c_goto ?_
            refine BC.blk c111_125 (fun m8 hm8 => ?_)
            have h24 := S.h24e (c := 24 * o + n) (by omega) (Or.inr (Int.not_lt.mp d5))
            rw [u2_self (F := x_u2 (x_u2 (x_u2 F 8 0 0) 22 (24 * o + n) 0) 23 (24 * o + n) 0) (K := 24) (i := 24 * o + n) h24]
            refine c_ret ⟨?_, Or.inr ⟨none, (oh_0 S ho hn h22).1, rfl, rfl⟩, rfl, rfl⟩
            rw [hE, vh_b S ho hn hc ec]
            exact S1.hng1 (by omega) hc ec
        · skip
          refine c_aload rfl ?_
          refine c_gfr (fun _ C _ => C.ar (k := 29) (K := 47) (n := 72) (by decide)) ?_
          refine c_iload rfl ?_
          refine c_ald (fun _ C l9 i9 => (fun z => ⟨z.1, z.2.trans (show _ = F 47 (24 * o + n) from rfl)⟩) (C.an (k := 29) (K := 47) (n := 72) (by decide) i9 (ofN (by omega)).2)) (fun p9 => ?_)
          refine c_iconst ?_
          refine c_icmp_ne (fun d6 => ?_) (fun d6 => ?_)
          · skip
            refine BC.blk c111_95 (fun m9 hm9 => ?_)
            refine c_aload rfl ?_
            refine c_iload rfl ?_
            refine c_iconst ?_
            refine c_callv mr_rs (e106 (F := x_u2 (x_u2 (x_u2 (x_u2 F 8 0 0) 22 (24 * o + n) 0) 23 (24 * o + n) 0) 24 (24 * o + n) (-1)) (c := 24 * o + n) (by omega) (S1.1.hlv (by omega)) (S1.1.h16 (by omega)) S1.1.hjv) (fun w t1 p => ?_) (fun k t1 p => by cases p.1)
            obtain ⟨e9, ⟨t2, hen, rfl⟩⟩ := p
            cases e9
            refine c_goto ?_
            refine BC.blk c111_125 (fun m10 hm10 => ?_)
            have h24 := S.h24e (c := 24 * o + n) (by omega) (Or.inl d4)
            rw [u2_self (F := x_u2 (x_u2 (x_u2 F 8 0 0) 22 (24 * o + n) 0) 23 (24 * o + n) 0) (K := 24) (i := 24 * o + n) h24] at hen ⊢
            have h5 : v.1 1 5 (24 * o + n + 1) = 0 := by rw [pl.2.2.2.2.1]; exact if_neg d6
            refine c_ret ⟨?_, Or.inr ⟨none, (oh_0 S ho hn h22).1, (by rw [rover_k ⟨by decide, by decide⟩, hen.k (by omega)]; rfl), rfl⟩, by rw [rover_k ⟨by decide, by decide⟩, hen.k (by omega)]; rfl, by rw [rover_k ⟨by decide, by decide⟩, hen.k (by omega)]; rfl⟩
            rw [hE, vh_c S ho hn d4 h5]
            exact S1.hng2 (by omega) d4 hen
          · skip
            refine c_aload rfl ?_
            refine c_gfr (fun _ C _ => C.ar (k := 42) (K := 60) (n := 72) (by decide)) ?_
            refine c_iload rfl ?_
            refine c_ald (fun _ C l9 i9 => (fun z => ⟨z.1, z.2.trans (show _ = F 60 (24 * o + n) from rfl)⟩) (C.an (k := 42) (K := 60) (n := 72) (by decide) i9 (ofN (by omega)).2)) (fun p10 => ?_)
            refine c_if_ne (fun d7 => ?_) (fun d7 => ?_)
            · skip
              refine BC.blk c111_125 (fun m11 hm11 => ?_)
              have h24 := S.h24e (c := 24 * o + n) (by omega) (Or.inl d4)
              rw [u2_self (F := x_u2 (x_u2 (x_u2 F 8 0 0) 22 (24 * o + n) 0) 23 (24 * o + n) 0) (K := 24) (i := 24 * o + n) h24]
              have h5 : ¬ v.1 1 5 (24 * o + n + 1) = 0 := by rw [pl.2.2.2.2.1, if_pos d6]; exact d7
              refine c_ret ⟨?_, Or.inr ⟨none, (oh_0 S ho hn h22).1, rfl, rfl⟩, rfl, rfl⟩
              rw [hE, vh_d S ho hn d4 h5]
              exact S1.hng0 (by omega) (by show (F 24 (24 * o + n)).toInt < 0; rw [h24]; decide) (Or.inr d6) (Int.not_le.mp (fun z => d4 (pl.2.2.2.2.2.2.2.2.2.1 z)))
            · skip
              refine c_goto ?_
              refine BC.blk c111_95 (fun m12 hm12 => ?_)
              refine c_aload rfl ?_
              refine c_iload rfl ?_
              refine c_iconst ?_
              refine c_callv mr_rs (e106 (F := x_u2 (x_u2 (x_u2 (x_u2 F 8 0 0) 22 (24 * o + n) 0) 23 (24 * o + n) 0) 24 (24 * o + n) (-1)) (c := 24 * o + n) (by omega) (S1.1.hlv (by omega)) (S1.1.h16 (by omega)) S1.1.hjv) (fun w t1 p => ?_) (fun k t1 p => by cases p.1)
              obtain ⟨e9, ⟨t2, hen, rfl⟩⟩ := p
              cases e9
              refine c_goto ?_
              refine BC.blk c111_125 (fun m13 hm13 => ?_)
              have h24 := S.h24e (c := 24 * o + n) (by omega) (Or.inl d4)
              rw [u2_self (F := x_u2 (x_u2 (x_u2 F 8 0 0) 22 (24 * o + n) 0) 23 (24 * o + n) 0) (K := 24) (i := 24 * o + n) h24] at hen ⊢
              have h5 : v.1 1 5 (24 * o + n + 1) = 0 := by rw [pl.2.2.2.2.1]; rw [if_pos d6]; exact d7
              refine c_ret ⟨?_, Or.inr ⟨none, (oh_0 S ho hn h22).1, (by rw [rover_k ⟨by decide, by decide⟩, hen.k (by omega)]; rfl), rfl⟩, by rw [rover_k ⟨by decide, by decide⟩, hen.k (by omega)]; rfl, by rw [rover_k ⟨by decide, by decide⟩, hen.k (by omega)]; rfl⟩
              rw [hE, vh_c S ho hn d4 h5]
              exact S1.hng2 (by omega) d4 hen
      · skip
        exact absurd (show b2i (0 < (0 : Int32).toInt) = 0 from rfl) d3
    · skip
      exact absurd d2 h22
  · skip
    exact absurd (lnok_e ho hn) (b2i0.mp d1)
theorem r132x {D : Int} {v : vS} {F : xF} {x y : Int32} (S : Sim D v F) (hx : ¬ lnok x y) : EC MR 132 [rf 8 1, .inl x, .inl y] F (fun o9 t => Sim D (v) t ∧ AG (otone v x y) o9 t ∧ t 8 1 = F 8 1 ∧ t 8 2 = F 8 2) := by
  refine EC.mk (fun n0 => ?_)
  show BC _ n0 132 0 [rf 8 1, .inl x, .inl y, rf 0 0] [] _ _
  refine BC.blk c132_0 (fun m1 hm1 => ?_)
  refine c_aload rfl ?_
  refine c_iload rfl ?_
  refine c_iload rfl ?_
  refine d_call mr_rs (e93) ?_
  refine c_if_eq (fun d1 => ?_) (fun d1 => ?_)
  · skip
    refine BC.blk c132_13 (fun m2 hm2 => ?_)
    refine c_iconst ?_
    refine c_goto ?_
    refine BC.blk c132_14 (fun m3 hm3 => ?_)
    refine d_callv mr_rs (e91) ?_
    refine c_if_eq (fun d2 => ?_) (fun d2 => ?_)
    · skip
      exact absurd d2 (by decide)
    · skip
      refine c_iconst ?_
      exact c_iret ⟨S.f8 ⟨by decide, by decide⟩, Or.inl ⟨1, by rw [otone, if_neg hx], rfl, by decide, by decide⟩, rfl, rfl⟩
  · skip
    exact absurd (b2i1.mp d1) hx
theorem r132o {D : Int} {v : vS} {F : xF} {o n : Nat} (S : Sim D v F) (ho : o < 3) (hn : n < 24) : EC MR 132 [rf 8 1, .inl (Int32.ofNat o), .inl (Int32.ofNat n)] F (fun o9 t => Sim D (v) t ∧ AG (otone v (Int32.ofNat o) (Int32.ofNat n)) o9 t ∧ t 8 1 = F 8 1 ∧ t 8 2 = F 8 2) := by
  have S1 : Sim D v (x_u2 F 8 0 0) := S.f8 ⟨by decide, by decide⟩
  have pl := S.pl (c := 24 * o + n) (by omega)
  refine EC.mk (fun n0 => ?_)
  show BC _ n0 132 0 [rf 8 1, .inl (Int32.ofNat o), .inl (Int32.ofNat n), rf 0 0] [] _ _
  refine BC.blk c132_0 (fun m1 hm1 => ?_)
  refine c_aload rfl ?_
  refine c_iload rfl ?_
  refine c_iload rfl ?_
  refine d_call mr_rs (e93) ?_
  refine c_if_eq (fun d1 => ?_) (fun d1 => ?_)
  · skip
    exact absurd (lnok_e ho hn) (b2i0.mp d1)
  · skip
    refine c_iconst ?_
    refine c_goto ?_
    refine BC.blk c132_14 (fun m2 hm2 => ?_)
    refine d_callv mr_rs (e91) ?_
    refine c_if_eq (fun d2 => ?_) (fun d2 => ?_)
    · skip
      refine BC.blk c132_22 (fun m3 hm3 => ?_)
      refine c_iconst ?_
      refine c_iload rfl ?_
      refine c_bin (ofN_mul (24) (o)) ?_
      refine c_iload rfl ?_
      refine c_bin (ofN_add ((24 * o)) (n)) ?_
      refine c_istore rfl ?_
      refine c_aload rfl ?_
      refine c_gfr (fun _ C _ => C.ar (k := 29) (K := 47) (n := 72) (by decide)) ?_
      refine c_iload rfl ?_
      refine c_ald (fun _ C l9 i9 => (fun z => ⟨z.1, z.2.trans (show _ = F 47 (24 * o + n) from rfl)⟩) (C.an (k := 29) (K := 47) (n := 72) (by decide) i9 (ofN (by omega)).2)) (fun p1 => ?_)
      refine c_iconst ?_
      refine c_icmp_ne (fun d3 => ?_) (fun d3 => ?_)
      · skip
        refine BC.blk c132_52 (fun m4 hm4 => ?_)
        refine c_aload rfl ?_
        refine c_gfr (fun _ C _ => C.ar (k := 29) (K := 47) (n := 72) (by decide)) ?_
        refine c_iload rfl ?_
        refine c_ald (fun _ C l9 i9 => (fun z => ⟨z.1, z.2.trans (show _ = F 47 (24 * o + n) from rfl)⟩) (C.an (k := 29) (K := 47) (n := 72) (by decide) i9 (ofN (by omega)).2)) (fun p2 => ?_)
        refine c_iconst ?_
        refine c_icmp_ne (fun d4 => ?_) (fun d4 => ?_)
        · skip
          refine BC.blk c132_66 (fun m5 hm5 => ?_)
          refine c_aload rfl ?_
          refine c_gfr (fun _ C _ => C.ar (k := 4) (K := 23) (n := 72) (by decide)) ?_
          refine c_iload rfl ?_
          refine c_ald (fun _ C l9 i9 => (fun z => ⟨z.1, z.2.trans (show _ = F 23 (24 * o + n) from rfl)⟩) (C.an (k := 4) (K := 23) (n := 72) (by decide) i9 (ofN (by omega)).2)) (fun p3 => ?_)
          refine c_goto ?_
          refine BC.blk c132_72 (fun m6 hm6 => ?_)
          exact c_iret ⟨S1, Or.inr ⟨_, by rw [otone, if_pos (lnok_e ho hn), lno_e ho hn, pl.2.1.2.2, tnF, if_neg (fun z => d3 z.1), if_neg d4]; first | done | rfl, rfl, rfl⟩, rfl, rfl⟩
        · skip
          refine c_iconst ?_
          refine c_goto ?_
          refine BC.blk c132_72 (fun m7 hm7 => ?_)
          exact c_iret ⟨S1, Or.inr ⟨_, by rw [otone, if_pos (lnok_e ho hn), lno_e ho hn, pl.2.1.2.2, tnF, if_neg (fun z => d3 z.1), if_pos d4]; first | done | rfl, rfl, rfl⟩, rfl, rfl⟩
      · skip
        refine c_aload rfl ?_
        refine c_gfr (fun _ C _ => C.ar (k := 30) (K := 48) (n := 72) (by decide)) ?_
        refine c_iload rfl ?_
        refine c_ald (fun _ C l9 i9 => (fun z => ⟨z.1, z.2.trans (show _ = F 48 (24 * o + n) from rfl)⟩) (C.an (k := 30) (K := 48) (n := 72) (by decide) i9 (ofN (by omega)).2)) (fun p4 => ?_)
        refine c_if_ne (fun d5 => ?_) (fun d5 => ?_)
        · skip
          refine BC.blk c132_52 (fun m8 hm8 => ?_)
          refine c_aload rfl ?_
          refine c_gfr (fun _ C _ => C.ar (k := 29) (K := 47) (n := 72) (by decide)) ?_
          refine c_iload rfl ?_
          refine c_ald (fun _ C l9 i9 => (fun z => ⟨z.1, z.2.trans (show _ = F 47 (24 * o + n) from rfl)⟩) (C.an (k := 29) (K := 47) (n := 72) (by decide) i9 (ofN (by omega)).2)) (fun p5 => ?_)
          refine c_iconst ?_
          refine c_icmp_ne (fun d6 => ?_) (fun d6 => ?_)
          · skip
            refine BC.blk c132_66 (fun m9 hm9 => ?_)
            refine c_aload rfl ?_
            refine c_gfr (fun _ C _ => C.ar (k := 4) (K := 23) (n := 72) (by decide)) ?_
            refine c_iload rfl ?_
            refine c_ald (fun _ C l9 i9 => (fun z => ⟨z.1, z.2.trans (show _ = F 23 (24 * o + n) from rfl)⟩) (C.an (k := 4) (K := 23) (n := 72) (by decide) i9 (ofN (by omega)).2)) (fun p6 => ?_)
            refine c_goto ?_
            refine BC.blk c132_72 (fun m10 hm10 => ?_)
            exact c_iret ⟨S1, Or.inr ⟨_, by rw [otone, if_pos (lnok_e ho hn), lno_e ho hn, pl.2.1.2.2, tnF, if_neg (fun z => d5 z.2), if_neg d6]; first | done | rfl, rfl, rfl⟩, rfl, rfl⟩
          · skip
            refine c_iconst ?_
            refine c_goto ?_
            refine BC.blk c132_72 (fun m11 hm11 => ?_)
            exact absurd (d3.symm.trans d6) (by decide)
        · skip
          refine c_iconst ?_
          refine c_goto ?_
          refine BC.blk c132_72 (fun m12 hm12 => ?_)
          exact c_iret ⟨S1, Or.inr ⟨_, by rw [otone, if_pos (lnok_e ho hn), lno_e ho hn, pl.2.1.2.2, tnF, if_pos ⟨d3, d5⟩]; first | done | rfl, rfl, rfl⟩, rfl, rfl⟩
    · skip
      exact absurd (show b2i (0 < (0 : Int32).toInt) = 0 from rfl) d2
theorem r133x {D : Int} {v : vS} {F : xF} {x y : Int32} (S : Sim D v F) (hx : ¬ lnok x y) : EC MR 133 [rf 8 1, .inl x, .inl y] F (fun o9 t => Sim D (v) t ∧ AG (orings v x y) o9 t ∧ t 8 1 = F 8 1 ∧ t 8 2 = F 8 2) := by
  refine EC.mk (fun n0 => ?_)
  show BC _ n0 133 0 [rf 8 1, .inl x, .inl y, rf 0 0] [] _ _
  refine BC.blk c133_0 (fun m1 hm1 => ?_)
  refine c_aload rfl ?_
  refine c_iload rfl ?_
  refine c_iload rfl ?_
  refine d_call mr_rs (e93) ?_
  refine c_if_eq (fun d1 => ?_) (fun d1 => ?_)
  · skip
    refine BC.blk c133_13 (fun m2 hm2 => ?_)
    refine c_iconst ?_
    refine c_goto ?_
    refine BC.blk c133_14 (fun m3 hm3 => ?_)
    refine d_callv mr_rs (e91) ?_
    refine c_if_eq (fun d2 => ?_) (fun d2 => ?_)
    · skip
      exact absurd d2 (by decide)
    · skip
      refine c_iconst ?_
      exact c_zret ⟨S.f8 ⟨by decide, by decide⟩, Or.inl ⟨1, by rw [orings, if_neg hx], rfl, by decide, by decide⟩, rfl, rfl⟩
  · skip
    exact absurd (b2i1.mp d1) hx
theorem r133o {D : Int} {v : vS} {F : xF} {o n : Nat} (S : Sim D v F) (ho : o < 3) (hn : n < 24) : EC MR 133 [rf 8 1, .inl (Int32.ofNat o), .inl (Int32.ofNat n)] F (fun o9 t => Sim D (v) t ∧ AG (orings v (Int32.ofNat o) (Int32.ofNat n)) o9 t ∧ t 8 1 = F 8 1 ∧ t 8 2 = F 8 2) := by
  have S1 : Sim D v (x_u2 F 8 0 0) := S.f8 ⟨by decide, by decide⟩
  have pl := S.pl (c := 24 * o + n) (by omega)
  refine EC.mk (fun n0 => ?_)
  show BC _ n0 133 0 [rf 8 1, .inl (Int32.ofNat o), .inl (Int32.ofNat n), rf 0 0] [] _ _
  refine BC.blk c133_0 (fun m1 hm1 => ?_)
  refine c_aload rfl ?_
  refine c_iload rfl ?_
  refine c_iload rfl ?_
  refine d_call mr_rs (e93) ?_
  refine c_if_eq (fun d1 => ?_) (fun d1 => ?_)
  · skip
    exact absurd (lnok_e ho hn) (b2i0.mp d1)
  · skip
    refine c_iconst ?_
    refine c_goto ?_
    refine BC.blk c133_14 (fun m2 hm2 => ?_)
    refine d_callv mr_rs (e91) ?_
    refine c_if_eq (fun d2 => ?_) (fun d2 => ?_)
    · skip
      refine BC.blk c133_22 (fun m3 hm3 => ?_)
      refine c_aload rfl ?_
      refine c_gfr (fun _ C _ => C.ar (k := 9) (K := 28) (n := 72) (by decide)) ?_
      refine c_iconst ?_
      refine c_iload rfl ?_
      refine c_bin (ofN_mul (24) (o)) ?_
      refine c_iload rfl ?_
      refine c_bin (ofN_add ((24 * o)) (n)) ?_
      refine c_ald (fun _ C l9 i9 => (fun z => ⟨z.1, z.2.trans (show _ = F 28 (24 * o + n) from rfl)⟩) (C.an (k := 9) (K := 28) (n := 72) (by decide) i9 (ofN (by omega)).2)) (fun p1 => ?_)
      refine c_istore rfl ?_
      refine c_iload rfl ?_
      refine c_if_lt (fun d3 => ?_) (fun d3 => ?_)
      · skip
        refine BC.blk c133_52 (fun m4 hm4 => ?_)
        refine c_iconst ?_
        refine c_goto ?_
        refine BC.blk c133_53 (fun m5 hm5 => ?_)
        exact c_zret ⟨S1, Or.inr ⟨_, by rw [orings, if_pos (lnok_e ho hn), lno_e ho hn, b2i_neg (fun z => S.ncd (l := 24 * o + n) (by omega) d3 ⟨z.1, z.2.1⟩)]; first | done | rfl, rfl, rfl⟩, rfl, rfl⟩
      · skip
        obtain ⟨c, hc, ec⟩ := S.b28 (c := 24 * o + n) (by omega) (Int.not_lt.mp d3)
        obtain ⟨k1, k2, k3, k4⟩ := S.cr2 (c := 24 * o + n) (by omega) hc ec
        rw [ec]
        refine c_aload rfl ?_
        refine c_gfr (fun _ C _ => C.ar (k := 29) (K := 47) (n := 72) (by decide)) ?_
        refine c_iload rfl ?_
        refine c_ald (fun _ C l9 i9 => (fun z => ⟨z.1, z.2.trans (show _ = F 47 c from rfl)⟩) (C.an (k := 29) (K := 47) (n := 72) (by decide) i9 (ofN (by omega)).2)) (fun p2 => ?_)
        refine c_iconst ?_
        refine c_icmp_ne (fun d4 => ?_) (fun d4 => ?_)
        · skip
          refine BC.blk c133_52 (fun m6 hm6 => ?_)
          refine c_iconst ?_
          refine c_goto ?_
          refine BC.blk c133_53 (fun m7 hm7 => ?_)
          exact c_zret ⟨S1, Or.inr ⟨_, by rw [orings, if_pos (lnok_e ho hn), lno_e ho hn, k1, b2i_neg (fun z => d4 ((S.stg hc 4 (by omega)).mp z.2.2))]; first | done | rfl, rfl, rfl⟩, rfl, rfl⟩
        · skip
          refine c_iconst ?_
          refine c_goto ?_
          refine BC.blk c133_53 (fun m8 hm8 => ?_)
          exact c_zret ⟨S1, Or.inr ⟨_, by rw [orings, if_pos (lnok_e ho hn), lno_e ho hn, k1, b2i_pos ⟨by omega, k2, (S.stg hc 4 (by omega)).mpr d4⟩]; first | done | rfl, rfl, rfl⟩, rfl, rfl⟩
    · skip
      exact absurd (show b2i (0 < (0 : Int32).toInt) = 0 from rfl) d2
theorem r135x {D : Int} {v : vS} {F : xF} {x y : Int32} (S : Sim D v F) (hx : ¬ lnok x y) : EC MR 135 [rf 8 1, .inl x, .inl y] F (fun o9 t => Sim D (v) t ∧ AG (ometer v x y) o9 t ∧ t 8 1 = F 8 1 ∧ t 8 2 = F 8 2) := by
  refine EC.mk (fun n0 => ?_)
  show BC _ n0 135 0 [rf 8 1, .inl x, .inl y] [] _ _
  refine BC.blk c135_0 (fun m1 hm1 => ?_)
  refine c_aload rfl ?_
  refine c_iload rfl ?_
  refine c_iload rfl ?_
  refine d_call mr_rs (e93) ?_
  refine c_if_eq (fun d1 => ?_) (fun d1 => ?_)
  · skip
    refine BC.blk c135_13 (fun m2 hm2 => ?_)
    refine c_iconst ?_
    refine c_goto ?_
    refine BC.blk c135_14 (fun m3 hm3 => ?_)
    refine d_callv mr_rs (e91) ?_
    refine c_if_eq (fun d2 => ?_) (fun d2 => ?_)
    · skip
      exact absurd d2 (by decide)
    · skip
      refine c_iconst ?_
      refine c_goto ?_
      refine BC.blk c135_35 (fun m4 hm4 => ?_)
      exact c_iret ⟨S.f8 ⟨by decide, by decide⟩, Or.inl ⟨1, by rw [ometer, if_neg hx], rfl, by decide, by decide⟩, rfl, rfl⟩
  · skip
    exact absurd (b2i1.mp d1) hx
theorem r135o {D : Int} {v : vS} {F : xF} {o n : Nat} (S : Sim D v F) (ho : o < 3) (hn : n < 24) : EC MR 135 [rf 8 1, .inl (Int32.ofNat o), .inl (Int32.ofNat n)] F (fun o9 t => Sim D (v) t ∧ AG (ometer v (Int32.ofNat o) (Int32.ofNat n)) o9 t ∧ t 8 1 = F 8 1 ∧ t 8 2 = F 8 2) := by
  have S1 : Sim D v (x_u2 F 8 0 0) := S.f8 ⟨by decide, by decide⟩
  have pl := S.pl (c := 24 * o + n) (by omega)
  refine EC.mk (fun n0 => ?_)
  show BC _ n0 135 0 [rf 8 1, .inl (Int32.ofNat o), .inl (Int32.ofNat n)] [] _ _
  refine BC.blk c135_0 (fun m1 hm1 => ?_)
  refine c_aload rfl ?_
  refine c_iload rfl ?_
  refine c_iload rfl ?_
  refine d_call mr_rs (e93) ?_
  refine c_if_eq (fun d1 => ?_) (fun d1 => ?_)
  · skip
    exact absurd (lnok_e ho hn) (b2i0.mp d1)
  · skip
    refine c_iconst ?_
    refine c_goto ?_
    refine BC.blk c135_14 (fun m2 hm2 => ?_)
    refine d_callv mr_rs (e91) ?_
    refine c_if_eq (fun d2 => ?_) (fun d2 => ?_)
    · skip
      refine BC.blk c135_24 (fun m3 hm3 => ?_)
      refine c_aload rfl ?_
      refine c_gfr (fun _ C _ => C.ar (k := 6) (K := 25) (n := 72) (by decide)) ?_
      refine c_iconst ?_
      refine c_iload rfl ?_
      refine c_bin (ofN_mul (24) (o)) ?_
      refine c_iload rfl ?_
      refine c_bin (ofN_add ((24 * o)) (n)) ?_
      refine c_ald (fun _ C l9 i9 => C.an (k := 6) (K := 25) (n := 72) (by decide) i9 (ofN (by omega)).2) (fun p1 => ?_)
      refine c_goto ?_
      refine BC.blk c135_35 (fun m4 hm4 => ?_)
      exact c_iret ⟨S1, Or.inr ⟨_, by rw [ometer, if_pos (lnok_e ho hn), lno_e ho hn, pl.2.1.2.1]; rfl, rfl, rfl⟩, rfl, rfl⟩
    · skip
      exact absurd (show b2i (0 < (0 : Int32).toInt) = 0 from rfl) d2
theorem r131x {D : Int} {v : vS} {F : xF} {x y b : Int32} (S : Sim D v F) (hx : ¬ lnok x y) : EC MR 131 [rf 8 1, .inl x, .inl y, .inl b] F (fun o9 t => Sim D (vhold v x y b) t ∧ AG (ohold v x y) o9 t ∧ t 8 1 = F 8 1 ∧ t 8 2 = F 8 2) := by
  refine EC.mk (fun n0 => ?_)
  show BC _ n0 131 0 [rf 8 1, .inl x, .inl y, .inl b, rf 0 0] [] _ _
  refine BC.blk c131_0 (fun m1 hm1 => ?_)
  refine c_aload rfl ?_
  refine c_iload rfl ?_
  refine c_iload rfl ?_
  refine d_call mr_rs (e93) ?_
  refine c_if_eq (fun d1 => ?_) (fun d1 => ?_)
  · skip
    refine BC.blk c131_13 (fun m2 hm2 => ?_)
    refine c_iconst ?_
    refine c_goto ?_
    refine BC.blk c131_14 (fun m3 hm3 => ?_)
    refine d_callv mr_rs (e91) ?_
    refine c_if_eq (fun d2 => ?_) (fun d2 => ?_)
    · skip
      exact absurd d2 (by decide)
    · skip
      refine c_iconst ?_
      exact c_zret ⟨by rw [vhold, if_neg (fun z => hx z.1)]; exact S.f8 ⟨by decide, by decide⟩, Or.inl ⟨1, by rw [ohold, if_neg hx], rfl, by decide, by decide⟩, rfl, rfl⟩
  · skip
    exact absurd (b2i1.mp d1) hx
theorem r131o {D : Int} {v : vS} {F : xF} {o n : Nat} (S : Sim D v F) (ho : o < 3) (hn : n < 24) {b : Int32} : EC MR 131 [rf 8 1, .inl (Int32.ofNat o), .inl (Int32.ofNat n), .inl b] F (fun o9 t => Sim D (vhold v (Int32.ofNat o) (Int32.ofNat n) b) t ∧ AG (ohold v (Int32.ofNat o) (Int32.ofNat n)) o9 t ∧ t 8 1 = F 8 1 ∧ t 8 2 = F 8 2) := by
  have S1 : Sim D v (x_u2 F 8 0 0) := S.f8 ⟨by decide, by decide⟩
  have pl := S.pl (c := 24 * o + n) (by omega)
  refine EC.mk (fun n0 => ?_)
  show BC _ n0 131 0 [rf 8 1, .inl (Int32.ofNat o), .inl (Int32.ofNat n), .inl b, rf 0 0] [] _ _
  refine BC.blk c131_0 (fun m1 hm1 => ?_)
  refine c_aload rfl ?_
  refine c_iload rfl ?_
  refine c_iload rfl ?_
  refine d_call mr_rs (e93) ?_
  refine c_if_eq (fun d1 => ?_) (fun d1 => ?_)
  · skip
    exact absurd (lnok_e ho hn) (b2i0.mp d1)
  · skip
    refine c_iconst ?_
    refine c_goto ?_
    refine BC.blk c131_14 (fun m2 hm2 => ?_)
    refine d_callv mr_rs (e91) ?_
    refine c_if_eq (fun d2 => ?_) (fun d2 => ?_)
    · skip
      refine BC.blk c131_22 (fun m3 hm3 => ?_)
      refine c_aload rfl ?_
      refine c_gfr (fun _ C _ => C.ar (k := 9) (K := 28) (n := 72) (by decide)) ?_
      refine c_iconst ?_
      refine c_iload rfl ?_
      refine c_bin (ofN_mul (24) (o)) ?_
      refine c_iload rfl ?_
      refine c_bin (ofN_add ((24 * o)) (n)) ?_
      refine c_ald (fun _ C l9 i9 => (fun z => ⟨z.1, z.2.trans (show _ = F 28 (24 * o + n) from rfl)⟩) (C.an (k := 9) (K := 28) (n := 72) (by decide) i9 (ofN (by omega)).2)) (fun p1 => ?_)
      refine c_istore rfl ?_
      refine c_iload rfl ?_
      refine c_if_lt (fun d3 => ?_) (fun d3 => ?_)
      · skip
        refine BC.blk c131_51 (fun m4 hm4 => ?_)
        refine c_iconst ?_
        exact c_zret ⟨by rw [vhold, if_neg (fun z => by rw [lno_e ho hn] at z; exact S.ncd (l := 24 * o + n) (by omega) d3 ⟨z.2.1, z.2.2.1⟩)]; exact S1, Or.inr ⟨_, by rw [ohold, if_pos (lnok_e ho hn), lno_e ho hn, b2i_neg (fun z => S.ncd (l := 24 * o + n) (by omega) d3 ⟨z.1, z.2.1⟩)]; first | done | rfl, rfl, rfl⟩, rfl, rfl⟩
      · skip
        obtain ⟨c, hc, ec⟩ := S.b28 (c := 24 * o + n) (by omega) (Int.not_lt.mp d3)
        obtain ⟨k1, k2, k3, k4⟩ := S.cr2 (c := 24 * o + n) (by omega) hc ec
        rw [ec]
        refine c_aload rfl ?_
        refine c_gfr (fun _ C _ => C.ar (k := 29) (K := 47) (n := 72) (by decide)) ?_
        refine c_iload rfl ?_
        refine c_ald (fun _ C l9 i9 => (fun z => ⟨z.1, z.2.trans (show _ = F 47 c from rfl)⟩) (C.an (k := 29) (K := 47) (n := 72) (by decide) i9 (ofN (by omega)).2)) (fun p2 => ?_)
        refine c_iconst ?_
        refine c_icmp_eq (fun d4 => ?_) (fun d4 => ?_)
        · skip
          refine BC.blk c131_53 (fun m5 hm5 => ?_)
          refine c_aload rfl ?_
          refine c_gfr (fun _ C _ => C.ar (k := 42) (K := 60) (n := 72) (by decide)) ?_
          refine c_iload rfl ?_
          refine c_iload rfl ?_
          refine c_zst (fun _ C l9 i9 => C.sn (k := 42) (K := 60) (n := 72) (by decide) i9 (ofN (by omega)).2) (fun p3 => ?_)
          refine c_iload rfl ?_
          refine c_if_ne (fun d5 => ?_) (fun d5 => ?_)
          · skip
            refine BC.blk c131_82 (fun m6 hm6 => ?_)
            refine c_iconst ?_
            exact c_zret ⟨by rw [vhold, if_pos (c := lnok (Int32.ofNat o) (Int32.ofNat n) ∧ hdd v (lno (Int32.ofNat o) (Int32.ofNat n))) ⟨lnok_e ho hn, by rw [lno_e ho hn]; unfold hdd; rw [k1]; exact ⟨by omega, k2, (S.stg hc 5 (by omega)).mpr d4⟩⟩, lno_e ho hn, k1, if_neg (fun z => d5 z.1)]; exact S1.held hc d4 b, Or.inr ⟨_, by rw [ohold, if_pos (lnok_e ho hn), lno_e ho hn, b2i_pos (by unfold hdd; rw [k1]; exact ⟨by omega, k2, (S.stg hc 5 (by omega)).mpr d4⟩)]; first | done | rfl, rfl, rfl⟩, rfl, rfl⟩
          · skip
            refine c_aload rfl ?_
            refine c_gfr (fun _ C _ => C.ar (k := 3) (K := 22) (n := 72) (by decide)) ?_
            refine c_iload rfl ?_
            refine c_ald (fun _ C l9 i9 => (fun z => ⟨z.1, z.2.trans (show _ = F 22 c from rfl)⟩) (C.an (k := 3) (K := 22) (n := 72) (by decide) i9 (ofN (by omega)).2)) (fun p4 => ?_)
            refine c_if_ne (fun d6 => ?_) (fun d6 => ?_)
            · skip
              refine BC.blk c131_82 (fun m7 hm7 => ?_)
              refine c_iconst ?_
              exact c_zret ⟨by rw [vhold, if_pos (c := lnok (Int32.ofNat o) (Int32.ofNat n) ∧ hdd v (lno (Int32.ofNat o) (Int32.ofNat n))) ⟨lnok_e ho hn, by rw [lno_e ho hn]; unfold hdd; rw [k1]; exact ⟨by omega, k2, (S.stg hc 5 (by omega)).mpr d4⟩⟩, lno_e ho hn, k1, if_neg (fun z => d6 ((S.li hc).symm.trans z.2))]; exact S1.held hc d4 b, Or.inr ⟨_, by rw [ohold, if_pos (lnok_e ho hn), lno_e ho hn, b2i_pos (by unfold hdd; rw [k1]; exact ⟨by omega, k2, (S.stg hc 5 (by omega)).mpr d4⟩)]; first | done | rfl, rfl, rfl⟩, rfl, rfl⟩
            · skip
              refine c_aload rfl ?_
              refine c_iload rfl ?_
              refine c_iconst ?_
              refine c_callv mr_rs (e106 hc ((S1.held hc d4 b).1.hlv hc) ((S1.held hc d4 b).1.h16 hc) (S1.held hc d4 b).1.hjv) (fun w t1 p => ?_) (fun k t1 p => by cases p.1)
              obtain ⟨e9, ⟨t2, hen, rfl⟩⟩ := p
              cases e9
              refine c_goto ?_
              refine BC.blk c131_82 (fun m8 hm8 => ?_)
              refine c_iconst ?_
              exact c_zret ⟨by rw [vhold, if_pos (c := lnok (Int32.ofNat o) (Int32.ofNat n) ∧ hdd v (lno (Int32.ofNat o) (Int32.ofNat n))) ⟨lnok_e ho hn, by rw [lno_e ho hn]; unfold hdd; rw [k1]; exact ⟨by omega, k2, (S.stg hc 5 (by omega)).mpr d4⟩⟩, lno_e ho hn, k1, if_pos ⟨d5, (S.li hc).trans d6⟩]; exact (S1.held hc d4 b).over hc (show ¬ F 47 c = 0 by rw [d4]; decide) hen, Or.inr ⟨_, by rw [ohold, if_pos (lnok_e ho hn), lno_e ho hn, b2i_pos (by unfold hdd; rw [k1]; exact ⟨by omega, k2, (S.stg hc 5 (by omega)).mpr d4⟩)]; first | done | rfl, (by rw [rover_k ⟨by decide, by decide⟩, hen.k (by omega)]; rfl), rfl⟩, (by rw [rover_k ⟨by decide, by decide⟩, hen.k (by omega)]; rfl), (by rw [rover_k ⟨by decide, by decide⟩, hen.k (by omega)]; rfl)⟩
        · skip
          refine c_goto ?_
          refine BC.blk c131_51 (fun m9 hm9 => ?_)
          refine c_iconst ?_
          exact c_zret ⟨by rw [vhold, if_neg (fun z => by have z2 := z.2.2.2; rw [lno_e ho hn, k1] at z2; exact d4 ((S.stg hc 5 (by omega)).mp z2))]; exact S1, Or.inr ⟨_, by rw [ohold, if_pos (lnok_e ho hn), lno_e ho hn, b2i_neg (fun z => by have z2 := z.2.2; rw [k1] at z2; exact d4 ((S.stg hc 5 (by omega)).mp z2))]; first | done | rfl, rfl, rfl⟩, rfl, rfl⟩
    · skip
      exact absurd (show b2i (0 < (0 : Int32).toInt) = 0 from rfl) d2
theorem r134x {D : Int} {v : vS} {F : xF} {x y : Int32} (S : Sim D v F) (hx : ¬ lnok x y) : EC MR 134 [rf 8 1, .inl x, .inl y] F (fun o9 t => Sim D (v) t ∧ AG (otalks v x y) o9 t ∧ t 8 1 = F 8 1 ∧ t 8 2 = F 8 2) := by
  refine EC.mk (fun n0 => ?_)
  show BC _ n0 134 0 [rf 8 1, .inl x, .inl y, rf 0 0, rf 0 0, rf 0 0] [] _ _
  refine BC.blk c134_0 (fun m1 hm1 => ?_)
  refine c_aload rfl ?_
  refine c_iload rfl ?_
  refine c_iload rfl ?_
  refine d_call mr_rs (e93) ?_
  refine c_if_eq (fun d1 => ?_) (fun d1 => ?_)
  · skip
    refine BC.blk c134_13 (fun m2 hm2 => ?_)
    refine c_iconst ?_
    refine c_goto ?_
    refine BC.blk c134_14 (fun m3 hm3 => ?_)
    refine d_callv mr_rs (e91) ?_
    refine c_if_eq (fun d2 => ?_) (fun d2 => ?_)
    · skip
      exact absurd d2 (by decide)
    · skip
      refine c_iconst ?_
      exact c_iret ⟨S.f8 ⟨by decide, by decide⟩, Or.inl ⟨1, by rw [otalks, if_neg hx], rfl, by decide, by decide⟩, rfl, rfl⟩
  · skip
    exact absurd (b2i1.mp d1) hx
theorem r134o {D : Int} {v : vS} {F : xF} {o q : Nat} (S : Sim D v F) (ho : o < 3) (hq : q < 24) : EC MR 134 [rf 8 1, .inl (Int32.ofNat o), .inl (Int32.ofNat q)] F (fun o9 t => Sim D (v) t ∧ AG (otalks v (Int32.ofNat o) (Int32.ofNat q)) o9 t ∧ t 8 1 = F 8 1 ∧ t 8 2 = F 8 2) := by
  have S1 : Sim D v (x_u2 F 8 0 0) := S.f8 ⟨by decide, by decide⟩
  refine EC.mk (fun n0 => ?_)
  show BC _ n0 134 0 [rf 8 1, .inl (Int32.ofNat o), .inl (Int32.ofNat q), rf 0 0, rf 0 0, rf 0 0] [] _ _
  refine BC.blk c134_0 (fun m1 hm1 => ?_)
  refine c_aload rfl ?_
  refine c_iload rfl ?_
  refine c_iload rfl ?_
  refine d_call mr_rs (e93) ?_
  refine c_if_eq (fun d1 => ?_) (fun d1 => ?_)
  · skip
    exact absurd (lnok_e ho hq) (b2i0.mp d1)
  · skip
    refine c_iconst ?_
    refine c_goto ?_
    refine BC.blk c134_14 (fun m2 hm2 => ?_)
    refine d_callv mr_rs (e91) ?_
    refine c_if_eq (fun d2 => ?_) (fun d2 => ?_)
    · skip
      refine BC.blk c134_22 (fun m3 hm3 => ?_)
      refine c_iconst ?_
      refine c_iload rfl ?_
      refine c_bin (ofN_mul (24) (o)) ?_
      refine c_iload rfl ?_
      refine c_bin (ofN_add ((24 * o)) (q)) ?_
      refine c_istore rfl ?_
      have jn48 : ∀ (n : Nat) (c k : Nat), n < n0 → c < 72 → v.2.1 2 5 (24 * o + q + 1) = k → (k = 0 ∧ F 47 c = 0 ∨ k = c + 1) → (c = 24 * o + q ∧ (k = c + 1 → ¬ v.2.1 1 3 (c + 1) = 24 * o + q + 1) ∨ (v.2.1 1 3 (c + 1) = 24 * o + q + 1 ∧ ¬ c = 24 * o + q)) → BC MR n 134 48 [rf 8 1, .inl (Int32.ofNat o), .inl (Int32.ofNat q), .inl (Int32.ofNat (24 * o + q)), rf 0 0, rf 0 0] [.inl (Int32.ofNat c)] (x_u2 F 8 0 0) (fun o9 t => Sim D (v) t ∧ AG (otalks v (Int32.ofNat o) (Int32.ofNat q)) o9 t ∧ t 8 1 = F 8 1 ∧ t 8 2 = F 8 2) := by
        intro n48 c k hn48 hc hk hkc hcl
        refine BC.blk c134_48 (fun m4 hm4 => ?_)
        refine c_istore rfl ?_
        refine c_aload rfl ?_
        refine c_gfr (fun _ C _ => C.ar (k := 29) (K := 47) (n := 72) (by decide)) ?_
        refine c_iload rfl ?_
        refine c_ald (fun _ C l9 i9 => (fun z => ⟨z.1, z.2.trans (show _ = F 47 c from rfl)⟩) (C.an (k := 29) (K := 47) (n := 72) (by decide) i9 (ofN (by omega)).2)) (fun p1 => ?_)
        refine c_iconst ?_
        refine c_icmp_ne (fun d3 => ?_) (fun d3 => ?_)
        · skip
          refine BC.blk c134_90 (fun m5 hm5 => ?_)
          refine c_iconst ?_
          refine c_goto ?_
          refine BC.blk c134_91 (fun m6 hm6 => ?_)
          refine c_istore rfl ?_
          refine c_iload rfl ?_
          refine c_if_ne (fun d4 => ?_) (fun d4 => ?_)
          · exact absurd d4 (by decide)
          · skip
            refine c_iconst ?_
            refine c_goto ?_
            refine BC.blk c134_120 (fun m7 hm7 => ?_)
            exact c_iret ⟨S1, Or.inr ⟨_, by rw [otalks, if_pos (lnok_e ho hq), lno_e ho hq, hk, if_neg (fun z => hkc.elim (fun w => z.1 w.1) (fun w => d3 ((S.stg hc 5 (by omega)).mp (by rw [← w]; exact z.2.1))))]; first | done | rfl, rfl, rfl⟩, rfl, rfl⟩
        · skip
          refine c_aload rfl ?_
          refine c_gfr (fun _ C _ => C.ar (k := 3) (K := 22) (n := 72) (by decide)) ?_
          refine c_iload rfl ?_
          refine c_ald (fun _ C l9 i9 => (fun z => ⟨z.1, z.2.trans (show _ = F 22 c from rfl)⟩) (C.an (k := 3) (K := 22) (n := 72) (by decide) i9 (ofN (by omega)).2)) (fun p2 => ?_)
          refine c_if_eq (fun d5 => ?_) (fun d5 => ?_)
          · skip
            refine BC.blk c134_90 (fun m8 hm8 => ?_)
            refine c_iconst ?_
            refine c_goto ?_
            refine BC.blk c134_91 (fun m9 hm9 => ?_)
            refine c_istore rfl ?_
            refine c_iload rfl ?_
            refine c_if_ne (fun d6 => ?_) (fun d6 => ?_)
            · exact absurd d6 (by decide)
            · skip
              refine c_iconst ?_
              refine c_goto ?_
              refine BC.blk c134_120 (fun m10 hm10 => ?_)
              obtain ⟨t1, t2, t3, t4, t5, t6⟩ := S.tlk hc d3
              have hk2 : k = c + 1 := hkc.elim (fun z => absurd (z.2.symm.trans d3) (by decide)) id
              subst hk2
              exact c_iret ⟨S1, Or.inr ⟨_, by rw [otalks, if_pos (lnok_e ho hq), lno_e ho hq, hk, if_neg (fun z => z.2.2.1 (t2.trans d5))]; first | done | rfl, rfl, rfl⟩, rfl, rfl⟩
          · skip
            refine c_aload rfl ?_
            refine c_gfr (fun _ C _ => C.ar (k := 3) (K := 22) (n := 72) (by decide)) ?_
            refine c_aload rfl ?_
            refine c_gfr (fun _ C _ => C.ar (k := 39) (K := 57) (n := 72) (by decide)) ?_
            refine c_iload rfl ?_
            refine c_ald (fun _ C l9 i9 => (fun z => ⟨z.1, z.2.trans (show _ = F 57 c from rfl)⟩) (C.an (k := 39) (K := 57) (n := 72) (by decide) i9 (ofN (by omega)).2)) (fun p3 => ?_)
            refine c_ald (fun _ C l9 i9 => (fun z => ⟨z.1, z.2.trans (show _ = F 22 (F 57 c).toNatClampNeg from rfl)⟩) (C.an (k := 3) (K := 22) (n := 72) (by decide) i9 rfl)) (fun p4 => ?_)
            refine c_if_eq (fun d7 => ?_) (fun d7 => ?_)
            · skip
              refine BC.blk c134_90 (fun m11 hm11 => ?_)
              refine c_iconst ?_
              refine c_goto ?_
              refine BC.blk c134_91 (fun m12 hm12 => ?_)
              refine c_istore rfl ?_
              refine c_iload rfl ?_
              refine c_if_ne (fun d8 => ?_) (fun d8 => ?_)
              · exact absurd d8 (by decide)
              · skip
                refine c_iconst ?_
                refine c_goto ?_
                refine BC.blk c134_120 (fun m13 hm13 => ?_)
                obtain ⟨t1, t2, t3, t4, t5, t6⟩ := S.tlk hc d3
                have hk2 : k = c + 1 := hkc.elim (fun z => absurd (z.2.symm.trans d3) (by decide)) id
                subst hk2
                exact c_iret ⟨S1, Or.inr ⟨_, by rw [otalks, if_pos (lnok_e ho hq), lno_e ho hq, hk, if_neg (fun z => z.2.2.2.2 (t4.trans d7))]; first | done | rfl, rfl, rfl⟩, rfl, rfl⟩
            · skip
              refine c_iconst ?_
              refine c_goto ?_
              refine BC.blk c134_91 (fun m14 hm14 => ?_)
              refine c_istore rfl ?_
              refine c_iload rfl ?_
              refine c_if_ne (fun d9 => ?_) (fun d9 => ?_)
              · skip
                refine BC.blk c134_102 (fun m15 hm15 => ?_)
                refine c_iload rfl ?_
                refine c_iload rfl ?_
                refine c_icmp_ne (fun d10 => ?_) (fun d10 => ?_)
                · skip
                  refine BC.blk c134_118 (fun m16 hm16 => ?_)
                  refine c_iload rfl ?_
                  refine c_goto ?_
                  refine BC.blk c134_120 (fun m17 hm17 => ?_)
                  obtain ⟨t1, t2, t3, t4, t5, t6⟩ := S.tlk hc d3
                  have hk2 : k = c + 1 := hkc.elim (fun z => absurd (z.2.symm.trans d3) (by decide)) id
                  subst hk2
                  have hc2 : ¬ c = 24 * o + q := fun z => d10 (by rw [z])
                  have hc3 := hcl.elim (fun z => absurd z.1 hc2) (fun z => z.1)
                  exact c_iret ⟨S1, Or.inr ⟨_, by rw [otalks, if_pos (lnok_e ho hq), lno_e ho hq, hk, if_pos ⟨by omega, t1, fun z => d5 (t2.symm.trans z), by omega, fun z => d7 (t4.symm.trans z)⟩, if_pos hc3]; first | done | rfl, rfl, rfl⟩, rfl, rfl⟩
                · skip
                  refine c_aload rfl ?_
                  refine c_gfr (fun _ C _ => C.ar (k := 39) (K := 57) (n := 72) (by decide)) ?_
                  refine c_iload rfl ?_
                  refine c_ald (fun _ C l9 i9 => (fun z => ⟨z.1, z.2.trans (show _ = F 57 c from rfl)⟩) (C.an (k := 39) (K := 57) (n := 72) (by decide) i9 (ofN (by omega)).2)) (fun p5 => ?_)
                  refine c_goto ?_
                  refine BC.blk c134_120 (fun m18 hm18 => ?_)
                  obtain ⟨t1, t2, t3, t4, t5, t6⟩ := S.tlk hc d3
                  have hk2 : k = c + 1 := hkc.elim (fun z => absurd (z.2.symm.trans d3) (by decide)) id
                  subst hk2
                  have hc2 : c = 24 * o + q := ofN_inj (by omega) (by omega) d10
                  have hc3 := hcl.elim (fun z => z.2 rfl) (fun z => absurd hc2 z.2)
                  exact c_iret ⟨S1, Or.inr ⟨_, by rw [otalks, if_pos (lnok_e ho hq), lno_e ho hq, hk, if_pos ⟨by omega, t1, fun z => d5 (t2.symm.trans z), by omega, fun z => d7 (t4.symm.trans z)⟩, if_neg hc3, t3, Nat.add_sub_cancel, ← t5]; first | done | rfl, rfl, rfl⟩, rfl, rfl⟩
              · exact absurd d9 (by decide)
      refine c_aload rfl ?_
      refine c_gfr (fun _ C _ => C.ar (k := 9) (K := 28) (n := 72) (by decide)) ?_
      refine c_iload rfl ?_
      refine c_ald (fun _ C l9 i9 => (fun z => ⟨z.1, z.2.trans (show _ = F 28 (24 * o + q) from rfl)⟩) (C.an (k := 9) (K := 28) (n := 72) (by decide) i9 (ofN (by omega)).2)) (fun p6 => ?_)
      refine c_if_lt (fun d11 => ?_) (fun d11 => ?_)
      · skip
        refine BC.blk c134_47 (fun m19 hm19 => ?_)
        refine c_iload rfl ?_
        refine c_goto ?_
        by_cases h47 : F 47 (24 * o + q) = 0
        · exact jn48 m19 (24 * o + q) 0 (by omega) (by omega) (S.cr0 (by omega) h47 d11) (Or.inl ⟨rfl, h47⟩) (Or.inl ⟨rfl, fun z => absurd z (by omega)⟩)
        · exact jn48 m19 (24 * o + q) (24 * o + q + 1) (by omega) (by omega) (S.cr1 (by omega) h47) (Or.inr rfl) (Or.inl ⟨rfl, fun _ => S.cd1 (by omega) h47⟩)
      · skip
        refine c_aload rfl ?_
        refine c_gfr (fun _ C _ => C.ar (k := 9) (K := 28) (n := 72) (by decide)) ?_
        refine c_iload rfl ?_
        refine c_ald (fun _ C l9 i9 => (fun z => ⟨z.1, z.2.trans (show _ = F 28 (24 * o + q) from rfl)⟩) (C.an (k := 9) (K := 28) (n := 72) (by decide) i9 (ofN (by omega)).2)) (fun p7 => ?_)
        refine c_goto ?_
        obtain ⟨c, hc, ec⟩ := S.b28 (c := 24 * o + q) (by omega) (Int.not_lt.mp d11)
        obtain ⟨k1, k2, k3, k4⟩ := S.cr2 (c := 24 * o + q) (by omega) hc ec
        rw [ec]
        exact jn48 m3 c (c + 1) (by omega) hc k1 (Or.inr rfl) (Or.inr ⟨k2, S.cne (by omega) hc ec⟩)
    · skip
      exact absurd (show b2i (0 < (0 : Int32).toInt) = 0 from rfl) d2
