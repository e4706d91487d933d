section XSN
variable {D : Int} {v : vS} {F : xF} {c o r : Nat}
theorem cod3 {o r : Nat} (hr : r < 3) : 1000 * o + 30 + r = cdo 38 (3 * o + r) := by
  show _ = 1000 * ((3 * o + r) / 3) + (30 + (3 * o + r) % 3)
  omega
theorem cdo_r {o r o' r' : Nat} (ho : o < 3) (hr : r < 3) (ho' : o' < 3) (hr' : r' < 3) (h : Int32.ofNat (cdo 38 (3 * o + r)) = Int32.ofNat (cdo 38 (3 * o' + r'))) : o = o' ∧ r = r' := by
  have s1 : slo 0 38 (3 * o + r) := by unfold slo; omega
  have s2 : slo 0 38 (3 * o' + r') := by unfold slo; omega
  have l1 := cdo_le s1 (by omega)
  have l2 := cdo_le s2 (by omega)
  have := cdo_inj s1 s2 (ofN_inj (by omega) (by omega) h)
  omega
theorem vsd_0 (S : Sim D v F) (ho : o < 3) (hr : r < 3) (h : (F 38 (3 * o + r)).toInt < 0) : vsd o (30 + r) v = v := by
  have := (S.1.i38 ho hr).1
  unfold vsd
  rw [if_pos (by omega)]
theorem vsd_j (S : Sim D v F) (ho : o < 3) (hr : r < 3) (hc : c < 72) (h : F 38 (3 * o + r) = Int32.ofNat c) : v.2.1 17 (o + 1) (30 + r) = c + 1 := by
  have := (S.1.i38 ho hr).1
  rw [h, (ofN (n := c) (by omega)).1] at this
  omega
theorem vsd_1 (S : Sim D v F) (ho : o < 3) (hr : r < 3) (hc : c < 72) (h : F 38 (3 * o + r) = Int32.ofNat c) (h47 : ¬ F 47 c = 3) : vsd o (30 + r) v = v := by
  unfold vsd
  rw [vsd_j S ho hr hc h, if_neg (by omega), if_neg (fun z => h47 ((S.stg hc 3 (by omega)).mp z))]
theorem vsd_2 (S : Sim D v F) (ho : o < 3) (hr : r < 3) (hc : c < 72) (h : F 38 (3 * o + r) = Int32.ofNat c) (h47 : F 47 c = 3) (hn : ¬ (F 50 c = Int32.ofNat o ∧ F 51 c = Int32.ofNat r)) : vsd o (30 + r) v = v := by
  obtain ⟨o1, r1, o2, r2, a1, a2, -, -, a5, a6, -, -, a9, -⟩ := S.sreg hc h47
  unfold vsd
  rw [vsd_j S ho hr hc h, if_neg (by omega), if_pos ((S.stg hc 3 (by omega)).mpr h47), if_neg]
  intro z
  rw [a9, cod_reg hr] at z
  obtain ⟨rfl, rfl⟩ := cdo_r a1 a2 ho hr z
  exact hn ⟨a5, a6⟩
theorem vsd_3 (S : Sim D v F) (ho : o < 3) (hr : r < 3) (hc : c < 72) (h : F 38 (3 * o + r) = Int32.ofNat c) (h47 : F 47 c = 3) (e9 : v.1 1 9 (c + 1) = Int32.ofNat (cdo 38 (3 * o + r))) : vsd o (30 + r) v = vsend v (c + 1) := by
  unfold vsd
  rw [vsd_j S ho hr hc h, if_neg (by omega), if_pos ((S.stg hc 3 (by omega)).mpr h47), if_pos]
  rw [e9, cod_reg hr]
theorem Sim.b38 (S : Sim D v F) (ho : o < 3) (hr : r < 3) (h : 0 ≤ (F 38 (3 * o + r)).toInt) : ∃ c, c < 72 ∧ F 38 (3 * o + r) = Int32.ofNat c := by
  have := (S.1.i38 ho hr).2
  have e := x_clamp h
  exact ⟨(F 38 (3 * o + r)).toNatClampNeg, by omega, i32_nat h⟩
end XSN
theorem r125 {D : Int} {v : vS} {F : xF} {o r : Nat} (S : Sim D v F) (ho : o < 3) (hr : r < 3) (hD : (F 8 1).toInt < D) : EC MR 125 [rf 8 1, .inl (Int32.ofNat o), .inl (Int32.ofNat r)] F (fun o9 t => o9 = ov ∧ Sim D (vsd o (30 + r) v) t ∧ ∀ i, t 8 i = F 8 i) := by
  refine EC.mk (fun n0 => ?_)
  show BC _ n0 125 0 [rf 8 1, .inl (Int32.ofNat o), .inl (Int32.ofNat r), rf 0 0] [] _ _
  refine BC.blk c125_0 (fun m1 hm1 => ?_)
  refine c_aload rfl ?_
  refine c_gfr (fun _ C _ => C.ar (k := 19) (K := 38) (n := 9) (by decide)) ?_
  refine c_iconst ?_
  refine c_iload rfl ?_
  refine c_bin (ofN_mul (3) (o)) ?_
  refine c_iload rfl ?_
  refine c_bin (ofN_add ((3 * o)) (r)) ?_
  refine c_ald (fun _ C l9 i9 => C.an (k := 19) (K := 38) (n := 9) (by decide) i9 (ofN (by omega)).2) (fun p1 => ?_)
  refine c_istore rfl ?_
  refine c_iload rfl ?_
  refine c_if_lt (fun d1 => ?_) (fun d1 => ?_)
  · skip
    refine BC.blk c125_45 (fun m2 hm2 => ?_)
    exact c_ret ⟨rfl, by rw [vsd_0 S ho hr d1]; exact S, fun _ => rfl⟩
  · skip
    obtain ⟨c, hc, ec⟩ := S.b38 ho hr (Int.not_lt.mp d1)
    rw [ec]
    refine c_aload rfl ?_
    refine c_gfr (fun _ C _ => C.ar (k := 29) (K := 47) (n := 72) (by decide)) ?_
    refine c_iload rfl ?_
    refine c_ald (fun _ C l9 i9 => (fun z => ⟨z.1, z.2.trans (show _ = F 47 c from rfl)⟩) (C.an (k := 29) (K := 47) (n := 72) (by decide) i9 (ofN (by omega)).2)) (fun p2 => ?_)
    refine c_iconst ?_
    refine c_icmp_ne (fun d2 => ?_) (fun d2 => ?_)
    · skip
      refine BC.blk c125_45 (fun m3 hm3 => ?_)
      exact c_ret ⟨rfl, by rw [vsd_1 S ho hr hc ec d2]; exact S, fun _ => rfl⟩
    · skip
      refine c_aload rfl ?_
      refine c_gfr (fun _ C _ => C.ar (k := 32) (K := 50) (n := 72) (by decide)) ?_
      refine c_iload rfl ?_
      refine c_ald (fun _ C l9 i9 => (fun z => ⟨z.1, z.2.trans (show _ = F 50 c from rfl)⟩) (C.an (k := 32) (K := 50) (n := 72) (by decide) i9 (ofN (by omega)).2)) (fun p3 => ?_)
      refine c_iload rfl ?_
      refine c_icmp_ne (fun d3 => ?_) (fun d3 => ?_)
      · skip
        refine BC.blk c125_45 (fun m4 hm4 => ?_)
        exact c_ret ⟨rfl, by rw [vsd_2 S ho hr hc ec d2 (fun z => d3 z.1)]; exact S, fun _ => rfl⟩
      · skip
        refine c_aload rfl ?_
        refine c_gfr (fun _ C _ => C.ar (k := 33) (K := 51) (n := 72) (by decide)) ?_
        refine c_iload rfl ?_
        refine c_ald (fun _ C l9 i9 => (fun z => ⟨z.1, z.2.trans (show _ = F 51 c from rfl)⟩) (C.an (k := 33) (K := 51) (n := 72) (by decide) i9 (ofN (by omega)).2)) (fun p4 => ?_)
        refine c_iload rfl ?_
        refine c_icmp_eq (fun d4 => ?_) (fun d4 => ?_)
        · skip
          refine BC.blk c125_46 (fun m5 hm5 => ?_)
          have hr51 : F 51 c = Int32.ofNat r := d4
          obtain ⟨o1, r1, o', r', a1, a2, a3, a4, a5, a6, h53, h54, a9, m9, e10, m10, e7, hne, hnc⟩ := S.sreg hc d2
          have z1 : o = o1 := ofN_inj (by omega) (by omega) (d3.symm.trans a5)
          have z2 : r = r1 := ofN_inj (by omega) (by omega) (hr51.symm.trans a6)
          subst z1
          subst z2
          have b52 := (S.pl hc).2.2.2.2.2.2.2.2.2.2.2.2.2.2.1 d2
          have l52 : 1 ≤ (F 52 c).toInt := b52.2.2.2.2.2.1
          clear b52
          have u52 := Int32.toInt_lt (F 52 c)
          have i52 : (F 52 c - 1).toInt = (F 52 c).toInt - 1 := i32_sub (by show _ ≤ _ - (1 : Int); omega) (by show _ - (1 : Int) < _; omega)
          have e11 : v.1 1 11 (c + 1) = F 52 c := (S.pl hc).2.2.2.2.2.1.2.1
          refine c_aload rfl ?_
          refine c_gfr (fun _ C _ => C.ar (k := 34) (K := 52) (n := 72) (by decide)) ?_
          refine c_iload rfl ?_
          refine c_dup2 ?_
          refine c_ald (fun _ C l9 i9 => C.an (k := 34) (K := 52) (n := 72) (by decide) i9 (ofN (by omega)).2) (fun p5 => ?_)
          refine c_iconst ?_
          refine c_bin rfl ?_
          refine c_ast (fun _ C l9 i9 => C.sn (k := 34) (K := 52) (n := 72) (by decide) i9 (ofN (by omega)).2) (fun p6 => ?_)
          refine c_aload rfl ?_
          refine c_gfr (fun _ C _ => C.ar (k := 34) (K := 52) (n := 72) (by decide)) ?_
          refine c_iload rfl ?_
          refine c_ald (fun _ C l9 i9 => (fun z => ⟨z.1, z.2.trans u2_eq⟩) (C.an (k := 34) (K := 52) (n := 72) (by decide) i9 (ofN (by omega)).2)) (fun p7 => ?_)
          refine c_if_ne (fun d5 => ?_) (fun d5 => ?_)
          · skip
            refine BC.blk c125_103 (fun m6 hm6 => ?_)
            have n5 : ¬ (F 52 c - 1).toInt = 0 := fun z => d5 (i32_eq.mpr z)
            exact c_ret ⟨rfl, by rw [vsd_3 S ho hr hc ec d2 a9, vsend, e11, if_pos (by omega), ← e11]; exact e11 ▸ S.sd1 hc d2 (by omega), fun _ => rfl⟩
          · skip
            refine c_aload rfl ?_
            refine c_iload rfl ?_
            refine c_iconst ?_
            refine c_iload rfl ?_
            refine c_bin (ofN_mul (1000) (o)) ?_
            refine c_iconst ?_
            refine c_bin (ofN_add ((1000 * o)) (30)) ?_
            refine c_iload rfl ?_
            refine c_bin (ofN_add (((1000 * o) + 30)) (r)) ?_
            refine c_callv mr_rs (e101 (F := x_u2 F 52 c (F 52 c - 1)) hc (S.1.hlv hc) (S.1.h16 hc)) (fun w t1 p => ?_) (fun k t1 p => by cases p.1)
            obtain ⟨e9, hre⟩ := p
            cases e9
            rw [cod3 hr] at hre
            refine c_aload rfl ?_
            refine c_gfr (fun _ C _ => C.ar (k := 33) (K := 51) (n := 72) (by decide)) ?_
            refine c_iload rfl ?_
            refine c_aload rfl ?_
            refine c_gfr (fun _ C _ => C.ar (k := 36) (K := 54) (n := 72) (by decide)) ?_
            refine c_iload rfl ?_
            refine c_ald (fun _ C l9 i9 => (fun z => ⟨z.1, z.2.trans ((hre.k (by omega)).trans h54)⟩) (C.an (k := 36) (K := 54) (n := 72) (by decide) i9 (ofN (by omega)).2)) (fun p8 => ?_)
            refine c_ast (fun _ C l9 i9 => C.sn (k := 33) (K := 51) (n := 72) (by decide) i9 (ofN (by omega)).2) (fun p9 => ?_)
            refine c_aload rfl ?_
            refine c_iload rfl ?_
            refine c_aload rfl ?_
            refine c_gfr (fun _ C _ => C.ar (k := 35) (K := 53) (n := 72) (by decide)) ?_
            refine c_iload rfl ?_
            refine c_ald (fun _ C l9 i9 => (fun z => ⟨z.1, z.2.trans ((u2_ne (by decide)).trans ((hre.k (by omega)).trans h53))⟩) (C.an (k := 35) (K := 53) (n := 72) (by decide) i9 (ofN (by omega)).2)) (fun p10 => ?_)
            refine d_callv mr_rs (e103 (n := (v.2.2.1 (30 * o' + 2)).length) hc a3 ((u2_ne (by decide)).trans ((hre.k (by omega)).trans (S.1.jq o' a3).1.1)) (by have := (S.1.jq o' a3).2.2.1; omega)) ?_
            refine c_goto ?_
            refine BC.blk c125_103 (fun m7 hm7 => ?_)
            have n5 : (F 52 c - 1).toInt = 0 := by rw [d5]; rfl
            have sd := S.sd2 hc d2 ho hr a3 a4 h53 h54 a9 m9 e10 m10 e7 hne hnc hD hre
            refine c_ret ⟨rfl, ?_, sd.2⟩
            rw [vsd_3 S ho hr hc ec d2 a9, vsend, if_neg (by rw [e11]; omega), e7, (ofN (n := o') (by omega)).2, a9]
            exact sd.1
        · skip
          refine c_goto ?_
          refine BC.blk c125_45 (fun m8 hm8 => ?_)
          exact c_ret ⟨rfl, by rw [vsd_2 S ho hr hc ec d2 (fun z => d4 z.2)]; exact S, fun _ => rfl⟩
