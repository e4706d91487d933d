/-! A TICK FOR ONE CALL, ONE REGISTER, on both sides -/
theorem vps_0 {D : Int} {v : vS} {F : xF} {c : Nat} (S : Sim D v F) (hc : c < 72) (h1 : ¬ F 47 c = 1) (h5 : ¬ F 47 c = 5) : vps c v = v := by
  unfold vps
  rw [if_neg (fun z => h1 ((S.stg hc 1 (by omega)).mp z)), if_neg (fun z => h5 ((S.stg hc 5 (by omega)).mp z))]
theorem vps_1 {D : Int} {v : vS} {F : xF} {c : Nat} (S : Sim D v F) (hc : c < 72) (h : F 47 c = 1) : vps c v = if (F 56 c + 1).toInt < 20 then vpi v 1 12 (c + 1) (v.1 1 12 (c + 1) + 1) else vend (vpi v 1 12 (c + 1) (v.1 1 12 (c + 1) + 1)) (c + 1) 3 := by
  unfold vps vwait
  rw [if_pos ((S.stg hc 1 (by omega)).mpr h), show v.1 1 12 (c + 1) = F 56 c from (S.pl hc).2.2.2.2.2.1.2.2.1]
theorem vps_5 {D : Int} {v : vS} {F : xF} {c : Nat} (S : Sim D v F) (hc : c < 72) (h : F 47 c = 5) : vps c v = vtalk v (c + 1) := by
  unfold vps
  rw [if_neg (fun z => absurd (((S.stg hc 1 (by omega)).mp z).symm.trans h) (by decide)), if_pos ((S.stg hc 5 (by omega)).mpr h)]
theorem vtalk_a {D : Int} {v : vS} {F : xF} {c : Nat} (S : Sim D v F) (hc : c < 72) (h : F 47 c = 5) (hl : ¬ F 22 (F 57 c).toNatClampNeg = 0) : vtalk v (c + 1) = if 0 < (F 32 (F 58 c).toNatClampNeg).toInt ∧ (F 32 (F 58 c).toNatClampNeg).toInt ≤ (F 61 c + 1).toInt then vchg (vpi v 1 13 (c + 1) (v.1 1 13 (c + 1) + 1)) (c + 1) else vpi v 1 13 (c + 1) (v.1 1 13 (c + 1) + 1) := by
  obtain ⟨t1, t2, t3, t4, t5, t6⟩ := S.tlk hc h
  have dl := S.1.dl hc (S.pl hc) (by rw [h]; decide)
  have ep : vper v (c + 1) = F 32 (F 58 c).toNatClampNeg := by
    unfold vper
    rw [if_neg dl.1, dl.2.2]
  unfold vtalk
  rw [if_pos ⟨by omega, fun z => hl (t4.symm.trans z)⟩, ep, show v.1 1 13 (c + 1) = F 61 c from (S.pl hc).2.2.2.2.2.1.2.2.2]
theorem vtalk_b {D : Int} {v : vS} {F : xF} {c : Nat} (S : Sim D v F) (hc : c < 72) (h : F 47 c = 5) (hl : F 22 (F 57 c).toNatClampNeg = 0) : vtalk v (c + 1) = if F 60 c = 0 then (if (F 62 c + 1).toInt < 12 then vpi v 1 14 (c + 1) (v.1 1 14 (c + 1) + 1) else vend (vpi v 1 14 (c + 1) (v.1 1 14 (c + 1) + 1)) (c + 1) 3) else v := by
  obtain ⟨t1, t2, t3, t4, t5, t6⟩ := S.tlk hc h
  have e5 : v.1 1 5 (c + 1) = F 60 c := by
    rw [(S.pl hc).2.2.2.2.1, if_pos h]
  unfold vtalk
  rw [if_neg (fun z => z.2 (t4.trans hl)), e5, (S.2.2 c hc h hl).1]
theorem r126 {D : Int} {v : vS} {F : xF} {c : Nat} (S : Sim D v F) (hc : c < 72) : EC MR 126 [rf 8 1, .inl (Int32.ofNat c)] F (fun o9 t => o9 = ov ∧ Sim D (vps c v) t ∧ ∀ i, t 8 i = F 8 i) := by
  refine EC.mk (fun n0 => ?_)
  show BC _ n0 126 0 [rf 8 1, .inl (Int32.ofNat c), rf 0 0] [] _ _
  refine BC.blk c126_0 (fun m1 hm1 => ?_)
  refine c_aload rfl ?_
  refine c_gfr (fun _ C _ => C.ar (k := 29) (K := 47) (n := 72) (by decide)) ?_
  refine c_iload rfl ?_
  refine c_ald (fun _ C l9 i9 => C.an (k := 29) (K := 47) (n := 72) (by decide) i9 (ofN (by omega)).2) (fun p1 => ?_)
  refine c_iconst ?_
  refine c_icmp_ne (fun d1 => ?_) (fun d1 => ?_)
  · skip
    refine BC.blk c126_40 (fun m2 hm2 => ?_)
    refine c_aload rfl ?_
    refine c_gfr (fun _ C _ => C.ar (k := 29) (K := 47) (n := 72) (by decide)) ?_
    refine c_iload rfl ?_
    refine c_ald (fun _ C l9 i9 => C.an (k := 29) (K := 47) (n := 72) (by decide) i9 (ofN (by omega)).2) (fun p2 => ?_)
    refine c_iconst ?_
    refine c_icmp_ne (fun d2 => ?_) (fun d2 => ?_)
    · skip
      refine BC.blk c126_170 (fun m3 hm3 => ?_)
      exact c_ret ⟨rfl, by rw [vps_0 S hc d1 d2]; exact S, fun _ => rfl⟩
    · skip
      refine c_aload rfl ?_
      refine c_gfr (fun _ C _ => C.ar (k := 3) (K := 22) (n := 72) (by decide)) ?_
      refine c_aload rfl ?_
      refine c_gfr (fun _ C _ => C.ar (k := 39) (K := 57) (n := 72) (by decide)) ?_
      refine c_iload rfl ?_
      refine c_ald (fun _ C l9 i9 => (fun z => ⟨z.1, z.2.trans (show _ = F 57 c from rfl)⟩) (C.an (k := 39) (K := 57) (n := 72) (by decide) i9 (ofN (by omega)).2)) (fun p3 => ?_)
      refine c_ald (fun _ C l9 i9 => (fun z => ⟨z.1, z.2.trans (show _ = F 22 (F 57 c).toNatClampNeg from rfl)⟩) (C.an (k := 3) (K := 22) (n := 72) (by decide) i9 rfl)) (fun p4 => ?_)
      refine c_if_eq (fun d3 => ?_) (fun d3 => ?_)
      · skip
        refine BC.blk c126_134 (fun m4 hm4 => ?_)
        refine c_aload rfl ?_
        refine c_gfr (fun _ C _ => C.ar (k := 42) (K := 60) (n := 72) (by decide)) ?_
        refine c_iload rfl ?_
        refine c_ald (fun _ C l9 i9 => (fun z => ⟨z.1, z.2.trans (show _ = F 60 c from rfl)⟩) (C.an (k := 42) (K := 60) (n := 72) (by decide) i9 (ofN (by omega)).2)) (fun p5 => ?_)
        refine c_if_ne (fun d4 => ?_) (fun d4 => ?_)
        · skip
          refine BC.blk c126_170 (fun m5 hm5 => ?_)
          exact c_ret ⟨rfl, by rw [vps_5 S hc d2, vtalk_b S hc d2 d3, if_neg d4]; exact S, fun _ => rfl⟩
        · skip
          refine c_aload rfl ?_
          refine c_gfr (fun _ C _ => C.ar (k := 44) (K := 62) (n := 72) (by decide)) ?_
          refine c_iload rfl ?_
          refine c_dup2 ?_
          refine c_ald (fun _ C l9 i9 => C.an (k := 44) (K := 62) (n := 72) (by decide) i9 (ofN (by omega)).2) (fun p6 => ?_)
          refine c_iconst ?_
          refine c_bin rfl ?_
          refine c_ast (fun _ C l9 i9 => C.sn (k := 44) (K := 62) (n := 72) (by decide) i9 (ofN (by omega)).2) (fun p7 => ?_)
          refine c_aload rfl ?_
          refine c_gfr (fun _ C _ => C.ar (k := 44) (K := 62) (n := 72) (by decide)) ?_
          refine c_iload rfl ?_
          refine c_ald (fun _ C l9 i9 => (fun z => ⟨z.1, z.2.trans u2_eq⟩) (C.an (k := 44) (K := 62) (n := 72) (by decide) i9 (ofN (by omega)).2)) (fun p8 => ?_)
          refine c_iconst ?_
          refine c_icmp_ne (fun d5 => ?_) (fun d5 => ?_)
          · skip
            refine BC.blk c126_170 (fun m6 hm6 => ?_)
            have b6 := S.2.2 c hc d2 d3
            have i6 : (F 62 c + 1).toInt = (F 62 c).toInt + 1 := i32_add (by show _ ≤ _ + (1 : Int); omega) (by show _ + (1 : Int) < _; omega)
            have n6 : ¬ (F 62 c + 1).toInt = 12 := fun z => d5 (i32_eq.mpr z)
            exact c_ret ⟨rfl, by rw [vps_5 S hc d2, vtalk_b S hc d2 d3, if_pos d4, if_pos (by omega)]; exact S.tk3 hc d2 d3 (by omega), fun _ => rfl⟩
          · skip
            refine c_aload rfl ?_
            refine c_iload rfl ?_
            refine c_iconst ?_
            refine c_callv mr_rs (e106 (F := x_u2 F 62 c (F 62 c + 1)) hc (S.1.hlv hc) (S.1.h16 hc) S.1.hjv) (fun w t1 p => ?_) (fun k t1 p => by cases p.1)
            obtain ⟨e9, ⟨t2, hen, rfl⟩⟩ := p
            cases e9
            refine c_goto ?_
            refine BC.blk c126_170 (fun m7 hm7 => ?_)
            have b6 := S.2.2 c hc d2 d3
            have i6 : (F 62 c + 1).toInt = (F 62 c).toInt + 1 := i32_add (by show _ ≤ _ + (1 : Int); omega) (by show _ + (1 : Int) < _; omega)
            have n6 : (F 62 c + 1).toInt = 12 := by rw [d5]; rfl
            exact c_ret ⟨rfl, by rw [vps_5 S hc d2, vtalk_b S hc d2 d3, if_pos d4, if_neg (by omega)]; exact S.tk4 hc d2 d3 hen, fun i => by rw [rover_k ⟨by decide, by decide⟩, hen.k (by omega)]; rfl⟩
      · skip
        refine c_aload rfl ?_
        refine c_gfr (fun _ C _ => C.ar (k := 43) (K := 61) (n := 72) (by decide)) ?_
        refine c_iload rfl ?_
        refine c_dup2 ?_
        refine c_ald (fun _ C l9 i9 => C.an (k := 43) (K := 61) (n := 72) (by decide) i9 (ofN (by omega)).2) (fun p9 => ?_)
        refine c_iconst ?_
        refine c_bin rfl ?_
        refine c_ast (fun _ C l9 i9 => C.sn (k := 43) (K := 61) (n := 72) (by decide) i9 (ofN (by omega)).2) (fun p10 => ?_)
        refine c_aload rfl ?_
        refine c_gfr (fun _ C _ => C.ar (k := 13) (K := 32) (n := 36) (by decide)) ?_
        refine c_aload rfl ?_
        refine c_gfr (fun _ C _ => C.ar (k := 40) (K := 58) (n := 72) (by decide)) ?_
        refine c_iload rfl ?_
        refine c_ald (fun _ C l9 i9 => (fun z => ⟨z.1, z.2.trans (show _ = F 58 c from rfl)⟩) (C.an (k := 40) (K := 58) (n := 72) (by decide) i9 (ofN (by omega)).2)) (fun p11 => ?_)
        refine c_ald (fun _ C l9 i9 => (fun z => ⟨z.1, z.2.trans (show _ = F 32 (F 58 c).toNatClampNeg from rfl)⟩) (C.an (k := 13) (K := 32) (n := 36) (by decide) i9 rfl)) (fun p12 => ?_)
        refine c_istore rfl ?_
        refine c_iload rfl ?_
        refine c_if_le (fun d6 => ?_) (fun d6 => ?_)
        · skip
          refine BC.blk c126_131 (fun m8 hm8 => ?_)
          refine c_goto ?_
          refine BC.blk c126_170 (fun m9 hm9 => ?_)
          exact c_ret ⟨rfl, by rw [vps_5 S hc d2, vtalk_a S hc d2 d3, if_neg (fun z => absurd z.1 (Int.not_lt.mpr d6))]; exact S.tk1 hc, fun _ => rfl⟩
        · skip
          refine c_aload rfl ?_
          refine c_gfr (fun _ C _ => C.ar (k := 43) (K := 61) (n := 72) (by decide)) ?_
          refine c_iload rfl ?_
          refine c_ald (fun _ C l9 i9 => (fun z => ⟨z.1, z.2.trans u2_eq⟩) (C.an (k := 43) (K := 61) (n := 72) (by decide) i9 (ofN (by omega)).2)) (fun p13 => ?_)
          refine c_iload rfl ?_
          refine c_icmp_lt (fun d7 => ?_) (fun d7 => ?_)
          · skip
            refine BC.blk c126_131 (fun m10 hm10 => ?_)
            refine c_goto ?_
            refine BC.blk c126_170 (fun m11 hm11 => ?_)
            exact c_ret ⟨rfl, by rw [vps_5 S hc d2, vtalk_a S hc d2 d3, if_neg (fun z => absurd z.2 (Int.not_le.mpr d7))]; exact S.tk1 hc, fun _ => rfl⟩
          · skip
            refine c_aload rfl ?_
            refine c_gfr (fun _ C _ => C.ar (k := 43) (K := 61) (n := 72) (by decide)) ?_
            refine c_iload rfl ?_
            refine c_iconst ?_
            refine c_ast (fun _ C l9 i9 => C.sn (k := 43) (K := 61) (n := 72) (by decide) i9 (ofN (by omega)).2) (fun p14 => ?_)
            refine c_aload rfl ?_
            refine c_gfr (fun _ C _ => C.ar (k := 6) (K := 25) (n := 72) (by decide)) ?_
            refine c_iload rfl ?_
            refine c_aload rfl ?_
            refine c_gfr (fun _ C _ => C.ar (k := 6) (K := 25) (n := 72) (by decide)) ?_
            refine c_iload rfl ?_
            refine c_ald (fun _ C l9 i9 => (fun z => ⟨z.1, z.2.trans (show _ = F 25 c from rfl)⟩) (C.an (k := 6) (K := 25) (n := 72) (by decide) i9 (ofN (by omega)).2)) (fun p15 => ?_)
            refine c_aload rfl ?_
            refine c_gfr (fun _ C _ => C.ar (k := 12) (K := 31) (n := 36) (by decide)) ?_
            refine c_aload rfl ?_
            refine c_gfr (fun _ C _ => C.ar (k := 40) (K := 58) (n := 72) (by decide)) ?_
            refine c_iload rfl ?_
            refine c_ald (fun _ C l9 i9 => (fun z => ⟨z.1, z.2.trans (show _ = F 58 c from rfl)⟩) (C.an (k := 40) (K := 58) (n := 72) (by decide) i9 (ofN (by omega)).2)) (fun p16 => ?_)
            refine c_ald (fun _ C l9 i9 => (fun z => ⟨z.1, z.2.trans (show _ = F 31 (F 58 c).toNatClampNeg from rfl)⟩) (C.an (k := 12) (K := 31) (n := 36) (by decide) i9 rfl)) (fun p17 => ?_)
            refine c_bin rfl ?_
            refine c_ast (fun _ C l9 i9 => C.sn (k := 6) (K := 25) (n := 72) (by decide) i9 (ofN (by omega)).2) (fun p18 => ?_)
            refine c_goto ?_
            refine BC.blk c126_131 (fun m12 hm12 => ?_)
            refine c_goto ?_
            refine BC.blk c126_170 (fun m13 hm13 => ?_)
            exact c_ret ⟨rfl, by rw [vps_5 S hc d2, vtalk_a S hc d2 d3, if_pos ⟨Int.not_le.mp d6, Int.not_lt.mp d7⟩]; exact S.tk2 hc d2, fun _ => rfl⟩
  · skip
    refine c_aload rfl ?_
    refine c_gfr (fun _ C _ => C.ar (k := 38) (K := 56) (n := 72) (by decide)) ?_
    refine c_iload rfl ?_
    refine c_dup2 ?_
    refine c_ald (fun _ C l9 i9 => C.an (k := 38) (K := 56) (n := 72) (by decide) i9 (ofN (by omega)).2) (fun p19 => ?_)
    refine c_iconst ?_
    refine c_bin rfl ?_
    refine c_ast (fun _ C l9 i9 => C.sn (k := 38) (K := 56) (n := 72) (by decide) i9 (ofN (by omega)).2) (fun p20 => ?_)
    refine c_aload rfl ?_
    refine c_gfr (fun _ C _ => C.ar (k := 38) (K := 56) (n := 72) (by decide)) ?_
    refine c_iload rfl ?_
    refine c_ald (fun _ C l9 i9 => (fun z => ⟨z.1, z.2.trans u2_eq⟩) (C.an (k := 38) (K := 56) (n := 72) (by decide) i9 (ofN (by omega)).2)) (fun p21 => ?_)
    refine c_iconst ?_
    refine c_icmp_ne (fun d8 => ?_) (fun d8 => ?_)
    · skip
      refine BC.blk c126_170 (fun m14 hm14 => ?_)
      have b6 := ((S.pl hc).2.2.2.2.2.2.2.2.2.2.2.2.1 d1).2.2.1
      have i6 : (F 56 c + 1).toInt = (F 56 c).toInt + 1 := i32_add (by show _ ≤ _ + (1 : Int); omega) (by show _ + (1 : Int) < _; omega)
      have n6 : ¬ (F 56 c + 1).toInt = 20 := fun z => d8 (i32_eq.mpr z)
      exact c_ret ⟨rfl, by rw [vps_1 S hc d1, if_pos (by omega)]; exact S.wt1 hc d1 (by omega), fun _ => rfl⟩
    · skip
      refine c_aload rfl ?_
      refine c_iload rfl ?_
      refine c_iconst ?_
      refine c_callv mr_rs (e105 (F := x_u2 F 56 c (F 56 c + 1)) hc (S.1.hlv hc) (S.1.h16 hc) S.1.hjv) (fun w t1 p => ?_) (fun k t1 p => by cases p.1)
      obtain ⟨e9, ⟨t2, hen, rfl⟩⟩ := p
      cases e9
      refine c_goto ?_
      refine BC.blk c126_170 (fun m15 hm15 => ?_)
      have b6 := ((S.pl hc).2.2.2.2.2.2.2.2.2.2.2.2.1 d1).2.2.1
      have i6 : (F 56 c + 1).toInt = (F 56 c).toInt + 1 := i32_add (by show _ ≤ _ + (1 : Int); omega) (by show _ + (1 : Int) < _; omega)
      have n6 : (F 56 c + 1).toInt = 20 := by rw [d8]; rfl
      exact c_ret ⟨rfl, by rw [vps_1 S hc d1, if_neg (by omega)]; exact S.wt2 hc d1 hen, fun i => by rw [u2_ne (by decide), u2_ne (by decide), hen.k (by omega)]; rfl⟩
