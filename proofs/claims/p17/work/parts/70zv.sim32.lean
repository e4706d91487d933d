/-! A JOB DONE -/
theorem dvl_1 {g : Nat → Int32} : ∀ (q : Nat), (∀ i, i < q → 0 ≤ (g i).toInt ∧ (g i).toInt ≤ 9) → 1 ≤ dvl g q
  | 0, _ => Int.le_refl 1
  | q + 1, h => by
    have := dvl_1 q (fun i hi => h i (by omega))
    have h2 := h q (by omega)
    show 1 ≤ dvl g q * 10 + (g q).toInt
    omega
theorem dv10_v {g : Nat → Int32} : ∀ (k q : Nat) (x : Int32), k ≤ q → (∀ i, i < q → 0 ≤ (g i).toInt ∧ (g i).toInt ≤ 9) → x.toInt = dvl g q → (dv10 k x).toInt = dvl g (q - k)
  | 0, q, x, _, _, h => h
  | k + 1, 0, x, h, _, _ => absurd h (by omega)
  | k + 1, q + 1, x, hk, hd, hx => by
    have h1 := dvl_1 (q + 1) hd
    have e : (x / 10).toInt = dvl g q := by
      rw [i32_div (by omega) (by decide), hx, show (10 : Int32).toInt = 10 from rfl]
      exact dvl_d (hd q (by omega))
    have := dv10_v k q (x / 10) (by omega) (fun i hi => hd i (by omega)) e
    rw [show q + 1 - (k + 1) = q - k by omega]
    exact this
theorem lbh_e {g : Nat → Int32} {q s : Nat} {X w : Int32} (hd : ∀ i, i < q → 0 ≤ (g i).toInt ∧ (g i).toInt ≤ 9) (hX : X.toInt = dvl g q) (hw : w.toInt = (q : Int) - s) (hs : s + 2 ≤ q) : (lbh X w).toInt = 10 * (g s).toInt + (g (s + 1)).toInt := by
  have e := dv10_v (q - s - 2) q X (by omega) hd hX
  rw [show q - (q - s - 2) = s + 2 by omega] at e
  have h1 := dvl_1 (g := g) s (fun i hi => hd i (by omega))
  have h2 := hd s (by omega)
  have h3 := hd (s + 1) (by omega)
  have e2 : dvl g (s + 2) = (dvl g s * 10 + (g s).toInt) * 10 + (g (s + 1)).toInt := rfl
  unfold lbh
  rw [show (w.toInt - 2).toNat = q - s - 2 by omega, i32_rem (by omega) (by decide), e, e2, show (100 : Int32).toInt = 100 from rfl]
  omega
section XDJ
variable {D : Int} {v : vS} {F t : xF} {o c : Nat}
theorem Sim.jdrop {W : List Int32} (S : Sim D v F) (ho : o < 3) (hc : c < 72) (hW : v.2.2.1 (30 * o + 2) = Int32.ofNat c :: W) (R : DJ F c (fun o => v.2.2.1 (30 * o + 2)) t) : Sim D (vj1 v (o + 1) (Int32.ofNat c)) t ∧ t 47 c = 2 ∧ t 50 c = Int32.ofNat o ∧ ∀ o', o' < 3 → Int32.ofNat c ∉ (vj1 v (o + 1) (Int32.ofNat c)).2.2.1 (30 * o' + 2) := by
  obtain ⟨c', b1, b2, -, b4, b5, -⟩ := (S.1.jq o ho).2.2.2 (Int32.ofNat c) (by rw [hW]; exact List.mem_cons_self)
  have := ofN_inj (by omega) (by omega) b2
  subst this
  have hn : ∀ o', o' < 3 → o' ≠ o → Int32.ofNat c ∉ v.2.2.1 (30 * o' + 2) := fun o' ho' ne hm => by
    obtain ⟨c', d1, d2, -, d4, d5, -⟩ := (S.1.jq o' ho').2.2.2 _ hm
    have := ofN_inj (by omega) (by omega) d2
    subst this
    exact ne (ofN_inj (by omega) (by omega) (d5.symm.trans b5))
  refine ⟨⟨S.1.drop ho hn R, fun c' l h1 h2 => ?_, fun c' h1 h5 h6 => ?_⟩, (R.1 47 c (by decide) (by decide)).trans b4, (R.1 50 c (by decide) (by decide)).trans b5, fun o' ho' => ?_⟩
  · rw [R.1 57 c' (by decide) (by decide), R.1 28 l (by decide) (by decide)]
    exact S.2.1 c' l h1 h2
  · rw [R.1 47 c' (by decide) (by decide)] at h5
    rw [R.1 57 c' (by decide) (by decide), R.1 22 _ (by decide) (by decide)] at h6
    rw [R.1 62 c' (by decide) (by decide)]
    exact S.2.2 c' h1 h5 h6
  · show Int32.ofNat c ∉ x_u1 v.2.2.1 (30 * o + 2) (rdel (v.2.2.1 (30 * o + 2)) (Int32.ofNat c)) (30 * o' + 2)
    by_cases z : o' = o
    · subst z
      rw [u1_eq]
      unfold rdel
      intro hm
      have := (List.mem_filter.mp hm).2
      simp at this
    · rw [u1_ne (by omega)]
      exact hn o' ho' z
theorem r121 {x : Int32} (S : Sim D v F) (ho : o < 3) (hc : c < 72) (h47 : F 47 c = 2) (h50 : F 50 c = Int32.ofNat o) (nj : ∀ o', o' < 3 → Int32.ofNat c ∉ v.2.2.1 (30 * o' + 2)) (hx0 : 0 ≤ x.toInt) : EC MR 121 [rf 8 1, .inl (Int32.ofNat c), .inl (Int32.ofNat o), .inl x] F (fun o9 t => o9 = ov ∧ Sim D (vcall v (o + 1) (c + 1) x) t ∧ ∀ i, i < 3 → t 8 i = F 8 i) := by
  by_cases h : c / 24 = o
  · obtain ⟨a, ha, rfl⟩ : ∃ a, a < 24 ∧ c = 24 * o + a := ⟨c % 24, by omega, by omega⟩
    exact r121a S ho ha h47 h50 nj hx0
  · exact r121b S ho hc h h47 h50 nj hx0
theorem r123 {k m N : Nat} (S : Sim D v F) (ho : o < 3) (hc : c < 72) (hk : k < 12) (h47 : F 47 c = 2) (h50 : F 50 c = Int32.ofNat o) (nj : ∀ o', o' < 3 → Int32.ofNat c ∉ v.2.2.1 (30 * o' + 2)) (HR : RTE v F m (12 * o + k)) (hN : (v.2.2.1 (90 + m)).length = N) (h48 : 1 ≤ (F 48 c).toInt) : EC MR 123 [rf 8 1, .inl (Int32.ofNat c), .inl (Int32.ofNat o), .inl (Int32.ofNat (12 * o + k))] F (fun o9 t => o9 = ov ∧ Sim D (vsn (o + 1) (c + 1) m N v 0) t ∧ ∀ i, i < 3 → t 8 i = F 8 i) := by
  by_cases h : c / 24 = o
  · obtain ⟨a, ha, rfl⟩ : ∃ a, a < 24 ∧ c = 24 * o + a := ⟨c % 24, by omega, by omega⟩
    exact r123a S ho ha hk h47 h50 nj HR hN h48
  · exact r123b S ho hc h hk h47 h50 nj HR hN h48
theorem vdoj_e {W : List Int32} (hc : c < 72) (hW : v.2.2.1 (30 * o + 2) = Int32.ofNat c :: W) : vdoj v (o + 1) = vdj (vj1 v (o + 1) (Int32.ofNat c)) (o + 1) (Int32.ofNat c) := by
  have er : rat (v.2.2.1 (30 * (o + 1 - 1) + 2)) 0 = Int32.ofNat c := by
    show rat (v.2.2.1 (30 * o + 2)) 0 = _
    rw [hW]
    rfl
  have oc := ofN (n := c) (by omega)
  unfold vdoj
  rw [er, if_neg (by omega)]
theorem vdj_0 (hc : c < 72) (h : rof v (o + 1) (v.1 1 6 (c + 1)) = none) : vdj v (o + 1) (Int32.ofNat c) = vend v (c + 1) 5 := by
  have oc := ofN (n := c) (by omega)
  unfold vdj vjm
  rw [oc.2, h]
  exact if_pos (Or.inl rfl)
theorem vdj_k {k : Nat} (hc : c < 72) (h : rof v (o + 1) (v.1 1 6 (c + 1)) = some k) (hm : ¬ v.2.1 18 (o + 1) k = 0) : vdj v (o + 1) (Int32.ofNat c) = if (dbh v (v.2.1 18 (o + 1) k) (v.1 1 6 (c + 1))).toInt < 2 then vend v (c + 1) 5 else if v.1 4 1 (v.2.1 18 (o + 1) k) = 0 then vsn (o + 1) (c + 1) (v.2.1 18 (o + 1) k) (v.2.2.1 (v.2.1 4 2 (v.2.1 18 (o + 1) k))).length v 0 else vcall v (o + 1) (c + 1) (lbh (v.1 1 6 (c + 1)) (dbh v (v.2.1 18 (o + 1) k) (v.1 1 6 (c + 1)))) := by
  have oc := ofN (n := c) (by omega)
  have em : vjm v (o + 1) (Int32.ofNat c) = v.2.1 18 (o + 1) k := by
    unfold vjm
    rw [oc.2, h]
    rfl
  unfold vdj
  rw [oc.2, em]
  by_cases z : (dbh v (v.2.1 18 (o + 1) k) (v.1 1 6 (c + 1))).toInt < 2
  · rw [if_pos (Or.inr z), if_pos z]
  · rw [if_neg (fun y => y.elim hm z), if_neg z]
end XDJ
theorem r124 {D : Int} {v : vS} {F : xF} {o c : Nat} {W : List Int32} (S : Sim D v F) (ho : o < 3) (hc : c < 72) (hW : v.2.2.1 (30 * o + 2) = Int32.ofNat c :: W) : EC MR 124 [rf 8 1, .inl (Int32.ofNat o)] F (fun o9 t => o9 = ov ∧ Sim D (vdoj v (o + 1)) t ∧ ∀ i, i < 3 → t 8 i = F 8 i) := by
  have e46 : F 46 (72 * o) = Int32.ofNat c := by
    have := (S.1.jq o ho).1.2 0 (Int32.ofNat c) (by rw [hW]; rfl)
    rw [Nat.add_zero] at this
    exact this
  rw [vdoj_e hc hW]
  refine EC.mk (fun n0 => ?_)
  show BC _ n0 124 0 [rf 8 1, .inl (Int32.ofNat o), rf 0 0, rf 0 0, rf 0 0] [] _ _
  refine BC.blk c124_0 (fun m1 hm1 => ?_)
  refine c_aload rfl ?_
  refine c_gfr (fun _ C _ => C.ar (k := 28) (K := 46) (n := 216) (by decide)) ?_
  refine c_iconst ?_
  refine c_iload rfl ?_
  refine c_bin (ofN_mul (72) (o)) ?_
  refine c_ald (fun _ C l9 i9 => (fun z => ⟨z.1, z.2.trans e46⟩) (C.an (k := 28) (K := 46) (n := 216) (by decide) i9 (ofN (by omega)).2)) (fun p1 => ?_)
  refine c_istore rfl ?_
  refine c_aload rfl ?_
  refine c_iload rfl ?_
  refine c_callv mr_rs (e102 hc S.1.hjv) (fun w t1 p => ?_) (fun k t1 p => by cases p.1)
  obtain ⟨e9, hdj⟩ := p
  cases e9
  have JD := S.jdrop ho hc hW hdj
  obtain ⟨S1, h47, h50, nj⟩ := JD
  obtain ⟨q, dg, hX⟩ := S1.nr hc (by rw [h47]; decide)
  obtain ⟨N, hRN, hrc, hRT, hOV⟩ := S1.1.rn ho
  have q5 := dg.1
  have N12 := hRN.1
  have oq := ofN (n := q) (by omega)
  have f8 : ∀ i, t1 8 i = F 8 i := fun i => hdj.1 8 i (by decide) (by decide)
  refine c_aload rfl ?_
  refine c_iload rfl ?_
  refine c_iload rfl ?_
  refine p_callv mr_rs (e114 hc ho dg hRN) (fun r pf => ?_)
  have re := rof_e hrc hRT hOV dg.1 dg.2.2 hX pf
  refine c_istore rfl ?_
  refine c_iload rfl ?_
  refine c_if_lt (fun d1 => ?_) (fun d1 => ?_)
  · skip
    refine BC.blk c124_46 (fun m2 hm2 => ?_)
    refine c_aload rfl ?_
    refine c_iload rfl ?_
    refine c_iconst ?_
    refine c_callv mr_rs (e105 hc (S1.1.hlv hc) (S1.1.h16 hc) S1.1.hjv) (fun w t3 p => ?_) (fun k t3 p => by cases p.1)
    obtain ⟨e9, ⟨t2, hen, rfl⟩⟩ := p
    cases e9
    refine c_goto ?_
    refine BC.blk c124_116 (fun m3 hm3 => ?_)
    have e8 : ∀ i, x_u2 (x_u2 t2 57 c (-1)) 23 c 5 8 i = F 8 i := fun i => by rw [u2_ne (by decide), u2_ne (by decide), hen.k (by omega), f8]
    refine c_ret ⟨rfl, ?_, fun i _ => e8 i⟩
    rw [vdj_0 hc (re.elim (fun w => w.2.1) (fun ⟨k2, h1, h2, _⟩ => absurd d1 (by rw [h2, (ofN (n := 12 * o + k2) (by omega)).1]; omega)))]
    exact S1.fail hc (by rw [h47]; decide) (by rw [h47]; decide) hen
  · skip
    obtain ⟨k, k1, k2, kr, k3⟩ := re.elim (fun w => absurd (show r.toInt < 0 by rw [w.1]; decide) d1) id
    subst k2
    have sb := szN_b (t1 30 (12 * o + k)).toInt
    have o2 := ofN (n := szN (t1 30 (12 * o + k)).toInt + 2) (by omega)
    have hR1 := hRT k k1
    have hdb := dbh_e (v := (vj1 v (o + 1) (Int32.ofNat c))) dg.1 dg.2.2 hX (congrArg Int32.toInt hR1.2.1) hR1.2.2.1
    have hm0 : ¬ (vj1 v (o + 1) (Int32.ofNat c)).2.1 18 (o + 1) k = 0 := by have := hR1.1.1; omega
    refine c_aload rfl ?_
    refine c_gfr (fun _ C _ => C.ar (k := 30) (K := 48) (n := 72) (by decide)) ?_
    refine c_iload rfl ?_
    refine c_ald (fun _ C l9 i9 => (fun z => ⟨z.1, z.2.trans dg.2.1⟩) (C.an (k := 30) (K := 48) (n := 72) (by decide) i9 (ofN (by omega)).2)) (fun p2 => ?_)
    refine c_aload rfl ?_
    refine c_gfr (fun _ C _ => C.ar (k := 11) (K := 30) (n := 36) (by decide)) ?_
    refine c_iload rfl ?_
    refine c_ald (fun _ C l9 i9 => (fun z => ⟨z.1, z.2.trans (show _ = (t1 30 (12 * o + k)) from rfl)⟩) (C.an (k := 11) (K := 30) (n := 36) (by decide) i9 (ofN (by omega)).2)) (fun p3 => ?_)
    refine d_call mr_rs (show ED MR 95 [.inl (t1 30 (12 * o + k))] _ (oi (Int32.ofNat (szN (t1 30 (12 * o + k)).toInt))) _ from by rw [← szI]; exact e95) ?_
    refine c_iconst ?_
    refine c_bin (ofN_add ((szN (t1 30 (12 * o + k)).toInt)) (2)) ?_
    refine c_icmp_ge (fun d2 => ?_) (fun d2 => ?_)
    · skip
      refine BC.blk c124_55 (fun m4 hm4 => ?_)
      refine c_aload rfl ?_
      refine c_gfr (fun _ C _ => C.ar (k := 15) (K := 34) (n := 36) (by decide)) ?_
      refine c_iload rfl ?_
      refine c_ald (fun _ C l9 i9 => (fun z => ⟨z.1, z.2.trans (show _ = t1 34 (12 * o + k) from rfl)⟩) (C.an (k := 15) (K := 34) (n := 36) (by decide) i9 (ofN (by omega)).2)) (fun p4 => ?_)
      refine c_if_eq (fun d3 => ?_) (fun d3 => ?_)
      · skip
        refine BC.blk c124_109 (fun m5 hm5 => ?_)
        refine c_aload rfl ?_
        refine c_iload rfl ?_
        refine c_iload rfl ?_
        refine c_iload rfl ?_
        refine c_callv mr_rs (r123 S1 ho hc (by omega) h47 h50 nj (hRT k k1) rfl (by rw [dg.2.1, (ofN (n := q) (by omega)).1]; omega)) (fun w t2 p => ?_) (fun k t2 p => by cases p.1)
        obtain ⟨e9, ⟨S3, e80⟩⟩ := p
        cases e9
        refine c_goto ?_
        refine BC.blk c124_116 (fun m6 hm6 => ?_)
        refine c_ret ⟨rfl, ?_, fun i hi => (e80 i hi).trans (f8 i)⟩
        rw [vdj_k hc kr hm0, if_neg (by rw [hdb]; omega), if_pos (hR1.2.2.2.1.trans d3), hR1.2.2.2.2.2.2.1]
        exact S3
      · skip
        refine c_iconst ?_
        refine c_iload rfl ?_
        refine c_bin (ofN_mul (8) (c)) ?_
        refine c_aload rfl ?_
        refine c_gfr (fun _ C _ => C.ar (k := 11) (K := 30) (n := 36) (by decide)) ?_
        refine c_iload rfl ?_
        refine c_ald (fun _ C l9 i9 => (fun z => ⟨z.1, z.2.trans (show _ = (t1 30 (12 * o + k)) from rfl)⟩) (C.an (k := 11) (K := 30) (n := 36) (by decide) i9 (ofN (by omega)).2)) (fun p5 => ?_)
        refine d_call mr_rs (show ED MR 95 [.inl (t1 30 (12 * o + k))] _ (oi (Int32.ofNat (szN (t1 30 (12 * o + k)).toInt))) _ from by rw [← szI]; exact e95) ?_
        refine c_bin (ofN_add ((8 * c)) ((szN (t1 30 (12 * o + k)).toInt))) ?_
        refine c_istore rfl ?_
        have g1 := dg.2.2 (szN (t1 30 (12 * o + k)).toInt) (by omega)
        have g2 := dg.2.2 (szN (t1 30 (12 * o + k)).toInt + 1) (by omega)
        have m10 : (10 * t1 49 (8 * c + szN (t1 30 (12 * o + k)).toInt)).toInt = 10 * (t1 49 (8 * c + szN (t1 30 (12 * o + k)).toInt)).toInt := by rw [i32_mul (by show _ ≤ (10 : Int) * _; omega) (by show (10 : Int) * _ < _; omega)]; rfl
        have a10 : (10 * t1 49 (8 * c + szN (t1 30 (12 * o + k)).toInt) + t1 49 (8 * c + szN (t1 30 (12 * o + k)).toInt + 1)).toInt = 10 * (t1 49 (8 * c + szN (t1 30 (12 * o + k)).toInt)).toInt + (t1 49 (8 * c + (szN (t1 30 (12 * o + k)).toInt + 1))).toInt := by rw [i32_add (by rw [m10, Nat.add_assoc]; omega) (by rw [m10, Nat.add_assoc]; omega), m10, Nat.add_assoc]
        refine c_aload rfl ?_
        refine c_iload rfl ?_
        refine c_iload rfl ?_
        refine c_iconst ?_
        refine c_aload rfl ?_
        refine c_gfr (fun _ C _ => C.ar (k := 31) (K := 49) (n := 576) (by decide)) ?_
        refine c_iload rfl ?_
        refine c_ald (fun _ C l9 i9 => (fun z => ⟨z.1, z.2.trans (show _ = t1 49 (8 * c + szN (t1 30 (12 * o + k)).toInt) from rfl)⟩) (C.an (k := 31) (K := 49) (n := 576) (by decide) i9 (ofN (by omega)).2)) (fun p6 => ?_)
        refine c_bin rfl ?_
        refine c_aload rfl ?_
        refine c_gfr (fun _ C _ => C.ar (k := 31) (K := 49) (n := 576) (by decide)) ?_
        refine c_iload rfl ?_
        refine c_iconst ?_
        refine c_bin (ofN_add (((8 * c) + (szN (t1 30 (12 * o + k)).toInt))) (1)) ?_
        refine c_ald (fun _ C l9 i9 => (fun z => ⟨z.1, z.2.trans (show _ = t1 49 (8 * c + szN (t1 30 (12 * o + k)).toInt + 1) from rfl)⟩) (C.an (k := 31) (K := 49) (n := 576) (by decide) i9 (ofN (by omega)).2)) (fun p7 => ?_)
        refine c_bin rfl ?_
        refine c_callv mr_rs (r121 S1 ho hc h47 h50 nj (by omega)) (fun w t2 p => ?_) (fun k t2 p => by cases p.1)
        obtain ⟨e9, ⟨S3, e80⟩⟩ := p
        cases e9
        refine c_goto ?_
        refine BC.blk c124_116 (fun m7 hm7 => ?_)
        refine c_ret ⟨rfl, ?_, fun i hi => (e80 i hi).trans (f8 i)⟩
        rw [vdj_k hc kr hm0, if_neg (by rw [hdb]; omega), if_neg (fun z => d3 (hR1.2.2.2.1.symm.trans z)), show lbh ((vj1 v (o + 1) (Int32.ofNat c)).1 1 6 (c + 1)) (dbh (vj1 v (o + 1) (Int32.ofNat c)) ((vj1 v (o + 1) (Int32.ofNat c)).2.1 18 (o + 1) k) ((vj1 v (o + 1) (Int32.ofNat c)).1 1 6 (c + 1))) = 10 * t1 49 (8 * c + szN (t1 30 (12 * o + k)).toInt) + t1 49 (8 * c + szN (t1 30 (12 * o + k)).toInt + 1) from i32_eq.mpr (by rw [lbh_e (g := dgs t1 c) dg.2.2 hX hdb (by omega), a10])]
        exact S3
    · skip
      refine c_goto ?_
      refine BC.blk c124_46 (fun m8 hm8 => ?_)
      refine c_aload rfl ?_
      refine c_iload rfl ?_
      refine c_iconst ?_
      refine c_callv mr_rs (e105 hc (S1.1.hlv hc) (S1.1.h16 hc) S1.1.hjv) (fun w t3 p => ?_) (fun k t3 p => by cases p.1)
      obtain ⟨e9, ⟨t2, hen, rfl⟩⟩ := p
      cases e9
      refine c_goto ?_
      refine BC.blk c124_116 (fun m9 hm9 => ?_)
      have e8 : ∀ i, x_u2 (x_u2 t2 57 c (-1)) 23 c 5 8 i = F 8 i := fun i => by rw [u2_ne (by decide), u2_ne (by decide), hen.k (by omega), f8]
      refine c_ret ⟨rfl, ?_, fun i _ => e8 i⟩
      rw [vdj_k hc kr hm0, if_pos (by rw [hdb]; omega)]
      exact S1.fail hc (by rw [h47]; decide) (by rw [h47]; decide) hen
