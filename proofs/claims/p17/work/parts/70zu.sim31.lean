theorem r123b {D : Int} {v : vS} {F : xF} {o c k m N : Nat} (S : Sim D v F) (ho : o < 3) (hc : c < 72) (hco : ¬ c / 24 = o) (hk : k < 12) (h47 : F 47 c = 2) (h50 : F 50 c = Int32.ofNat o) (nj : ∀ o', o' < 3 → Int32.ofNat c ∉ v.2.2.1 (30 * o' + 2)) (HR : RTE v F m (12 * o + k)) (hN : (v.2.2.1 (90 + m)).length = N) (h48 : 1 ≤ (F 48 c).toInt) : EC MR 123 [rf 8 1, .inl (Int32.ofNat c), .inl (Int32.ofNat o), .inl (Int32.ofNat (12 * o + k))] F (fun o9 t => o9 = ov ∧ Sim D (vsn (o + 1) (c + 1) m N v 0) t ∧ ∀ i, i < 3 → t 8 i = F 8 i) := by
  refine EC.mk (fun n0 => ?_)
  show BC _ n0 123 0 [rf 8 1, .inl (Int32.ofNat c), .inl (Int32.ofNat o), .inl (Int32.ofNat (12 * o + k)), rf 0 0, rf 0 0, rf 0 0, rf 0 0, rf 0 0] [] _ _
  refine BC.blk c123_0 (fun m1 hm1 => ?_)
  refine c_iload rfl ?_
  refine c_iconst ?_
  refine c_idiv (ofN_div (a := c) (b := 24) (by omega) (by omega) (by omega)) ?_
  refine c_iload rfl ?_
  refine c_icmp_ne (fun d1 => ?_) (fun d1 => ?_)
  · skip
    refine BC.blk c123_12 (fun m2 hm2 => ?_)
    refine c_iconst ?_
    refine c_goto ?_
    refine BC.blk c123_13 (fun m3 hm3 => ?_)
    refine c_istore rfl ?_
    refine c_iconst ?_
    refine c_istore rfl ?_
    refine c_goto ?_
    have lp18 : ∀ (n : Nat) (i : Nat) (cw : vS) (t : xF) (z6 z7 z8 : xV), i ≤ N → Sim D cw t → t 47 c = 2 → t 50 c = Int32.ofNat o → (∀ o', o' < 3 → Int32.ofNat c ∉ cw.2.2.1 (30 * o' + 2)) → RTE cw t m (12 * o + k) → (cw.2.2.1 (90 + m)).length = N → 1 ≤ (t 48 c).toInt → (∀ i, i < 3 → t 8 i = F 8 i) → BC MR n 123 18 [rf 8 1, .inl (Int32.ofNat c), .inl (Int32.ofNat o), .inl (Int32.ofNat (12 * o + k)), .inl 0, .inl (Int32.ofNat i), z6, z7, z8] [] t (fun o9 t' => o9 = ov ∧ Sim D (vsn (o + 1) (c + 1) m (N - i) cw i) t' ∧ ∀ i, i < 3 → t' 8 i = F 8 i) := by
      intro n18
      induction n18 using Nat.strongRecOn with
      | ind n18 ih18 =>
        intro i cw t z6 z7 z8 hi S h47 h50 nj HR hN h48 h80
        have hN3 : N ≤ 3 := by have := HR.2.2.2.2.2.2.2.2.1; omega
        have oi := ofN (n := i) (by omega)
        have oN := ofN (n := N) (by omega)
        have h33 : t 33 (12 * o + k) = Int32.ofNat N := by rw [← hN]; exact HR.2.2.2.2.2.2.2.1.1
        refine BC.blk c123_18 (fun m4 hm4 => ?_)
        refine c_iload rfl ?_
        refine c_aload rfl ?_
        refine c_gfr (fun _ C _ => C.ar (k := 14) (K := 33) (n := 36) (by decide)) ?_
        refine c_iload rfl ?_
        refine c_ald (fun _ C l9 i9 => (fun z => ⟨z.1, z.2.trans h33⟩) (C.an (k := 14) (K := 33) (n := 36) (by decide) i9 (ofN (by omega)).2)) (fun p1 => ?_)
        refine c_icmp_ge (fun d2 => ?_) (fun d2 => ?_)
        · skip
          refine BC.blk c123_257 (fun m5 hm5 => ?_)
          refine c_aload rfl ?_
          refine c_iload rfl ?_
          refine c_iconst ?_
          refine c_callv mr_rs (e105 hc (S.1.hlv hc) (S.1.h16 hc) S.1.hjv) (fun w t1 p => ?_) (fun k t1 p => by cases p.1)
          obtain ⟨e9, ⟨t2, hen, rfl⟩⟩ := p
          cases e9
          have e8 : ∀ i, x_u2 (x_u2 t2 57 c (-1)) 23 c 4 8 i = t 8 i := fun i => by rw [u2_ne (by decide), u2_ne (by decide), hen.k (by omega)]
          refine c_ret ⟨rfl, ?_, fun i hi => (e8 i).trans (h80 i hi)⟩
          rw [vsn_end (by omega)]
          exact S.fail hc (by rw [h47]; decide) (by rw [h47]; decide) hen
        · skip
          obtain ⟨n1, hn1, hno, e35, erat⟩ := HR.it hk hN (show i < N by omega)
          have on1 := ofN (n := n1) (by omega)
          have hv := S.vis hc h47 hn1
          have b1 := (bits ((S.pl hc).2.2.2.2.2.2.2.2.2.2.1 (by rw [h47]; decide)).2.2.2.1 hn1).1
          refine c_aload rfl ?_
          refine c_gfr (fun _ C _ => C.ar (k := 16) (K := 35) (n := 108) (by decide)) ?_
          refine c_iconst ?_
          refine c_iload rfl ?_
          refine c_bin (ofN_mul (3) ((12 * o + k))) ?_
          refine c_iload rfl ?_
          refine c_bin (ofN_add ((3 * (12 * o + k))) (i)) ?_
          refine c_ald (fun _ C l9 i9 => (fun z => ⟨z.1, z.2.trans e35⟩) (C.an (k := 16) (K := 35) (n := 108) (by decide) i9 (ofN (by omega)).2)) (fun p2 => ?_)
          refine c_istore rfl ?_
          refine c_aload rfl ?_
          refine c_gfr (fun _ C _ => C.ar (k := 37) (K := 55) (n := 72) (by decide)) ?_
          refine c_iload rfl ?_
          refine c_ald (fun _ C l9 i9 => (fun z => ⟨z.1, z.2.trans (show _ = t 55 c from rfl)⟩) (C.an (k := 37) (K := 55) (n := 72) (by decide) i9 (ofN (by omega)).2)) (fun p3 => ?_)
          refine c_iload rfl ?_
          refine c_bin rfl ?_
          refine c_iconst ?_
          refine c_bin rfl ?_
          refine c_iconst ?_
          refine c_icmp_ne (fun d3 => ?_) (fun d3 => ?_)
          · skip
            refine BC.blk c123_60 (fun m6 hm6 => ?_)
            have nb : ¬ hbit (t 55 c) n1 := fun z => d3 (b1.mpr z)
            have hvt := hv.mpr nb
            refine c_aload rfl ?_
            refine c_iload rfl ?_
            refine c_iload rfl ?_
            refine p_callv mr_rs (e122 S.1.tr.2.2.1 S.1.tr.1) (fun tx ht => ?_)
            have ft := S.1.ftrk (fun z => hno (ofN_inj (by omega) (by omega) z).symm) ht
            refine c_istore rfl ?_
            refine c_iload rfl ?_
            refine c_if_ge (fun d4 => ?_) (fun d4 => ?_)
            · skip
              refine BC.blk c123_92 (fun m7 hm7 => ?_)
              obtain ⟨kt, hkt, etx, eft, hkd⟩ := ft.elim (fun z => absurd d4 (by rw [z.1]; decide)) id
              subst etx
              have hT16 := S.1.tr.1
              refine c_aload rfl ?_
              refine c_iload rfl ?_
              refine p_callv mr_rs (e107 hn1) (fun rx hr => ?_)
              have fr := S.1.freg hn1 hr
              refine c_istore rfl ?_
              refine c_iload rfl ?_
              refine c_if_lt (fun d5 => ?_) (fun d5 => ?_)
              · skip
                refine BC.blk c123_251 (fun m8 hm8 => ?_)
                refine c_iincN (i := i) (k := 1) rfl rfl rfl ?_
                refine c_goto ?_
                have vr : von cw (o + 1) (c + 1) (n1 + 1) = _ := von_r (by omega) eft (fr.elim (fun z => z.2) (fun ⟨k, _, z, _⟩ => absurd d5 (by rw [z, (ofN (n := k) (by omega)).1]; omega)))
                rw [vsn_fl (show i < N by omega) erat hvt (by rw [on1.2, vr]), on1.2, vr]
                exact ih18 m8 (by omega) (i + 1) _ _ _ _ _ (by omega) S h47 h50 nj HR hN h48 h80
              · skip
                obtain ⟨q, hq, erx, efr, hqd⟩ := fr.elim (fun z => absurd (show rx.toInt < 0 by rw [z.1]; decide) d5) id
                subst erx
                have hln : (cw.2.2.1 (ri c)).length < 5 := by
                  obtain ⟨-, -, -, -, -, -, -, -, -, -, p11, p12, -⟩ := S.pl hc
                  have h1 := (p12 (by rw [h47]; decide) (by rw [h47]; decide)).2.2.1
                  have h2 := bits (p11 (by rw [h47]; decide)).2.2.2.1 hn1
                  have h3 := h2.2.2.1 nb
                  have h4 := mpop_3 ⟨h2.2.2.2.1, h2.2.2.2.2.1⟩
                  clear p11 p12 h2
                  omega
                refine c_iload rfl ?_
                refine c_if_eq (fun d6 => ?_) (fun d6 => ?_)
                · skip
                  refine BC.blk c123_126 (fun m9 hm9 => ?_)
                  refine c_iload rfl ?_
                  refine c_if_eq (fun d7 => ?_) (fun d7 => ?_)
                  · skip
                    refine BC.blk c123_170 (fun m10 hm10 => ?_)
                    have S2 := (S.1.opn (E' := fun y => y = c) (fun _ z => z.elim)).jn (J' := fun y => y = c) (fun y hy z _ => by subst z; exact nj)
                    obtain ⟨S5, K5, R5⟩ := S2.way2 (K1 := 41) (i1 := kt) (K2 := 38) (i2 := 3 * n1 + q) hc (by unfold slo; omega) hkd (by unfold slo; omega) hqd (by decide) (by omega)
                    have n63 : t 63 c = Int32.ofNat (cw.2.2.1 (ri c)).length := (S.1.hlv hc).1
                    refine c_aload rfl ?_
                    refine c_iload rfl ?_
                    refine c_iconst ?_
                    refine c_iload rfl ?_
                    refine c_bin (ofN_add (5000) (kt)) ?_
                    refine d_callv mr_rs (show ED MR 100 [rf 8 1, .inl (Int32.ofNat c), .inl (Int32.ofNat (5000 + kt))] _ ov (rseize t c (cw.2.2.1 (ri c)).length (Int32.ofNat (cdo 41 kt))) from by rw [cod_t]; exact e100 hc n63 (by omega)) ?_
                    refine c_aload rfl ?_
                    refine c_iload rfl ?_
                    refine c_iconst ?_
                    refine c_iload rfl ?_
                    refine c_bin (ofN_mul (1000) (n1)) ?_
                    refine c_iconst ?_
                    refine c_bin (ofN_add ((1000 * n1)) (30)) ?_
                    refine c_iload rfl ?_
                    refine c_bin (ofN_add (((1000 * n1) + 30)) (q)) ?_
                    refine d_callv mr_rs (show ED MR 100 [rf 8 1, .inl (Int32.ofNat c), .inl (Int32.ofNat (1000 * n1 + 30 + q))] _ ov (rseize (rseize t c (cw.2.2.1 (ri c)).length (Int32.ofNat (cdo 41 kt))) c ((cw.2.2.1 (ri c)).length + 1) (Int32.ofNat (cdo 38 (3 * n1 + q)))) from by rw [cod3 hq]; exact e100 hc rseize_63 (by omega)) ?_
                    refine c_aload rfl ?_
                    refine c_gfr (fun _ C _ => C.ar (k := 37) (K := 55) (n := 72) (by decide)) ?_
                    refine c_iload rfl ?_
                    refine c_aload rfl ?_
                    refine c_gfr (fun _ C _ => C.ar (k := 37) (K := 55) (n := 72) (by decide)) ?_
                    refine c_iload rfl ?_
                    refine c_ald (fun _ C l9 i9 => (fun z => ⟨z.1, z.2.trans (show _ = t 55 c from ((rseize_k (by omega)).trans (rseize_k (by omega))))⟩) (C.an (k := 37) (K := 55) (n := 72) (by decide) i9 (ofN (by omega)).2)) (fun p4 => ?_)
                    refine c_iconst ?_
                    refine c_iload rfl ?_
                    refine c_bin rfl ?_
                    refine c_bin rfl ?_
                    refine c_ast (fun _ C l9 i9 => C.sn (k := 37) (K := 55) (n := 72) (by decide) i9 (ofN (by omega)).2) (fun p5 => ?_)
                    refine c_aload rfl ?_
                    refine c_gfr (fun _ C _ => C.ar (k := 29) (K := 47) (n := 72) (by decide)) ?_
                    refine c_iload rfl ?_
                    refine c_iconst ?_
                    refine c_ast (fun _ C l9 i9 => C.sn (k := 29) (K := 47) (n := 72) (by decide) i9 (ofN (by omega)).2) (fun p6 => ?_)
                    refine c_aload rfl ?_
                    refine c_gfr (fun _ C _ => C.ar (k := 34) (K := 52) (n := 72) (by decide)) ?_
                    refine c_iload rfl ?_
                    refine c_aload rfl ?_
                    refine c_gfr (fun _ C _ => C.ar (k := 30) (K := 48) (n := 72) (by decide)) ?_
                    refine c_iload rfl ?_
                    refine c_ald (fun _ C l9 i9 => (fun z => ⟨z.1, z.2.trans (show _ = t 48 c from ((u2_ne (by decide)).trans ((u2_ne (by decide)).trans ((rseize_k (by omega)).trans (rseize_k (by omega))))))⟩) (C.an (k := 30) (K := 48) (n := 72) (by decide) i9 (ofN (by omega)).2)) (fun p7 => ?_)
                    refine c_ast (fun _ C l9 i9 => C.sn (k := 34) (K := 52) (n := 72) (by decide) i9 (ofN (by omega)).2) (fun p8 => ?_)
                    refine c_aload rfl ?_
                    refine c_gfr (fun _ C _ => C.ar (k := 35) (K := 53) (n := 72) (by decide)) ?_
                    refine c_iload rfl ?_
                    refine c_iload rfl ?_
                    refine c_ast (fun _ C l9 i9 => C.sn (k := 35) (K := 53) (n := 72) (by decide) i9 (ofN (by omega)).2) (fun p9 => ?_)
                    refine c_aload rfl ?_
                    refine c_gfr (fun _ C _ => C.ar (k := 36) (K := 54) (n := 72) (by decide)) ?_
                    refine c_iload rfl ?_
                    refine c_iload rfl ?_
                    refine c_ast (fun _ C l9 i9 => C.sn (k := 36) (K := 54) (n := 72) (by decide) i9 (ofN (by omega)).2) (fun p10 => ?_)
                    have ev := von_s (W := cw) (show vo1 cw (o + 1) (c + 1) = cw from if_neg (own_n hc ho hco)) (by omega) hq eft efr (fun z => own_n hc ho hco z.1)
                    have KS := KP.sent S S5 K5 hc h47 hn1 nb hq h48 ⟨[Int32.ofNat (cdo 41 kt)] ++ [Int32.ofNat (cdo 38 (3 * n1 + q))], by rw [R5]; simp, by simp⟩ (by rw [R5]; exact List.mem_append_right _ (List.mem_singleton.mpr rfl))
                    have e8 : ∀ i, True → (rseize (rseize t c (cw.2.2.1 (ri c)).length (Int32.ofNat (cdo 41 kt))) c ((cw.2.2.1 (ri c)).length + 1) (Int32.ofNat (cdo 38 (3 * n1 + q)))) 8 i = t 8 i := fun i h8 => (rseize_k (by omega)).trans (rseize_k (by omega))
                    have e9 : ∀ i, True → x_u2 (x_u2 (x_u2 (x_u2 (x_u2 (rseize (rseize t c (cw.2.2.1 (ri c)).length (Int32.ofNat (cdo 41 kt))) c ((cw.2.2.1 (ri c)).length + 1) (Int32.ofNat (cdo 38 (3 * n1 + q)))) 55 c (t 55 c ||| (1 <<< (Int32.ofNat n1 &&& 31)))) 47 c 3) 52 c (t 48 c)) 53 c (Int32.ofNat n1)) 54 c (Int32.ofNat q) 8 i = t 8 i := fun i h8 => ((u2_ne (by decide)).trans ((u2_ne (by decide)).trans ((u2_ne (by decide)).trans ((u2_ne (by decide)).trans ((u2_ne (by decide)).trans (e8 i h8))))))
                    refine c_ret ⟨rfl, ?_, fun i hi => (e9 i trivial).trans (h80 i hi)⟩
                    rw [vsn_ok (show i < N by omega) erat hvt (by rw [on1.2, ev]; exact fun z => absurd (show (1 : Int32) = 0 from z) (by decide)), on1.2, ev]
                    rw [show ∀ W : vS, ((1 : Int32), W).2 = W from fun _ => rfl, vsent_e (A := t 55 c) (X := cw.1 1 6 (c + 1)) (by rw [K5.1 8]; exact (S.pl hc).2.2.2.2.2.1.1) (by rw [K5.1 6]) (S.c48 hc (by rw [h47]; decide))]
                    exact KS
                  · exact absurd d7 (by decide)
                · exact absurd d6 (by decide)
            · skip
              refine c_aload rfl ?_
              refine c_gfr (fun _ C _ => C.ar (k := 26) (K := 44) (n := 9) (by decide)) ?_
              refine c_iconst ?_
              refine c_iload rfl ?_
              refine c_bin (ofN_mul (3) (o)) ?_
              refine c_iload rfl ?_
              refine c_bin (ofN_add ((3 * o)) (n1)) ?_
              refine c_dup2 ?_
              refine c_ald (fun _ C l9 i9 => C.an (k := 26) (K := 44) (n := 9) (by decide) i9 (ofN (by omega)).2) (fun p11 => ?_)
              refine c_iconst ?_
              refine c_bin rfl ?_
              refine c_ast (fun _ C l9 i9 => C.sn (k := 26) (K := 44) (n := 9) (by decide) i9 (ofN (by omega)).2) (fun p12 => ?_)
              refine c_goto ?_
              refine BC.blk c123_251 (fun m11 hm11 => ?_)
              refine c_iincN (i := i) (k := 1) rfl rfl rfl ?_
              refine c_goto ?_
              have vr : von cw (o + 1) (c + 1) (n1 + 1) = _ := von_t hn1 (ft.elim (fun z => z.2) (fun ⟨k, hk9, z, _⟩ => absurd (show 0 ≤ tx.toInt by rw [z, (ofN (n := k) (by have := S.1.tr.1; omega)).1]; omega) d4))
              rw [vsn_fl (show i < N by omega) erat hvt (by rw [on1.2, vr]), on1.2, vr]
              exact ih18 m11 (by omega) (i + 1) _ _ _ _ _ (by omega) ⟨S.1.ov8 ho hn1, S.2⟩ h47 h50 nj HR hN h48 h80
          · skip
            refine c_goto ?_
            refine BC.blk c123_251 (fun m12 hm12 => ?_)
            refine c_iincN (i := i) (k := 1) rfl rfl rfl ?_
            refine c_goto ?_
            rw [vsn_no (show i < N by omega) erat (Bool.eq_false_iff.mpr (fun z => hv.mp z (b1.mp d3)))]
            exact ih18 m12 (by omega) (i + 1) _ _ _ _ _ (by omega) S h47 h50 nj HR hN h48 h80
    exact lp18 m3 0 v F _ _ _ (by omega) S h47 h50 nj HR hN h48 (fun _ _ => rfl)
  · skip
    exact absurd (ofN_inj (by omega) (by omega) d1) hco
theorem r123a {D : Int} {v : vS} {F : xF} {o a k m N : Nat} (S : Sim D v F) (ho : o < 3) (ha : a < 24) (hk : k < 12) (h47 : F 47 (24 * o + a) = 2) (h50 : F 50 (24 * o + a) = Int32.ofNat o) (nj : ∀ o', o' < 3 → Int32.ofNat (24 * o + a) ∉ v.2.2.1 (30 * o' + 2)) (HR : RTE v F m (12 * o + k)) (hN : (v.2.2.1 (90 + m)).length = N) (h48 : 1 ≤ (F 48 (24 * o + a)).toInt) : EC MR 123 [rf 8 1, .inl (Int32.ofNat (24 * o + a)), .inl (Int32.ofNat o), .inl (Int32.ofNat (12 * o + k))] F (fun o9 t => o9 = ov ∧ Sim D (vsn (o + 1) ((24 * o + a) + 1) m N v 0) t ∧ ∀ i, i < 3 → t 8 i = F 8 i) := by
  have hc : 24 * o + a < 72 := by omega
  refine EC.mk (fun n0 => ?_)
  show BC _ n0 123 0 [rf 8 1, .inl (Int32.ofNat (24 * o + a)), .inl (Int32.ofNat o), .inl (Int32.ofNat (12 * o + k)), rf 0 0, rf 0 0, rf 0 0, rf 0 0, rf 0 0] [] _ _
  refine BC.blk c123_0 (fun m1 hm1 => ?_)
  refine c_iload rfl ?_
  refine c_iconst ?_
  refine c_idiv (ofN_div (a := (24 * o + a)) (b := 24) (by omega) (by omega) (by omega)) ?_
  refine c_iload rfl ?_
  refine c_icmp_ne (fun d1 => ?_) (fun d1 => ?_)
  · exact absurd (congrArg Int32.ofNat (show (24 * o + a) / 24 = o by omega)) d1
  · skip
    refine c_iconst ?_
    refine c_goto ?_
    refine BC.blk c123_13 (fun m2 hm2 => ?_)
    refine c_istore rfl ?_
    refine c_iconst ?_
    refine c_istore rfl ?_
    refine c_goto ?_
    have lp18 : ∀ (n : Nat) (i : Nat) (cw : vS) (t : xF) (z6 z7 z8 : xV), i ≤ N → Sim D cw t → t 47 (24 * o + a) = 2 → t 50 (24 * o + a) = Int32.ofNat o → (∀ o', o' < 3 → Int32.ofNat (24 * o + a) ∉ cw.2.2.1 (30 * o' + 2)) → RTE cw t m (12 * o + k) → (cw.2.2.1 (90 + m)).length = N → 1 ≤ (t 48 (24 * o + a)).toInt → (∀ i, i < 3 → t 8 i = F 8 i) → BC MR n 123 18 [rf 8 1, .inl (Int32.ofNat (24 * o + a)), .inl (Int32.ofNat o), .inl (Int32.ofNat (12 * o + k)), .inl 1, .inl (Int32.ofNat i), z6, z7, z8] [] t (fun o9 t' => o9 = ov ∧ Sim D (vsn (o + 1) ((24 * o + a) + 1) m (N - i) cw i) t' ∧ ∀ i, i < 3 → t' 8 i = F 8 i) := by
      intro n18
      induction n18 using Nat.strongRecOn with
      | ind n18 ih18 =>
        intro i cw t z6 z7 z8 hi S h47 h50 nj HR hN h48 h80
        have hN3 : N ≤ 3 := by have := HR.2.2.2.2.2.2.2.2.1; omega
        have oi := ofN (n := i) (by omega)
        have oN := ofN (n := N) (by omega)
        have h33 : t 33 (12 * o + k) = Int32.ofNat N := by rw [← hN]; exact HR.2.2.2.2.2.2.2.1.1
        obtain ⟨ρ, hρ4, hρ⟩ := S.1.rot ho
        refine BC.blk c123_18 (fun m3 hm3 => ?_)
        refine c_iload rfl ?_
        refine c_aload rfl ?_
        refine c_gfr (fun _ C _ => C.ar (k := 14) (K := 33) (n := 36) (by decide)) ?_
        refine c_iload rfl ?_
        refine c_ald (fun _ C l9 i9 => (fun z => ⟨z.1, z.2.trans h33⟩) (C.an (k := 14) (K := 33) (n := 36) (by decide) i9 (ofN (by omega)).2)) (fun p1 => ?_)
        refine c_icmp_ge (fun d2 => ?_) (fun d2 => ?_)
        · skip
          refine BC.blk c123_257 (fun m4 hm4 => ?_)
          refine c_aload rfl ?_
          refine c_iload rfl ?_
          refine c_iconst ?_
          refine c_callv mr_rs (e105 hc (S.1.hlv hc) (S.1.h16 hc) S.1.hjv) (fun w t1 p => ?_) (fun k t1 p => by cases p.1)
          obtain ⟨e9, ⟨t2, hen, rfl⟩⟩ := p
          cases e9
          have e8 : ∀ i, x_u2 (x_u2 t2 57 (24 * o + a) (-1)) 23 (24 * o + a) 4 8 i = t 8 i := fun i => by rw [u2_ne (by decide), u2_ne (by decide), hen.k (by omega)]
          refine c_ret ⟨rfl, ?_, fun i hi => (e8 i).trans (h80 i hi)⟩
          rw [vsn_end (by omega)]
          exact S.fail hc (by rw [h47]; decide) (by rw [h47]; decide) hen
        · skip
          obtain ⟨n1, hn1, hno, e35, erat⟩ := HR.it hk hN (show i < N by omega)
          have on1 := ofN (n := n1) (by omega)
          have hv := S.vis hc h47 hn1
          have b1 := (bits ((S.pl hc).2.2.2.2.2.2.2.2.2.2.1 (by rw [h47]; decide)).2.2.2.1 hn1).1
          refine c_aload rfl ?_
          refine c_gfr (fun _ C _ => C.ar (k := 16) (K := 35) (n := 108) (by decide)) ?_
          refine c_iconst ?_
          refine c_iload rfl ?_
          refine c_bin (ofN_mul (3) ((12 * o + k))) ?_
          refine c_iload rfl ?_
          refine c_bin (ofN_add ((3 * (12 * o + k))) (i)) ?_
          refine c_ald (fun _ C l9 i9 => (fun z => ⟨z.1, z.2.trans e35⟩) (C.an (k := 16) (K := 35) (n := 108) (by decide) i9 (ofN (by omega)).2)) (fun p2 => ?_)
          refine c_istore rfl ?_
          refine c_aload rfl ?_
          refine c_gfr (fun _ C _ => C.ar (k := 37) (K := 55) (n := 72) (by decide)) ?_
          refine c_iload rfl ?_
          refine c_ald (fun _ C l9 i9 => (fun z => ⟨z.1, z.2.trans (show _ = t 55 (24 * o + a) from rfl)⟩) (C.an (k := 37) (K := 55) (n := 72) (by decide) i9 (ofN (by omega)).2)) (fun p3 => ?_)
          refine c_iload rfl ?_
          refine c_bin rfl ?_
          refine c_iconst ?_
          refine c_bin rfl ?_
          refine c_iconst ?_
          refine c_icmp_ne (fun d3 => ?_) (fun d3 => ?_)
          · skip
            refine BC.blk c123_60 (fun m5 hm5 => ?_)
            have nb : ¬ hbit (t 55 (24 * o + a)) n1 := fun z => d3 (b1.mpr z)
            have hvt := hv.mpr nb
            refine c_aload rfl ?_
            refine c_iload rfl ?_
            refine c_iload rfl ?_
            refine p_callv mr_rs (e122 S.1.tr.2.2.1 S.1.tr.1) (fun tx ht => ?_)
            have ft := S.1.ftrk (fun z => hno (ofN_inj (by omega) (by omega) z).symm) ht
            refine c_istore rfl ?_
            refine c_iload rfl ?_
            refine c_if_ge (fun d4 => ?_) (fun d4 => ?_)
            · skip
              refine BC.blk c123_92 (fun m6 hm6 => ?_)
              obtain ⟨kt, hkt, etx, eft, hkd⟩ := ft.elim (fun z => absurd d4 (by rw [z.1]; decide)) id
              subst etx
              have hT16 := S.1.tr.1
              refine c_aload rfl ?_
              refine c_iload rfl ?_
              refine p_callv mr_rs (e107 hn1) (fun rx hr => ?_)
              have fr := S.1.freg hn1 hr
              refine c_istore rfl ?_
              refine c_iload rfl ?_
              refine c_if_lt (fun d5 => ?_) (fun d5 => ?_)
              · skip
                refine BC.blk c123_251 (fun m7 hm7 => ?_)
                refine c_iincN (i := i) (k := 1) rfl rfl rfl ?_
                refine c_goto ?_
                have vr : von cw (o + 1) ((24 * o + a) + 1) (n1 + 1) = _ := von_r (by omega) eft (fr.elim (fun z => z.2) (fun ⟨k, _, z, _⟩ => absurd d5 (by rw [z, (ofN (n := k) (by omega)).1]; omega)))
                rw [vsn_fl (show i < N by omega) erat hvt (by rw [on1.2, vr]), on1.2, vr]
                exact ih18 m7 (by omega) (i + 1) _ _ _ _ _ (by omega) S h47 h50 nj HR hN h48 h80
              · skip
                obtain ⟨q, hq, erx, efr, hqd⟩ := fr.elim (fun z => absurd (show rx.toInt < 0 by rw [z.1]; decide) d5) id
                subst erx
                have hln : (cw.2.2.1 (ri (24 * o + a))).length < 5 := by
                  obtain ⟨-, -, -, -, -, -, -, -, -, -, p11, p12, -⟩ := S.pl hc
                  have h1 := (p12 (by rw [h47]; decide) (by rw [h47]; decide)).2.2.1
                  have h2 := bits (p11 (by rw [h47]; decide)).2.2.2.1 hn1
                  have h3 := h2.2.2.1 nb
                  have h4 := mpop_3 ⟨h2.2.2.2.1, h2.2.2.2.2.1⟩
                  clear p11 p12 h2
                  omega
                refine c_iload rfl ?_
                refine c_if_eq (fun d6 => ?_) (fun d6 => ?_)
                · exact absurd d6 (by decide)
                · skip
                  refine c_aload rfl ?_
                  refine c_iload rfl ?_
                  refine c_iload rfl ?_
                  refine c_iconst ?_
                  refine c_irem (show _ = Int32.ofNat a from (ofN_rem (a := 24 * o + a) (b := 24) (by omega) (by omega) (by omega)).trans (congrArg _ (by omega))) ?_
                  refine c_iconst ?_
                  refine c_callv mr_rs (r119c (D := D) (v := cw) ho hρ hρ4 ha) (fun y t1 p => ?_) (fun k t1 p => by rcases p with ⟨e, -⟩ | ⟨_, -, -, -, e, -⟩ <;> cases e)
                  obtain ⟨b, e9, hA⟩ := wB (T := fun s => x_u2 t 8 47 (Int32.ofNat ((ρ + s) % 4))) p
                  cases e9
                  refine c_if_ne (fun d7 => ?_) (fun d7 => ?_)
                  · skip
                    refine BC.blk c123_126 (fun m8 hm8 => ?_)
                    refine c_iload rfl ?_
                    refine c_if_eq (fun d8 => ?_) (fun d8 => ?_)
                    · exact absurd d8 (by decide)
                    · skip
                      obtain ⟨s, hs, hA, hA1, e1⟩ := hA.elim (fun z => absurd z.1 d7) (fun z => z.2)
                      have S1 : Sim D cw t1 := by rw [e1]; exact S.f8 ⟨by decide, by decide⟩
                      have e47 : t1 8 47 = Int32.ofNat ((ρ + s) % 4) := by rw [e1, u2_eq]
                      have k1 : ∀ K i, (K ≠ 8 ∨ i ≠ 47) → t1 K i = t K i := fun K i h => by
                        rw [e1]
                        show x_u2 t 8 47 (Int32.ofNat ((ρ + s) % 4)) K i = _
                        unfold x_u2
                        rw [if_neg (by omega)]
                      have la := lkn_b (s := s) hρ4 ha
                      have eia : 12 * o + 4 * (a / 8) + (ρ + s) % 4 = 12 * o + lkn ρ a s := by show _ = 12 * o + (_ + _); omega
                      have hA' := hA
                      unfold FWB at hA'
                      rw [eia] at hA'
                      have S2 := (S1.1.opn (E' := fun y => y = 24 * o + a) (fun _ z => z.elim)).jn (J' := fun y => y = 24 * o + a) (fun y hy z _ => by subst z; exact nj)
                      obtain ⟨S3, K3, R3⟩ := S2.way1 (i := 12 * o + lkn ρ a s) (ρ := ((ρ + s) % 4 + 1) % 4) hc ho (by omega) (by rw [k1 36 _ (by omega)]; exact hA') (by omega) (by omega)
                      have nn : (vpi (vseize cw (24 * o + a + 1) (Int32.ofNat (cdo 36 (12 * o + lkn ρ a s)))) 3 8 (o + 1) (Int32.ofNat (((ρ + s) % 4 + 1) % 4))).2.2.2 = cw.2.2.2 := by
                        unfold vseize
                        show (hset cw _ _).2.2.2 = _
                        rw [hset_i.2]
                      have hsl : slo (cw.2.2.2 6) 36 (12 * o + lkn ρ a s) := by unfold slo; omega
                      have l3 : ((vpi (vseize cw (24 * o + a + 1) (Int32.ofNat (cdo 36 (12 * o + lkn ρ a s)))) 3 8 (o + 1) (Int32.ofNat (((ρ + s) % 4 + 1) % 4))).2.2.1 (ri (24 * o + a))).length = (cw.2.2.1 (ri (24 * o + a))).length + 1 := by rw [R3, List.length_append]; rfl
                      obtain ⟨S5, K5, R5⟩ := S3.way2 (K1 := 41) (i1 := kt) (K2 := 38) (i2 := 3 * n1 + q) hc (by rw [nn]; unfold slo; omega) (by rw [u2_ne (by decide), rseize_v hsl hT16 (by decide) (Or.inl (by decide)), k1 41 _ (by omega)]; exact hkd) (by unfold slo; omega) (by rw [u2_ne (by decide), rseize_v hsl hT16 (by decide) (Or.inl (by decide)), k1 38 _ (by omega)]; exact hqd) (by decide) (by omega)
                      rw [l3] at S5 K5
                      rw [R3] at R5
                      have KT : KP cw t cw t1 := ⟨fun _ => rfl, fun _ => rfl, fun _ _ _ => rfl, fun K i _ h => k1 K i (Or.inl h)⟩
                      have K5 := (KT.tr K3).tr K5
                      have n63 : t1 63 (24 * o + a) = Int32.ofNat (cw.2.2.1 (ri (24 * o + a))).length := (S1.1.hlv hc).1
                      refine c_aload rfl ?_
                      refine c_iload rfl ?_
                      refine c_iconst ?_
                      refine c_iload rfl ?_
                      refine c_bin (ofN_mul (1000) (o)) ?_
                      refine c_iconst ?_
                      refine c_iload rfl ?_
                      refine c_iconst ?_
                      refine c_irem (show _ = Int32.ofNat a from (ofN_rem (a := 24 * o + a) (b := 24) (by omega) (by omega) (by omega)).trans (congrArg _ (by omega))) ?_
                      refine c_iconst ?_
                      refine c_idiv (ofN_div (a := a) (b := 8) (by omega) (by omega) (by omega)) ?_
                      refine c_bin (ofN_mul (4) ((a / 8))) ?_
                      refine c_bin (ofN_add ((1000 * o)) ((4 * (a / 8)))) ?_
                      refine c_aload rfl ?_
                      refine c_gfi (fun _ C _ => (C.f _).trans e47) ?_
                      refine c_bin (ofN_add (((1000 * o) + (4 * (a / 8)))) (((ρ + s) % 4))) ?_
                      refine d_callv mr_rs (show ED MR 100 [rf 8 1, .inl (Int32.ofNat (24 * o + a)), .inl (Int32.ofNat (1000 * o + 4 * (a / 8) + (ρ + s) % 4))] _ ov (rseize t1 (24 * o + a) (cw.2.2.1 (ri (24 * o + a))).length (Int32.ofNat (cdo 36 (12 * o + lkn ρ a s)))) from by rw [cod_l hρ4 ha]; exact e100 hc n63 (by omega)) ?_
                      refine c_aload rfl ?_
                      refine c_gfr (fun _ C _ => C.ar (k := 25) (K := 43) (n := 3) (by decide)) ?_
                      refine c_iload rfl ?_
                      refine c_aload rfl ?_
                      refine c_gfi (fun _ C _ => (C.f _).trans ((rseize_k (by omega)).trans e47)) ?_
                      refine c_iconst ?_
                      refine c_bin (ofN_add (((ρ + s) % 4)) (1)) ?_
                      refine c_iconst ?_
                      refine c_irem (ofN_rem (a := (ρ + s) % 4 + 1) (b := 4) (by omega) (by omega) (by omega)) ?_
                      refine c_ast (fun _ C l9 i9 => C.sn (k := 25) (K := 43) (n := 3) (by decide) i9 (ofN (by omega)).2) (fun p4 => ?_)
                      refine c_goto ?_
                      refine BC.blk c123_170 (fun m9 hm9 => ?_)
                      refine c_aload rfl ?_
                      refine c_iload rfl ?_
                      refine c_iconst ?_
                      refine c_iload rfl ?_
                      refine c_bin (ofN_add (5000) (kt)) ?_
                      refine d_callv mr_rs (show ED MR 100 [rf 8 1, .inl (Int32.ofNat (24 * o + a)), .inl (Int32.ofNat (5000 + kt))] _ ov (rseize (x_u2 (rseize t1 (24 * o + a) (cw.2.2.1 (ri (24 * o + a))).length (Int32.ofNat (cdo 36 (12 * o + lkn ρ a s)))) 43 o (Int32.ofNat (((ρ + s) % 4 + 1) % 4))) (24 * o + a) ((cw.2.2.1 (ri (24 * o + a))).length + 1) (Int32.ofNat (cdo 41 kt))) from by rw [cod_t]; exact e100 hc ((u2_ne (by decide)).trans rseize_63) (by omega)) ?_
                      refine c_aload rfl ?_
                      refine c_iload rfl ?_
                      refine c_iconst ?_
                      refine c_iload rfl ?_
                      refine c_bin (ofN_mul (1000) (n1)) ?_
                      refine c_iconst ?_
                      refine c_bin (ofN_add ((1000 * n1)) (30)) ?_
                      refine c_iload rfl ?_
                      refine c_bin (ofN_add (((1000 * n1) + 30)) (q)) ?_
                      refine d_callv mr_rs (show ED MR 100 [rf 8 1, .inl (Int32.ofNat (24 * o + a)), .inl (Int32.ofNat (1000 * n1 + 30 + q))] _ ov (rseize (rseize (x_u2 (rseize t1 (24 * o + a) (cw.2.2.1 (ri (24 * o + a))).length (Int32.ofNat (cdo 36 (12 * o + lkn ρ a s)))) 43 o (Int32.ofNat (((ρ + s) % 4 + 1) % 4))) (24 * o + a) ((cw.2.2.1 (ri (24 * o + a))).length + 1) (Int32.ofNat (cdo 41 kt))) (24 * o + a) ((cw.2.2.1 (ri (24 * o + a))).length + 1 + 1) (Int32.ofNat (cdo 38 (3 * n1 + q)))) from by rw [cod3 hq]; exact e100 hc rseize_63 (by omega)) ?_
                      refine c_aload rfl ?_
                      refine c_gfr (fun _ C _ => C.ar (k := 37) (K := 55) (n := 72) (by decide)) ?_
                      refine c_iload rfl ?_
                      refine c_aload rfl ?_
                      refine c_gfr (fun _ C _ => C.ar (k := 37) (K := 55) (n := 72) (by decide)) ?_
                      refine c_iload rfl ?_
                      refine c_ald (fun _ C l9 i9 => (fun z => ⟨z.1, z.2.trans (show _ = t 55 (24 * o + a) from (K5.2.2.2 55 _ (by omega) (by decide)))⟩) (C.an (k := 37) (K := 55) (n := 72) (by decide) i9 (ofN (by omega)).2)) (fun p5 => ?_)
                      refine c_iconst ?_
                      refine c_iload rfl ?_
                      refine c_bin rfl ?_
                      refine c_bin rfl ?_
                      refine c_ast (fun _ C l9 i9 => C.sn (k := 37) (K := 55) (n := 72) (by decide) i9 (ofN (by omega)).2) (fun p6 => ?_)
                      refine c_aload rfl ?_
                      refine c_gfr (fun _ C _ => C.ar (k := 29) (K := 47) (n := 72) (by decide)) ?_
                      refine c_iload rfl ?_
                      refine c_iconst ?_
                      refine c_ast (fun _ C l9 i9 => C.sn (k := 29) (K := 47) (n := 72) (by decide) i9 (ofN (by omega)).2) (fun p7 => ?_)
                      refine c_aload rfl ?_
                      refine c_gfr (fun _ C _ => C.ar (k := 34) (K := 52) (n := 72) (by decide)) ?_
                      refine c_iload rfl ?_
                      refine c_aload rfl ?_
                      refine c_gfr (fun _ C _ => C.ar (k := 30) (K := 48) (n := 72) (by decide)) ?_
                      refine c_iload rfl ?_
                      refine c_ald (fun _ C l9 i9 => (fun z => ⟨z.1, z.2.trans (show _ = t 48 (24 * o + a) from ((u2_ne (by decide)).trans ((u2_ne (by decide)).trans (K5.2.2.2 48 _ (by omega) (by decide)))))⟩) (C.an (k := 30) (K := 48) (n := 72) (by decide) i9 (ofN (by omega)).2)) (fun p8 => ?_)
                      refine c_ast (fun _ C l9 i9 => C.sn (k := 34) (K := 52) (n := 72) (by decide) i9 (ofN (by omega)).2) (fun p9 => ?_)
                      refine c_aload rfl ?_
                      refine c_gfr (fun _ C _ => C.ar (k := 35) (K := 53) (n := 72) (by decide)) ?_
                      refine c_iload rfl ?_
                      refine c_iload rfl ?_
                      refine c_ast (fun _ C l9 i9 => C.sn (k := 35) (K := 53) (n := 72) (by decide) i9 (ofN (by omega)).2) (fun p10 => ?_)
                      refine c_aload rfl ?_
                      refine c_gfr (fun _ C _ => C.ar (k := 36) (K := 54) (n := 72) (by decide)) ?_
                      refine c_iload rfl ?_
                      refine c_iload rfl ?_
                      refine c_ast (fun _ C l9 i9 => C.sn (k := 36) (K := 54) (n := 72) (by decide) i9 (ofN (by omega)).2) (fun p11 => ?_)
                      have wy := wayB1 S.1 ho hρ hρ4 ha hs hA hA1
                      have ew : vo1 cw (o + 1) (24 * o + a + 1) = (vpi (vseize cw (24 * o + a + 1) (Int32.ofNat (cdo 36 (12 * o + lkn ρ a s)))) 3 8 (o + 1) (Int32.ofNat (((ρ + s) % 4 + 1) % 4))) := by
                        unfold vo1
                        rw [if_pos (own_e ha), wy, vlk_e (by omega), lkn_m, cod_L hρ4 ha]
                      have ev := von_s (W := vpi (vseize cw (24 * o + a + 1) (Int32.ofNat (cdo 36 (12 * o + lkn ρ a s)))) 3 8 (o + 1) (Int32.ofNat (((ρ + s) % 4 + 1) % 4))) (ew) (by omega) hq eft efr (fun z => ofN_m1 (by omega) (wy.symm.trans z.2))
                      have KS := KP.sent S S5 K5 hc h47 hn1 nb hq h48 ⟨[Int32.ofNat (cdo 36 (12 * o + lkn ρ a s))] ++ [Int32.ofNat (cdo 41 kt)] ++ [Int32.ofNat (cdo 38 (3 * n1 + q))], by rw [R5]; simp, by simp⟩ (by rw [R5]; exact List.mem_append_right _ (List.mem_singleton.mpr rfl))
                      have e8 : ∀ i, i ≠ 47 → (rseize (rseize (x_u2 (rseize t1 (24 * o + a) (cw.2.2.1 (ri (24 * o + a))).length (Int32.ofNat (cdo 36 (12 * o + lkn ρ a s)))) 43 o (Int32.ofNat (((ρ + s) % 4 + 1) % 4))) (24 * o + a) ((cw.2.2.1 (ri (24 * o + a))).length + 1) (Int32.ofNat (cdo 41 kt))) (24 * o + a) ((cw.2.2.1 (ri (24 * o + a))).length + 1 + 1) (Int32.ofNat (cdo 38 (3 * n1 + q)))) 8 i = t 8 i := fun i h8 => (rseize_k (by omega)).trans ((rseize_k (by omega)).trans ((u2_ne (by decide)).trans ((rseize_k (by omega)).trans (k1 8 i (Or.inr h8)))))
                      have e9 : ∀ i, i ≠ 47 → x_u2 (x_u2 (x_u2 (x_u2 (x_u2 (rseize (rseize (x_u2 (rseize t1 (24 * o + a) (cw.2.2.1 (ri (24 * o + a))).length (Int32.ofNat (cdo 36 (12 * o + lkn ρ a s)))) 43 o (Int32.ofNat (((ρ + s) % 4 + 1) % 4))) (24 * o + a) ((cw.2.2.1 (ri (24 * o + a))).length + 1) (Int32.ofNat (cdo 41 kt))) (24 * o + a) ((cw.2.2.1 (ri (24 * o + a))).length + 1 + 1) (Int32.ofNat (cdo 38 (3 * n1 + q)))) 55 (24 * o + a) (t 55 (24 * o + a) ||| (1 <<< (Int32.ofNat n1 &&& 31)))) 47 (24 * o + a) 3) 52 (24 * o + a) (t 48 (24 * o + a))) 53 (24 * o + a) (Int32.ofNat n1)) 54 (24 * o + a) (Int32.ofNat q) 8 i = t 8 i := fun i h8 => ((u2_ne (by decide)).trans ((u2_ne (by decide)).trans ((u2_ne (by decide)).trans ((u2_ne (by decide)).trans ((u2_ne (by decide)).trans (e8 i h8))))))
                      refine c_ret ⟨rfl, ?_, fun i hi => (e9 i (by omega)).trans (h80 i hi)⟩
                      rw [vsn_ok (show i < N by omega) erat hvt (by rw [on1.2, ev]; exact fun z => absurd (show (1 : Int32) = 0 from z) (by decide)), on1.2, ev]
                      rw [show ∀ W : vS, ((1 : Int32), W).2 = W from fun _ => rfl, vsent_e (A := t 55 (24 * o + a)) (X := cw.1 1 6 ((24 * o + a) + 1)) (by rw [K5.1 8]; exact (S.pl hc).2.2.2.2.2.1.1) (by rw [K5.1 6]) (S.c48 hc (by rw [h47]; decide))]
                      exact KS
                  · skip
                    refine c_goto ?_
                    refine BC.blk c123_251 (fun m10 hm10 => ?_)
                    refine c_iincN (i := i) (k := 1) rfl rfl rfl ?_
                    refine c_goto ?_
                    have hA0 := hA.elim (fun z => z.2) (fun z => absurd (z.1.symm.trans d7) (by decide))
                    rw [hA0.1]
                    have vr : von cw (o + 1) ((24 * o + a) + 1) (n1 + 1) = _ := von_l (by omega) (by omega) eft efr (own_e ha) (wayB0 S.1 ho hρ hρ4 ha hA0.2)
                    rw [vsn_fl (show i < N by omega) erat hvt (by rw [on1.2, vr]), on1.2, vr]
                    exact ih18 m10 (by omega) (i + 1) _ _ _ _ _ (by omega) S h47 h50 nj HR hN h48 h80
            · skip
              refine c_aload rfl ?_
              refine c_gfr (fun _ C _ => C.ar (k := 26) (K := 44) (n := 9) (by decide)) ?_
              refine c_iconst ?_
              refine c_iload rfl ?_
              refine c_bin (ofN_mul (3) (o)) ?_
              refine c_iload rfl ?_
              refine c_bin (ofN_add ((3 * o)) (n1)) ?_
              refine c_dup2 ?_
              refine c_ald (fun _ C l9 i9 => C.an (k := 26) (K := 44) (n := 9) (by decide) i9 (ofN (by omega)).2) (fun p12 => ?_)
              refine c_iconst ?_
              refine c_bin rfl ?_
              refine c_ast (fun _ C l9 i9 => C.sn (k := 26) (K := 44) (n := 9) (by decide) i9 (ofN (by omega)).2) (fun p13 => ?_)
              refine c_goto ?_
              refine BC.blk c123_251 (fun m11 hm11 => ?_)
              refine c_iincN (i := i) (k := 1) rfl rfl rfl ?_
              refine c_goto ?_
              have vr : von cw (o + 1) ((24 * o + a) + 1) (n1 + 1) = _ := von_t hn1 (ft.elim (fun z => z.2) (fun ⟨k, hk9, z, _⟩ => absurd (show 0 ≤ tx.toInt by rw [z, (ofN (n := k) (by have := S.1.tr.1; omega)).1]; omega) d4))
              rw [vsn_fl (show i < N by omega) erat hvt (by rw [on1.2, vr]), on1.2, vr]
              exact ih18 m11 (by omega) (i + 1) _ _ _ _ _ (by omega) ⟨S.1.ov8 ho hn1, S.2⟩ h47 h50 nj HR hN h48 h80
          · skip
            refine c_goto ?_
            refine BC.blk c123_251 (fun m12 hm12 => ?_)
            refine c_iincN (i := i) (k := 1) rfl rfl rfl ?_
            refine c_goto ?_
            rw [vsn_no (show i < N by omega) erat (Bool.eq_false_iff.mpr (fun z => hv.mp z (b1.mp d3)))]
            exact ih18 m12 (by omega) (i + 1) _ _ _ _ _ (by omega) S h47 h50 nj HR hN h48 h80
    exact lp18 m2 0 v F _ _ _ (by omega) S h47 h50 nj HR hN h48 (fun _ _ => rfl)
