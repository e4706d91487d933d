/-! WAYS: what findWay looks for -/
def FWA (F : xF) (o r a b s s' : Nat) : Prop := (F 36 (12 * o + 4 * (a / 8) + (r + s) % 4)).toInt < 0 ∧ (F 36 (12 * o + 4 * (b / 8) + (r + s') % 4)).toInt < 0 ∧ ¬ 12 * o + 4 * (b / 8) + (r + s') % 4 = 12 * o + 4 * (a / 8) + (r + s) % 4
def FWB (F : xF) (o r b s : Nat) : Prop := (F 36 (12 * o + 4 * (b / 8) + (r + s) % 4)).toInt < 0
theorem r119a {D : Int} {v : vS} {F : xF} {o r a b : Nat} (ho : o < 3) (hr : F 43 o = Int32.ofNat r) (hr4 : r < 4) (ha : a < 24) (hb : b < 24) : EC MR 119 [rf 8 1, .inl (Int32.ofNat o), .inl (Int32.ofNat a), .inl (Int32.ofNat b)] F (fun o9 t => (o9 = oi 0 ∧ t = F ∧ ∀ s s', s < 4 → s' < 4 → ¬ FWA F o r a b s s') ∨ ∃ s s', s < 4 ∧ s' < 4 ∧ FWA F o r a b s s' ∧ (∀ s1 s2, s1 < s → s2 < 4 → ¬ FWA F o r a b s1 s2) ∧ (∀ s2, s2 < s' → ¬ FWA F o r a b s s2) ∧ o9 = oi 1 ∧ t = x_u2 (x_u2 F 8 47 (Int32.ofNat ((r + s) % 4))) 8 48 (Int32.ofNat ((r + s') % 4))) := by
  have oa := ofN (n := a) (by omega)
  have ob := ofN (n := b) (by omega)
  refine EC.mk (fun n0 => ?_)
  show BC _ n0 119 0 [rf 8 1, .inl (Int32.ofNat o), .inl (Int32.ofNat a), .inl (Int32.ofNat b), rf 0 0, rf 0 0, rf 0 0, rf 0 0, rf 0 0, rf 0 0] [] _ _
  refine BC.blk c119_0 (fun m1 hm1 => ?_)
  refine c_iconst ?_
  refine c_istore rfl ?_
  refine c_goto ?_
  have lp3 : ∀ (n : Nat) (s : Nat) (z5 z6 z7 z8 z9 : xV), s ≤ 4 → (∀ s1 s2, s1 < s → s2 < 4 → ¬ FWA F o r a b s1 s2) → BC MR n 119 3 [rf 8 1, .inl (Int32.ofNat o), .inl (Int32.ofNat a), .inl (Int32.ofNat b), .inl (Int32.ofNat s), z5, z6, z7, z8, z9] [] F (fun o9 t => (o9 = oi 0 ∧ t = F ∧ ∀ s s', s < 4 → s' < 4 → ¬ FWA F o r a b s s') ∨ ∃ s s', s < 4 ∧ s' < 4 ∧ FWA F o r a b s s' ∧ (∀ s1 s2, s1 < s → s2 < 4 → ¬ FWA F o r a b s1 s2) ∧ (∀ s2, s2 < s' → ¬ FWA F o r a b s s2) ∧ o9 = oi 1 ∧ t = x_u2 (x_u2 F 8 47 (Int32.ofNat ((r + s) % 4))) 8 48 (Int32.ofNat ((r + s') % 4))) := by
    intro n3
    induction n3 using Nat.strongRecOn with
    | ind n3 ih3 =>
      intro s z5 z6 z7 z8 z9 hs hi
      have os := ofN (n := s) (by omega)
      have ol := ofN (n := (12 * o + 4 * (a / 8) + (r + s) % 4)) (by omega)
      refine BC.blk c119_3 (fun m2 hm2 => ?_)
      refine c_iload rfl ?_
      refine c_iconst ?_
      refine c_icmpk_ge (k := 4) rfl (fun d1 => ?_) (fun d1 => ?_)
      · skip
        refine BC.blk c119_158 (fun m3 hm3 => ?_)
        refine c_iconst ?_
        exact c_zret (Or.inl ⟨rfl, rfl, fun s1 s2 z1 z2 => hi s1 s2 (by omega) z2⟩)
      · skip
        refine c_aload rfl ?_
        refine c_gfr (fun _ C _ => C.ar (k := 25) (K := 43) (n := 3) (by decide)) ?_
        refine c_iload rfl ?_
        refine c_ald (fun _ C l9 i9 => (fun z => ⟨z.1, z.2.trans hr⟩) (C.an (k := 25) (K := 43) (n := 3) (by decide) i9 (ofN (by omega)).2)) (fun p1 => ?_)
        refine c_iload rfl ?_
        refine c_bin (ofN_add (r) (s)) ?_
        refine c_iconst ?_
        refine c_irem (ofN_rem (a := r + s) (b := 4) (by omega) (by omega) (by omega)) ?_
        refine c_istore rfl ?_
        refine c_iload rfl ?_
        refine c_if_ge (fun d2 => ?_) (fun d2 => ?_)
        · skip
          refine BC.blk c119_30 (fun m4 hm4 => ?_)
          refine c_iload rfl ?_
          refine c_iload rfl ?_
          refine c_iconst ?_
          refine c_idiv (ofN_div (a := a) (b := 8) (by omega) (by omega) (by omega)) ?_
          refine c_iload rfl ?_
          refine d_call mr_rs (e118 (o := o) (p := a / 8) (q := (r + s) % 4)) ?_
          refine c_goto ?_
          refine BC.blk c119_40 (fun m5 hm5 => ?_)
          refine c_istore rfl ?_
          refine c_iload rfl ?_
          refine c_if_lt (fun d3 => ?_) (fun d3 => ?_)
          · exact absurd d3 (by omega)
          · skip
            refine c_aload rfl ?_
            refine c_gfr (fun _ C _ => C.ar (k := 17) (K := 36) (n := 36) (by decide)) ?_
            refine c_iload rfl ?_
            refine c_ald (fun _ C l9 i9 => C.an (k := 17) (K := 36) (n := 36) (by decide) i9 (ofN (n := (12 * o + 4 * (a / 8) + (r + s) % 4)) (by omega)).2) (fun p2 => ?_)
            refine c_if_lt (fun d4 => ?_) (fun d4 => ?_)
            · skip
              refine BC.blk c119_60 (fun m6 hm6 => ?_)
              refine c_iload rfl ?_
              refine c_if_ge (fun d5 => ?_) (fun d5 => ?_)
              · skip
                refine BC.blk c119_72 (fun m7 hm7 => ?_)
                refine c_iconst ?_
                refine c_istore rfl ?_
                refine c_goto ?_
                have lp75 : ∀ (n : Nat) (q : Nat) (z8 z9 : xV), n < n3 → q ≤ 4 → (∀ s2, s2 < q → ¬ FWA F o r a b s s2) → BC MR n 119 75 [rf 8 1, .inl (Int32.ofNat o), .inl (Int32.ofNat a), .inl (Int32.ofNat b), .inl (Int32.ofNat s), .inl (Int32.ofNat ((r + s) % 4)), .inl (Int32.ofNat (12 * o + 4 * (a / 8) + (r + s) % 4)), .inl (Int32.ofNat q), z8, z9] [] F (fun o9 t => (o9 = oi 0 ∧ t = F ∧ ∀ s s', s < 4 → s' < 4 → ¬ FWA F o r a b s s') ∨ ∃ s s', s < 4 ∧ s' < 4 ∧ FWA F o r a b s s' ∧ (∀ s1 s2, s1 < s → s2 < 4 → ¬ FWA F o r a b s1 s2) ∧ (∀ s2, s2 < s' → ¬ FWA F o r a b s s2) ∧ o9 = oi 1 ∧ t = x_u2 (x_u2 F 8 47 (Int32.ofNat ((r + s) % 4))) 8 48 (Int32.ofNat ((r + s') % 4))) := by
                  intro n75
                  induction n75 using Nat.strongRecOn with
                  | ind n75 ih75 =>
                    intro q z8 z9 hn75 hq hj
                    have oq := ofN (n := q) (by omega)
                    have om := ofN (n := (12 * o + 4 * (b / 8) + (r + q) % 4)) (by omega)
                    refine BC.blk c119_75 (fun m8 hm8 => ?_)
                    refine c_iload rfl ?_
                    refine c_iconst ?_
                    refine c_icmpk_ge (k := 4) rfl (fun d6 => ?_) (fun d6 => ?_)
                    · skip
                      refine BC.blk c119_152 (fun m9 hm9 => ?_)
                      refine c_iincN (i := s) (k := 1) rfl rfl rfl ?_
                      refine c_goto ?_
                      exact ih3 m9 (by omega) (s + 1) _ _ _ _ _ (by omega) (fun s1 s2 z1 z2 w => (Nat.lt_succ_iff_lt_or_eq.mp z1).elim (fun z => hi s1 s2 z z2 w) (fun z => hj s2 (by omega) (z ▸ w : FWA F o r a b s s2)))
                    · skip
                      refine c_iload rfl ?_
                      refine c_if_ge (fun d7 => ?_) (fun d7 => ?_)
                      · skip
                        refine BC.blk c119_90 (fun m10 hm10 => ?_)
                        refine c_aload rfl ?_
                        refine c_gfr (fun _ C _ => C.ar (k := 25) (K := 43) (n := 3) (by decide)) ?_
                        refine c_iload rfl ?_
                        refine c_ald (fun _ C l9 i9 => (fun z => ⟨z.1, z.2.trans hr⟩) (C.an (k := 25) (K := 43) (n := 3) (by decide) i9 (ofN (by omega)).2)) (fun p3 => ?_)
                        refine c_iload rfl ?_
                        refine c_bin (ofN_add (r) (q)) ?_
                        refine c_iconst ?_
                        refine c_irem (ofN_rem (a := r + q) (b := 4) (by omega) (by omega) (by omega)) ?_
                        refine c_goto ?_
                        refine BC.blk c119_101 (fun m11 hm11 => ?_)
                        refine c_istore rfl ?_
                        refine c_iload rfl ?_
                        refine c_iload rfl ?_
                        refine c_iconst ?_
                        refine c_idiv (ofN_div (a := b) (b := 8) (by omega) (by omega) (by omega)) ?_
                        refine c_iload rfl ?_
                        refine d_call mr_rs (e118 (o := o) (p := b / 8) (q := (r + q) % 4)) ?_
                        refine c_istore rfl ?_
                        refine c_aload rfl ?_
                        refine c_gfr (fun _ C _ => C.ar (k := 17) (K := 36) (n := 36) (by decide)) ?_
                        refine c_iload rfl ?_
                        refine c_ald (fun _ C l9 i9 => C.an (k := 17) (K := 36) (n := 36) (by decide) i9 (ofN (n := (12 * o + 4 * (b / 8) + (r + q) % 4)) (by omega)).2) (fun p4 => ?_)
                        refine c_if_ge (fun d8 => ?_) (fun d8 => ?_)
                        · skip
                          refine BC.blk c119_146 (fun m12 hm12 => ?_)
                          refine c_iincN (i := q) (k := 1) rfl rfl rfl ?_
                          refine c_goto ?_
                          exact ih75 m12 (by omega) (q + 1) _ _ (by omega) (by omega) (fun s2 z w => (Nat.lt_succ_iff_lt_or_eq.mp z).elim (fun z => hj s2 z w) (fun z => absurd (z ▸ w : FWA F o r a b s q).2.1 (by omega)))
                        · skip
                          refine c_iload rfl ?_
                          refine c_iload rfl ?_
                          refine c_icmp_eq (fun d9 => ?_) (fun d9 => ?_)
                          · skip
                            refine BC.blk c119_146 (fun m13 hm13 => ?_)
                            refine c_iincN (i := q) (k := 1) rfl rfl rfl ?_
                            refine c_goto ?_
                            exact ih75 m13 (by omega) (q + 1) _ _ (by omega) (by omega) (fun s2 z w => (Nat.lt_succ_iff_lt_or_eq.mp z).elim (fun z => hj s2 z w) (fun z => (z ▸ w : FWA F o r a b s q).2.2 (ofN_inj (by omega) (by omega) d9)))
                          · skip
                            refine c_aload rfl ?_
                            refine c_iload rfl ?_
                            refine c_pfi (fun _ C _ => C.pf) ?_
                            refine c_aload rfl ?_
                            refine c_iload rfl ?_
                            refine c_pfi (fun _ C _ => C.pf) ?_
                            refine c_iconst ?_
                            exact c_zret (Or.inr ⟨s, q, by omega, by omega, ⟨d4, Int.not_le.mp d8, fun e => d9 (by rw [e])⟩, hi, hj, rfl, rfl⟩)
                      · skip
                        exact absurd d7 (by omega)
                exact lp75 m7 0 _ _ (by omega) (by omega) (fun s2 z => absurd z (by omega))
              · skip
                exact absurd d5 (by omega)
            · skip
              refine c_goto ?_
              refine BC.blk c119_152 (fun m14 hm14 => ?_)
              refine c_iincN (i := s) (k := 1) rfl rfl rfl ?_
              refine c_goto ?_
              exact ih3 m14 (by omega) (s + 1) _ _ _ _ _ (by omega) (fun s1 s2 z1 z2 w => (Nat.lt_succ_iff_lt_or_eq.mp z1).elim (fun z => hi s1 s2 z z2 w) (fun z => absurd (z ▸ w : FWA F o r a b s s2).1 (by omega)))
        · skip
          exact absurd d2 (by omega)
  exact lp3 m1 0 _ _ _ _ _ (by omega) (fun s1 s2 z => absurd z (by omega))
theorem r119b {D : Int} {v : vS} {F : xF} {o r b : Nat} (ho : o < 3) (hr : F 43 o = Int32.ofNat r) (hr4 : r < 4) (hb : b < 24) : EC MR 119 [rf 8 1, .inl (Int32.ofNat o), .inl (-1), .inl (Int32.ofNat b)] F (fun o9 t => (o9 = oi 0 ∧ t = F ∧ ∀ s, s < 4 → ¬ FWB F o r b s) ∨ ∃ s, s < 4 ∧ FWB F o r b s ∧ (∀ s1, s1 < s → ¬ FWB F o r b s1) ∧ o9 = oi 1 ∧ t = x_u2 (x_u2 F 8 47 (Int32.ofNat ((r + s) % 4))) 8 48 (Int32.ofNat ((r + s) % 4))) := by
  have ob := ofN (n := b) (by omega)
  refine EC.mk (fun n0 => ?_)
  show BC _ n0 119 0 [rf 8 1, .inl (Int32.ofNat o), .inl (-1), .inl (Int32.ofNat b), rf 0 0, rf 0 0, rf 0 0, rf 0 0, rf 0 0, rf 0 0] [] _ _
  refine BC.blk c119_0 (fun m1 hm1 => ?_)
  refine c_iconst ?_
  refine c_istore rfl ?_
  refine c_goto ?_
  have lp3 : ∀ (n : Nat) (s : Nat) (z5 z6 z7 z8 z9 : xV), s ≤ 4 → (∀ s1, s1 < s → ¬ FWB F o r b s1) → BC MR n 119 3 [rf 8 1, .inl (Int32.ofNat o), .inl (-1), .inl (Int32.ofNat b), .inl (Int32.ofNat s), z5, z6, z7, z8, z9] [] F (fun o9 t => (o9 = oi 0 ∧ t = F ∧ ∀ s, s < 4 → ¬ FWB F o r b s) ∨ ∃ s, s < 4 ∧ FWB F o r b s ∧ (∀ s1, s1 < s → ¬ FWB F o r b s1) ∧ o9 = oi 1 ∧ t = x_u2 (x_u2 F 8 47 (Int32.ofNat ((r + s) % 4))) 8 48 (Int32.ofNat ((r + s) % 4))) := by
    intro n3
    induction n3 using Nat.strongRecOn with
    | ind n3 ih3 =>
      intro s z5 z6 z7 z8 z9 hs hi
      have os := ofN (n := s) (by omega)
      have ol := ofN (n := (12 * o + 4 * (b / 8) + (r + s) % 4)) (by omega)
      refine BC.blk c119_3 (fun m2 hm2 => ?_)
      refine c_iload rfl ?_
      refine c_iconst ?_
      refine c_icmpk_ge (k := 4) rfl (fun d1 => ?_) (fun d1 => ?_)
      · skip
        refine BC.blk c119_158 (fun m3 hm3 => ?_)
        refine c_iconst ?_
        exact c_zret (Or.inl ⟨rfl, rfl, fun s1 z1 => hi s1 (by omega)⟩)
      · skip
        refine c_aload rfl ?_
        refine c_gfr (fun _ C _ => C.ar (k := 25) (K := 43) (n := 3) (by decide)) ?_
        refine c_iload rfl ?_
        refine c_ald (fun _ C l9 i9 => (fun z => ⟨z.1, z.2.trans hr⟩) (C.an (k := 25) (K := 43) (n := 3) (by decide) i9 (ofN (by omega)).2)) (fun p1 => ?_)
        refine c_iload rfl ?_
        refine c_bin (ofN_add (r) (s)) ?_
        refine c_iconst ?_
        refine c_irem (ofN_rem (a := r + s) (b := 4) (by omega) (by omega) (by omega)) ?_
        refine c_istore rfl ?_
        refine c_iload rfl ?_
        refine c_if_ge (fun d2 => ?_) (fun d2 => ?_)
        · exact absurd d2 (by decide)
        · skip
          refine c_iconst ?_
          refine c_goto ?_
          refine BC.blk c119_40 (fun m4 hm4 => ?_)
          refine c_istore rfl ?_
          refine c_iload rfl ?_
          refine c_if_lt (fun d3 => ?_) (fun d3 => ?_)
          · skip
            refine BC.blk c119_60 (fun m5 hm5 => ?_)
            refine c_iload rfl ?_
            refine c_if_ge (fun d4 => ?_) (fun d4 => ?_)
            · skip
              refine BC.blk c119_72 (fun m6 hm6 => ?_)
              refine c_iconst ?_
              refine c_istore rfl ?_
              refine c_goto ?_
              have lp75 : ∀ (n : Nat) (q : Nat) (z8 z9 : xV), n < n3 → q ≤ 4 → (0 < q → ¬ FWB F o r b s) → BC MR n 119 75 [rf 8 1, .inl (Int32.ofNat o), .inl (-1), .inl (Int32.ofNat b), .inl (Int32.ofNat s), .inl (Int32.ofNat ((r + s) % 4)), .inl (-1), .inl (Int32.ofNat q), z8, z9] [] F (fun o9 t => (o9 = oi 0 ∧ t = F ∧ ∀ s, s < 4 → ¬ FWB F o r b s) ∨ ∃ s, s < 4 ∧ FWB F o r b s ∧ (∀ s1, s1 < s → ¬ FWB F o r b s1) ∧ o9 = oi 1 ∧ t = x_u2 (x_u2 F 8 47 (Int32.ofNat ((r + s) % 4))) 8 48 (Int32.ofNat ((r + s) % 4))) := by
                intro n75
                induction n75 using Nat.strongRecOn with
                | ind n75 ih75 =>
                  intro q z8 z9 hn75 hq hj
                  have oq := ofN (n := q) (by omega)
                  refine BC.blk c119_75 (fun m7 hm7 => ?_)
                  refine c_iload rfl ?_
                  refine c_iconst ?_
                  refine c_icmpk_ge (k := 4) rfl (fun d5 => ?_) (fun d5 => ?_)
                  · skip
                    refine BC.blk c119_152 (fun m8 hm8 => ?_)
                    refine c_iincN (i := s) (k := 1) rfl rfl rfl ?_
                    refine c_goto ?_
                    exact ih3 m8 (by omega) (s + 1) _ _ _ _ _ (by omega) (fun s1 z1 w => (Nat.lt_succ_iff_lt_or_eq.mp z1).elim (fun z => hi s1 z w) (fun z => hj (by omega) (z ▸ w : FWB F o r b s)))
                  · skip
                    refine c_iload rfl ?_
                    refine c_if_ge (fun d6 => ?_) (fun d6 => ?_)
                    · exact absurd d6 (by decide)
                    · skip
                      refine c_iload rfl ?_
                      refine c_goto ?_
                      refine BC.blk c119_101 (fun m9 hm9 => ?_)
                      refine c_istore rfl ?_
                      refine c_iload rfl ?_
                      refine c_iload rfl ?_
                      refine c_iconst ?_
                      refine c_idiv (ofN_div (a := b) (b := 8) (by omega) (by omega) (by omega)) ?_
                      refine c_iload rfl ?_
                      refine d_call mr_rs (e118 (o := o) (p := b / 8) (q := (r + s) % 4)) ?_
                      refine c_istore rfl ?_
                      refine c_aload rfl ?_
                      refine c_gfr (fun _ C _ => C.ar (k := 17) (K := 36) (n := 36) (by decide)) ?_
                      refine c_iload rfl ?_
                      refine c_ald (fun _ C l9 i9 => C.an (k := 17) (K := 36) (n := 36) (by decide) i9 (ofN (n := (12 * o + 4 * (b / 8) + (r + s) % 4)) (by omega)).2) (fun p2 => ?_)
                      refine c_if_ge (fun d7 => ?_) (fun d7 => ?_)
                      · skip
                        refine BC.blk c119_146 (fun m10 hm10 => ?_)
                        refine c_iincN (i := q) (k := 1) rfl rfl rfl ?_
                        refine c_goto ?_
                        exact ih75 m10 (by omega) (q + 1) _ _ (by omega) (by omega) (fun _ w => absurd (show (_ : Int) < 0 from w) (by omega))
                      · skip
                        refine c_iload rfl ?_
                        refine c_iload rfl ?_
                        refine c_icmp_eq (fun d8 => ?_) (fun d8 => ?_)
                        · skip
                          refine BC.blk c119_146 (fun m11 hm11 => ?_)
                          refine c_iincN (i := q) (k := 1) rfl rfl rfl ?_
                          refine c_goto ?_
                          have e9 := congrArg Int32.toInt d8
                          rw [ol.1] at e9
                          exact absurd (show (_ : Int) = -1 from e9) (by omega)
                        · skip
                          refine c_aload rfl ?_
                          refine c_iload rfl ?_
                          refine c_pfi (fun _ C _ => C.pf) ?_
                          refine c_aload rfl ?_
                          refine c_iload rfl ?_
                          refine c_pfi (fun _ C _ => C.pf) ?_
                          refine c_iconst ?_
                          exact c_zret (Or.inr ⟨s, by omega, Int.not_le.mp d7, hi, rfl, rfl⟩)
              exact lp75 m6 0 _ _ (by omega) (by omega) (fun z => absurd z (by omega))
            · skip
              exact absurd d4 (by omega)
          · exact absurd d3 (by decide)
  exact lp3 m1 0 _ _ _ _ _ (by omega) (fun s1 z => absurd z (by omega))
theorem r119c {D : Int} {v : vS} {F : xF} {o r a : Nat} (ho : o < 3) (hr : F 43 o = Int32.ofNat r) (hr4 : r < 4) (ha : a < 24) : EC MR 119 [rf 8 1, .inl (Int32.ofNat o), .inl (Int32.ofNat a), .inl (-1)] F (fun o9 t => (o9 = oi 0 ∧ t = F ∧ ∀ s, s < 4 → ¬ FWB F o r a s) ∨ ∃ s, s < 4 ∧ FWB F o r a s ∧ (∀ s1, s1 < s → ¬ FWB F o r a s1) ∧ o9 = oi 1 ∧ t = x_u2 F 8 47 (Int32.ofNat ((r + s) % 4))) := by
  have oa := ofN (n := a) (by omega)
  refine EC.mk (fun n0 => ?_)
  show BC _ n0 119 0 [rf 8 1, .inl (Int32.ofNat o), .inl (Int32.ofNat a), .inl (-1), rf 0 0, rf 0 0, rf 0 0, rf 0 0, rf 0 0, rf 0 0] [] _ _
  refine BC.blk c119_0 (fun m1 hm1 => ?_)
  refine c_iconst ?_
  refine c_istore rfl ?_
  refine c_goto ?_
  have lp3 : ∀ (n : Nat) (s : Nat) (z5 z6 z7 z8 z9 : xV), s ≤ 4 → (∀ s1, s1 < s → ¬ FWB F o r a s1) → BC MR n 119 3 [rf 8 1, .inl (Int32.ofNat o), .inl (Int32.ofNat a), .inl (-1), .inl (Int32.ofNat s), z5, z6, z7, z8, z9] [] F (fun o9 t => (o9 = oi 0 ∧ t = F ∧ ∀ s, s < 4 → ¬ FWB F o r a s) ∨ ∃ s, s < 4 ∧ FWB F o r a s ∧ (∀ s1, s1 < s → ¬ FWB F o r a s1) ∧ o9 = oi 1 ∧ t = x_u2 F 8 47 (Int32.ofNat ((r + s) % 4))) := by
    intro n3
    induction n3 using Nat.strongRecOn with
    | ind n3 ih3 =>
      intro s z5 z6 z7 z8 z9 hs hi
      have os := ofN (n := s) (by omega)
      have ol := ofN (n := (12 * o + 4 * (a / 8) + (r + s) % 4)) (by omega)
      refine BC.blk c119_3 (fun m2 hm2 => ?_)
      refine c_iload rfl ?_
      refine c_iconst ?_
      refine c_icmpk_ge (k := 4) rfl (fun d1 => ?_) (fun d1 => ?_)
      · skip
        refine BC.blk c119_158 (fun m3 hm3 => ?_)
        refine c_iconst ?_
        exact c_zret (Or.inl ⟨rfl, rfl, fun s1 z1 => hi s1 (by omega)⟩)
      · skip
        refine c_aload rfl ?_
        refine c_gfr (fun _ C _ => C.ar (k := 25) (K := 43) (n := 3) (by decide)) ?_
        refine c_iload rfl ?_
        refine c_ald (fun _ C l9 i9 => (fun z => ⟨z.1, z.2.trans hr⟩) (C.an (k := 25) (K := 43) (n := 3) (by decide) i9 (ofN (by omega)).2)) (fun p1 => ?_)
        refine c_iload rfl ?_
        refine c_bin (ofN_add (r) (s)) ?_
        refine c_iconst ?_
        refine c_irem (ofN_rem (a := r + s) (b := 4) (by omega) (by omega) (by omega)) ?_
        refine c_istore rfl ?_
        refine c_iload rfl ?_
        refine c_if_ge (fun d2 => ?_) (fun d2 => ?_)
        · skip
          refine BC.blk c119_30 (fun m4 hm4 => ?_)
          refine c_iload rfl ?_
          refine c_iload rfl ?_
          refine c_iconst ?_
          refine c_idiv (ofN_div (a := a) (b := 8) (by omega) (by omega) (by omega)) ?_
          refine c_iload rfl ?_
          refine d_call mr_rs (e118 (o := o) (p := a / 8) (q := (r + s) % 4)) ?_
          refine c_goto ?_
          refine BC.blk c119_40 (fun m5 hm5 => ?_)
          refine c_istore rfl ?_
          refine c_iload rfl ?_
          refine c_if_lt (fun d3 => ?_) (fun d3 => ?_)
          · exact absurd d3 (by omega)
          · skip
            refine c_aload rfl ?_
            refine c_gfr (fun _ C _ => C.ar (k := 17) (K := 36) (n := 36) (by decide)) ?_
            refine c_iload rfl ?_
            refine c_ald (fun _ C l9 i9 => C.an (k := 17) (K := 36) (n := 36) (by decide) i9 (ofN (n := (12 * o + 4 * (a / 8) + (r + s) % 4)) (by omega)).2) (fun p2 => ?_)
            refine c_if_lt (fun d4 => ?_) (fun d4 => ?_)
            · skip
              refine BC.blk c119_60 (fun m6 hm6 => ?_)
              refine c_iload rfl ?_
              refine c_if_ge (fun d5 => ?_) (fun d5 => ?_)
              · exact absurd d5 (by decide)
              · skip
                refine c_aload rfl ?_
                refine c_iload rfl ?_
                refine c_pfi (fun _ C _ => C.pf) ?_
                refine c_iconst ?_
                exact c_zret (Or.inr ⟨s, by omega, d4, hi, rfl, rfl⟩)
            · skip
              refine c_goto ?_
              refine BC.blk c119_152 (fun m7 hm7 => ?_)
              refine c_iincN (i := s) (k := 1) rfl rfl rfl ?_
              refine c_goto ?_
              exact ih3 m7 (by omega) (s + 1) _ _ _ _ _ (by omega) (fun s1 z1 w => (Nat.lt_succ_iff_lt_or_eq.mp z1).elim (fun z => hi s1 z w) (fun z => absurd (z ▸ w : FWB F o r a s) (fun w => by have w : _ < (0 : Int) := w; omega)))
        · skip
          exact absurd d2 (by omega)
  exact lp3 m1 0 _ _ _ _ _ (by omega) (fun s1 z => absurd z (by omega))
