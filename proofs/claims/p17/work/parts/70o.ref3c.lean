theorem e109 {F : xF} {l : Nat} (hl : l < 72) : EC MR 109 [rf 8 1, .inl (Int32.ofNat l)] F (fun o9 t => o9 = ov ∧ ∃ r, FS (fun k => (F 38 (3 * (l / 24) + k)).toInt < 0) 3 r ∧ t = rbeg F l r) := by
  refine EC.mk (fun n0 => ?_)
  show BC _ n0 109 0 [rf 8 1, .inl (Int32.ofNat l), rf 0 0, rf 0 0] [] _ _
  refine BC.blk c109_0 (fun m1 hm1 => ?_)
  refine c_iload rfl ?_
  refine c_iconst ?_
  refine c_idiv (ofN_div (a := l) (b := 24) (by omega) (by omega) (by omega)) ?_
  refine c_istore rfl ?_
  refine c_aload rfl ?_
  refine c_iload rfl ?_
  refine p_callv mr_rs (e107 (by omega)) (fun r hr => ?_)
  refine c_istore rfl ?_
  refine c_aload rfl ?_
  refine c_gfr (fun _ C _ => C.ar (k := 5) (K := 24) (n := 72) (by decide)) ?_
  refine c_iload rfl ?_
  refine c_iconst ?_
  refine c_ast (fun _ C l9 i9 => C.sn (k := 5) (K := 24) (n := 72) (by decide) i9 (ofN (by omega)).2) (fun p1 => ?_)
  refine c_aload rfl ?_
  refine c_gfr (fun _ C _ => C.ar (k := 29) (K := 47) (n := 72) (by decide)) ?_
  refine c_iload rfl ?_
  refine c_iconst ?_
  refine c_ast (fun _ C l9 i9 => C.sn (k := 29) (K := 47) (n := 72) (by decide) i9 (ofN (by omega)).2) (fun p2 => ?_)
  refine c_aload rfl ?_
  refine c_gfr (fun _ C _ => C.ar (k := 30) (K := 48) (n := 72) (by decide)) ?_
  refine c_iload rfl ?_
  refine c_iconst ?_
  refine c_ast (fun _ C l9 i9 => C.sn (k := 30) (K := 48) (n := 72) (by decide) i9 (ofN (by omega)).2) (fun p3 => ?_)
  refine c_aload rfl ?_
  refine c_gfr (fun _ C _ => C.ar (k := 38) (K := 56) (n := 72) (by decide)) ?_
  refine c_iload rfl ?_
  refine c_iconst ?_
  refine c_ast (fun _ C l9 i9 => C.sn (k := 38) (K := 56) (n := 72) (by decide) i9 (ofN (by omega)).2) (fun p4 => ?_)
  refine c_aload rfl ?_
  refine c_gfr (fun _ C _ => C.ar (k := 32) (K := 50) (n := 72) (by decide)) ?_
  refine c_iload rfl ?_
  refine c_iload rfl ?_
  refine c_ast (fun _ C l9 i9 => C.sn (k := 32) (K := 50) (n := 72) (by decide) i9 (ofN (by omega)).2) (fun p5 => ?_)
  refine c_aload rfl ?_
  refine c_gfr (fun _ C _ => C.ar (k := 33) (K := 51) (n := 72) (by decide)) ?_
  refine c_iload rfl ?_
  refine c_iload rfl ?_
  refine c_ast (fun _ C l9 i9 => C.sn (k := 33) (K := 51) (n := 72) (by decide) i9 (ofN (by omega)).2) (fun p6 => ?_)
  refine c_aload rfl ?_
  refine c_gfr (fun _ C _ => C.ar (k := 37) (K := 55) (n := 72) (by decide)) ?_
  refine c_iload rfl ?_
  refine c_iconst ?_
  refine c_iload rfl ?_
  refine c_bin rfl ?_
  refine c_ast (fun _ C l9 i9 => C.sn (k := 37) (K := 55) (n := 72) (by decide) i9 (ofN (by omega)).2) (fun p7 => ?_)
  refine c_aload rfl ?_
  refine c_gfr (fun _ C _ => C.ar (k := 39) (K := 57) (n := 72) (by decide)) ?_
  refine c_iload rfl ?_
  refine c_iconst ?_
  refine c_ast (fun _ C l9 i9 => C.sn (k := 39) (K := 57) (n := 72) (by decide) i9 (ofN (by omega)).2) (fun p8 => ?_)
  refine c_aload rfl ?_
  refine c_gfr (fun _ C _ => C.ar (k := 42) (K := 60) (n := 72) (by decide)) ?_
  refine c_iload rfl ?_
  refine c_iconst ?_
  refine c_zst (fun _ C l9 i9 => C.sn (k := 42) (K := 60) (n := 72) (by decide) i9 (ofN (by omega)).2) (fun p9 => ?_)
  refine c_aload rfl ?_
  refine c_gfr (fun _ C _ => C.ar (k := 45) (K := 63) (n := 72) (by decide)) ?_
  refine c_iload rfl ?_
  refine c_iconst ?_
  refine c_ast (fun _ C l9 i9 => C.sn (k := 45) (K := 63) (n := 72) (by decide) i9 (ofN (by omega)).2) (fun p10 => ?_)
  refine c_aload rfl ?_
  refine c_iload rfl ?_
  refine c_iconst ?_
  refine c_iload rfl ?_
  refine c_bin rfl ?_
  refine c_iconst ?_
  refine c_bin rfl ?_
  refine c_iload rfl ?_
  refine c_bin rfl ?_
  refine d_callv mr_rs (e100 (n := 0) hl u2_eq (by omega)) ?_
  exact c_ret ⟨rfl, r, hr, rfl⟩
theorem e122 {F : xF} {T : Nat} {x y : Int32} (hT : F 8 20 = Int32.ofNat T) (hT16 : T ≤ 16) : EP MR 122 [rf 8 1, .inl x, .inl y] F (FS (TP F x y) T) := by
  refine EC.mk (fun n0 => ?_)
  show BC _ n0 122 0 [rf 8 1, .inl x, .inl y, rf 0 0, rf 0 0, rf 0 0] [] _ _
  refine BC.blk c122_0 (fun m1 hm1 => ?_)
  refine c_iconst ?_
  refine c_istore rfl ?_
  refine c_aload rfl ?_
  refine c_gfi (fun _ C _ => (C.f _).trans hT) ?_
  refine c_iconst ?_
  refine c_bin rfl ?_
  refine c_istore rfl ?_
  refine c_goto ?_
  have lp10 : ∀ (n : Nat) (m : Nat) (r i : Int32) (z5 : xV), m ≤ T → i.toInt = (m : Int) - 1 → FD (TP F x y) T (m : Int) r → BC MR n 122 10 [rf 8 1, .inl x, .inl y, .inl r, .inl i, z5] [] F (fun o9 t => t = F ∧ ∃ x9, o9 = oi x9 ∧ FS (TP F x y) T x9) := by
    intro n10
    induction n10 using Nat.strongRecOn with
    | ind n10 ih10 =>
      intro m r i z5 h1 h2 fd
      refine BC.blk c122_10 (fun m2 hm2 => ?_)
      refine c_iload rfl ?_
      refine c_if_lt (fun d1 => ?_) (fun d1 => ?_)
      · skip
        refine BC.blk c122_104 (fun m3 hm3 => ?_)
        refine c_iload rfl ?_
        exact c_iret ⟨rfl, r, rfl, fd.done (by omega)⟩
      · skip
        obtain ⟨q, rfl⟩ : ∃ q, m = q + 1 := ⟨m - 1, by omega⟩
        obtain rfl : i = Int32.ofNat q := i32_eq.mpr (by rw [(ofN (n := q) (by omega)).1]; omega)
        have jn64 : ∀ (n : Nat) (b : Int32), n < n10 → ((b = 1 ∧ ((F 39 q = x ∧ F 40 q = y) ∨ (F 39 q = y ∧ F 40 q = x))) ∨ (b = 0 ∧ ¬ ((F 39 q = x ∧ F 40 q = y) ∨ (F 39 q = y ∧ F 40 q = x)))) → BC MR n 122 64 [rf 8 1, .inl x, .inl y, .inl r, .inl (Int32.ofNat q), z5] [.inl b] F (fun o9 t => t = F ∧ ∃ x9, o9 = oi x9 ∧ FS (TP F x y) T x9) := by
          intro n64 b hn64 kb
          refine BC.blk c122_64 (fun m4 hm4 => ?_)
          refine c_istore rfl ?_
          refine c_iload rfl ?_
          refine c_if_eq (fun d2 => ?_) (fun d2 => ?_)
          · skip
            refine BC.blk c122_96 (fun m5 hm5 => ?_)
            refine c_iload rfl ?_
            refine c_goto ?_
            refine BC.blk c122_97 (fun m6 hm6 => ?_)
            refine c_istore rfl ?_
            refine c_iinc rfl rfl ?_
            refine c_goto ?_
            have h7 : m6 < n10 := by omega
            have h6 : q < T := by omega
            have h5 : q ≤ 100000 := by omega
            have h4 : q ≤ T := by omega
            refine ih10 m6 h7 q _ _ _ h4 (ofN_dec h5) ?_
            exact FD.no fd (fun z => by rcases kb with ⟨e, -⟩ | ⟨-, e⟩; exact absurd (e.symm.trans d2) (by decide); exact e z.1)
          · skip
            refine c_aload rfl ?_
            refine c_gfr (fun _ C _ => C.ar (k := 23) (K := 41) (n := 16) (by decide)) ?_
            refine c_iload rfl ?_
            refine c_ald (fun _ C l9 i9 => C.an (k := 23) (K := 41) (n := 16) (by decide) i9 (ofN (by omega)).2) (fun p1 => ?_)
            refine c_if_ge (fun d3 => ?_) (fun d3 => ?_)
            · skip
              refine BC.blk c122_96 (fun m7 hm7 => ?_)
              refine c_iload rfl ?_
              refine c_goto ?_
              refine BC.blk c122_97 (fun m8 hm8 => ?_)
              refine c_istore rfl ?_
              refine c_iinc rfl rfl ?_
              refine c_goto ?_
              have h7 : m8 < n10 := by omega
              have h6 : q < T := by omega
              have h5 : q ≤ 100000 := by omega
              have h4 : q ≤ T := by omega
              refine ih10 m8 h7 q _ _ _ h4 (ofN_dec h5) ?_
              exact FD.no fd (fun z => absurd z.2.1 (Int.not_lt.mpr d3))
            · skip
              refine c_aload rfl ?_
              refine c_gfr (fun _ C _ => C.ar (k := 24) (K := 42) (n := 16) (by decide)) ?_
              refine c_iload rfl ?_
              refine c_ald (fun _ C l9 i9 => C.an (k := 24) (K := 42) (n := 16) (by decide) i9 (ofN (by omega)).2) (fun p2 => ?_)
              refine c_if_ne (fun d4 => ?_) (fun d4 => ?_)
              · skip
                refine BC.blk c122_96 (fun m9 hm9 => ?_)
                refine c_iload rfl ?_
                refine c_goto ?_
                refine BC.blk c122_97 (fun m10 hm10 => ?_)
                refine c_istore rfl ?_
                refine c_iinc rfl rfl ?_
                refine c_goto ?_
                have h7 : m10 < n10 := by omega
                have h6 : q < T := by omega
                have h5 : q ≤ 100000 := by omega
                have h4 : q ≤ T := by omega
                refine ih10 m10 h7 q _ _ _ h4 (ofN_dec h5) ?_
                exact FD.no fd (fun z => d4 z.2.2)
              · skip
                refine c_iload rfl ?_
                refine c_goto ?_
                refine BC.blk c122_97 (fun m11 hm11 => ?_)
                refine c_istore rfl ?_
                refine c_iinc rfl rfl ?_
                refine c_goto ?_
                have h7 : m11 < n10 := by omega
                have h6 : q < T := by omega
                have h5 : q ≤ 100000 := by omega
                have h4 : q ≤ T := by omega
                refine ih10 m11 h7 q _ _ _ h4 (ofN_dec h5) ?_
                exact FD.yes h6 ⟨by rcases kb with ⟨-, e⟩ | ⟨e, -⟩; exact e; exact absurd e d2, Int.not_le.mp d3, d4⟩
        refine c_aload rfl ?_
        refine c_gfr (fun _ C _ => C.ar (k := 21) (K := 39) (n := 16) (by decide)) ?_
        refine c_iload rfl ?_
        refine c_ald (fun _ C l9 i9 => C.an (k := 21) (K := 39) (n := 16) (by decide) i9 (ofN (by omega)).2) (fun p3 => ?_)
        refine c_iload rfl ?_
        refine c_icmp_ne (fun d5 => ?_) (fun d5 => ?_)
        · skip
          refine BC.blk c122_37 (fun m12 hm12 => ?_)
          refine c_aload rfl ?_
          refine c_gfr (fun _ C _ => C.ar (k := 21) (K := 39) (n := 16) (by decide)) ?_
          refine c_iload rfl ?_
          refine c_ald (fun _ C l9 i9 => C.an (k := 21) (K := 39) (n := 16) (by decide) i9 (ofN (by omega)).2) (fun p4 => ?_)
          refine c_iload rfl ?_
          refine c_icmp_ne (fun d6 => ?_) (fun d6 => ?_)
          · skip
            refine BC.blk c122_63 (fun m13 hm13 => ?_)
            refine c_iconst ?_
            refine c_goto ?_
            exact jn64 m13 _ (by omega) (Or.inr ⟨rfl, fun z => z.elim (fun w => d5 w.1) (fun w => d6 w.1)⟩)
          · skip
            refine c_aload rfl ?_
            refine c_gfr (fun _ C _ => C.ar (k := 22) (K := 40) (n := 16) (by decide)) ?_
            refine c_iload rfl ?_
            refine c_ald (fun _ C l9 i9 => C.an (k := 22) (K := 40) (n := 16) (by decide) i9 (ofN (by omega)).2) (fun p5 => ?_)
            refine c_iload rfl ?_
            refine c_icmp_ne (fun d7 => ?_) (fun d7 => ?_)
            · skip
              refine BC.blk c122_63 (fun m14 hm14 => ?_)
              refine c_iconst ?_
              refine c_goto ?_
              exact jn64 m14 _ (by omega) (Or.inr ⟨rfl, fun z => z.elim (fun w => d5 w.1) (fun w => d7 w.2)⟩)
            · skip
              refine c_goto ?_
              refine BC.blk c122_59 (fun m15 hm15 => ?_)
              refine c_iconst ?_
              refine c_goto ?_
              exact jn64 m15 _ (by omega) (Or.inl ⟨rfl, Or.inr ⟨d6, d7⟩⟩)
        · skip
          refine c_aload rfl ?_
          refine c_gfr (fun _ C _ => C.ar (k := 22) (K := 40) (n := 16) (by decide)) ?_
          refine c_iload rfl ?_
          refine c_ald (fun _ C l9 i9 => C.an (k := 22) (K := 40) (n := 16) (by decide) i9 (ofN (by omega)).2) (fun p6 => ?_)
          refine c_iload rfl ?_
          refine c_icmp_eq (fun d8 => ?_) (fun d8 => ?_)
          · skip
            refine BC.blk c122_59 (fun m16 hm16 => ?_)
            refine c_iconst ?_
            refine c_goto ?_
            exact jn64 m16 _ (by omega) (Or.inl ⟨rfl, Or.inl ⟨d5, d8⟩⟩)
          · skip
            refine c_goto ?_
            refine BC.blk c122_37 (fun m17 hm17 => ?_)
            refine c_aload rfl ?_
            refine c_gfr (fun _ C _ => C.ar (k := 21) (K := 39) (n := 16) (by decide)) ?_
            refine c_iload rfl ?_
            refine c_ald (fun _ C l9 i9 => C.an (k := 21) (K := 39) (n := 16) (by decide) i9 (ofN (by omega)).2) (fun p7 => ?_)
            refine c_iload rfl ?_
            refine c_icmp_ne (fun d9 => ?_) (fun d9 => ?_)
            · skip
              refine BC.blk c122_63 (fun m18 hm18 => ?_)
              refine c_iconst ?_
              refine c_goto ?_
              exact jn64 m18 _ (by omega) (Or.inr ⟨rfl, fun z => z.elim (fun w => d8 w.2) (fun w => d9 w.1)⟩)
            · skip
              refine c_aload rfl ?_
              refine c_gfr (fun _ C _ => C.ar (k := 22) (K := 40) (n := 16) (by decide)) ?_
              refine c_iload rfl ?_
              refine c_ald (fun _ C l9 i9 => C.an (k := 22) (K := 40) (n := 16) (by decide) i9 (ofN (by omega)).2) (fun p8 => ?_)
              refine c_iload rfl ?_
              refine c_icmp_ne (fun d10 => ?_) (fun d10 => ?_)
              · skip
                refine BC.blk c122_63 (fun m19 hm19 => ?_)
                refine c_iconst ?_
                refine c_goto ?_
                exact jn64 m19 _ (by omega) (Or.inr ⟨rfl, fun z => z.elim (fun w => d8 w.2) (fun w => d10 w.2)⟩)
              · skip
                refine c_goto ?_
                refine BC.blk c122_59 (fun m20 hm20 => ?_)
                refine c_iconst ?_
                refine c_goto ?_
                exact jn64 m20 _ (by omega) (Or.inl ⟨rfl, Or.inr ⟨d9, d10⟩⟩)
  have oT := ofN (n := T) (by omega)
  have hs : (Int32.ofNat T - 1).toInt = (T : Int) - 1 := by rw [i32_sub (by rw [oT.1]; show _ ≤ _ - 1; omega) (by rw [oT.1]; show _ - 1 < _; omega), oT.1]; rfl
  exact lp10 m1 T (-1) _ _ (Nat.le_refl _) hs (FD.start (Int.le_refl _))
