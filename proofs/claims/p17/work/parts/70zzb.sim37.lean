theorem r98x {D : Int} {v : vS} {F : xF} {x y z : Int32} (S : Sim D v F) (hx : ¬ hnok x y z) : EC MR 98 [rf 8 1, .inl x, .inl y, .inl z] F (fun o9 t => Sim D (vhunt v x y z) t ∧ AG (ohunt v x y z) o9 t ∧ t 8 1 = F 8 1 ∧ t 8 2 = F 8 2) := by
  refine EC.mk (fun n0 => ?_)
  show BC _ n0 98 0 [rf 8 1, .inl x, .inl y, .inl z, rf 0 0, rf 0 0, rf 0 0] [] _ _
  refine BC.blk c98_0 (fun m1 hm1 => ?_)
  refine c_aload rfl ?_
  refine c_iload rfl ?_
  refine c_iload rfl ?_
  refine d_call mr_rs (e93) ?_
  refine c_if_eq (fun d1 => ?_) (fun d1 => ?_)
  · skip
    refine BC.blk c98_22 (fun m2 hm2 => ?_)
    refine c_iconst ?_
    refine c_goto ?_
    refine BC.blk c98_23 (fun m3 hm3 => ?_)
    refine d_callv mr_rs (e91) ?_
    refine c_if_eq (fun d2 => ?_) (fun d2 => ?_)
    · skip
      first | exact absurd d2 (by decide) | exact absurd d4 (by decide)
    · skip
      refine c_iconst ?_
      exact c_iret ⟨by rw [vhunt, if_neg (fun z => hx z.1)]; exact S.f8 ⟨by decide, by decide⟩, Or.inl ⟨1, by rw [ohunt, if_neg hx], rfl, by decide, by decide⟩, rfl, rfl⟩
  · skip
    refine c_iload rfl ?_
    refine c_iconst ?_
    refine c_iconst ?_
    refine d_call mr_rs (e92) ?_
    refine c_if_eq (fun d3 => ?_) (fun d3 => ?_)
    · skip
      refine BC.blk c98_22 (fun m4 hm4 => ?_)
      refine c_iconst ?_
      refine c_goto ?_
      refine BC.blk c98_23 (fun m5 hm5 => ?_)
      refine d_callv mr_rs (e91) ?_
      refine c_if_eq (fun d4 => ?_) (fun d4 => ?_)
      · skip
        first | exact absurd d2 (by decide) | exact absurd d4 (by decide)
      · skip
        refine c_iconst ?_
        exact c_iret ⟨by rw [vhunt, if_neg (fun z => hx z.1)]; exact S.f8 ⟨by decide, by decide⟩, Or.inl ⟨1, by rw [ohunt, if_neg hx], rfl, by decide, by decide⟩, rfl, rfl⟩
    · skip
      exact absurd ⟨(b2i1.mp d1).1, b2i1.mp d3, (b2i1.mp d1).2⟩ hx
theorem r98o {D : Int} {v : vS} {F : xF} {o h u : Nat} (S : Sim D v F) (ho : o < 3) (hh : h < 4) (hu : u < 24) : EC MR 98 [rf 8 1, .inl (Int32.ofNat o), .inl (Int32.ofNat h), .inl (Int32.ofNat u)] F (fun o9 t => Sim D (vhunt v (Int32.ofNat o) (Int32.ofNat h) (Int32.ofNat u)) t ∧ AG (ohunt v (Int32.ofNat o) (Int32.ofNat h) (Int32.ofNat u)) o9 t ∧ t 8 1 = F 8 1 ∧ t 8 2 = F 8 2) := by
  have hl6 := (S.hun ho hh).2.1
  have oo := ofN (n := o) (by omega)
  have oh := ofN (n := h) (by omega)
  have ou := ofN (n := u) (by omega)
  have h1 : lnok (Int32.ofNat o) (Int32.ofNat u) := by unfold lnok; omega
  have h2 : 0 ≤ (Int32.ofNat h).toInt ∧ (Int32.ofNat h).toInt ≤ 3 := by omega
  have hok : hnok (Int32.ofNat o) (Int32.ofNat h) (Int32.ofNat u) := ⟨h1.1, h2, h1.2⟩
  have S1 : Sim D v (x_u2 F 8 0 0) := S.f8 ⟨by decide, by decide⟩
  have er : hrow (Int32.ofNat o) (Int32.ofNat h) = 30 * o + 3 + h := by unfold hrow; rw [oo.2, oh.2]; rfl
  refine EC.mk (fun n0 => ?_)
  show BC _ n0 98 0 [rf 8 1, .inl (Int32.ofNat o), .inl (Int32.ofNat h), .inl (Int32.ofNat u), rf 0 0, rf 0 0, rf 0 0] [] _ _
  refine BC.blk c98_0 (fun m1 hm1 => ?_)
  refine c_aload rfl ?_
  refine c_iload rfl ?_
  refine c_iload rfl ?_
  refine d_call mr_rs (e93) ?_
  refine c_if_eq (fun d1 => ?_) (fun d1 => ?_)
  · skip
    first | exact absurd h1 (b2i0.mp d1) | exact absurd h2 (b2i0.mp d2)
  · skip
    refine c_iload rfl ?_
    refine c_iconst ?_
    refine c_iconst ?_
    refine d_call mr_rs (e92) ?_
    refine c_if_eq (fun d2 => ?_) (fun d2 => ?_)
    · skip
      first | exact absurd h1 (b2i0.mp d1) | exact absurd h2 (b2i0.mp d2)
    · skip
      refine c_iconst ?_
      refine c_goto ?_
      refine BC.blk c98_23 (fun m2 hm2 => ?_)
      refine d_callv mr_rs (e91) ?_
      refine c_if_eq (fun d3 => ?_) (fun d3 => ?_)
      · skip
        refine BC.blk c98_31 (fun m3 hm3 => ?_)
        refine c_iconst ?_
        refine c_istore rfl ?_
        refine c_iconst ?_
        refine c_iload rfl ?_
        refine c_bin (ofN_mul (4) (o)) ?_
        refine c_istore rfl ?_
        refine c_goto ?_
        have lp39 : ∀ (n : Nat) (g : Nat) (b : Int32) (z6 : xV), g ≤ 4 → TB b (∃ g', g' < g ∧ Int32.ofNat u ∈ v.2.2.1 (30 * o + 3 + g')) → BC MR n 98 39 [rf 8 1, .inl (Int32.ofNat o), .inl (Int32.ofNat h), .inl (Int32.ofNat u), .inl b, .inl (Int32.ofNat (4 * o + g)), z6] [] (x_u2 F 8 0 0) (fun o9 t => Sim D (vhunt v (Int32.ofNat o) (Int32.ofNat h) (Int32.ofNat u)) t ∧ AG (ohunt v (Int32.ofNat o) (Int32.ofNat h) (Int32.ofNat u)) o9 t ∧ t 8 1 = F 8 1 ∧ t 8 2 = F 8 2) := by
          intro n39
          induction n39 using Nat.strongRecOn with
          | ind n39 ih39 =>
            intro g b z6 hg tb
            have og := ofN (n := 4 * o + g) (by omega)
            have o4 := ofN (n := 4 * o + 4) (by omega)
            refine BC.blk c98_39 (fun m4 hm4 => ?_)
            refine c_iload rfl ?_
            refine c_iconst ?_
            refine c_iload rfl ?_
            refine c_bin (ofN_mul (4) (o)) ?_
            refine c_iconst ?_
            refine c_bin (ofN_add ((4 * o)) (4)) ?_
            refine c_icmp_ge (fun d4 => ?_) (fun d4 => ?_)
            · skip
              refine BC.blk c98_105 (fun m5 hm5 => ?_)
              refine c_iconst ?_
              refine c_iload rfl ?_
              refine c_bin (ofN_mul (4) (o)) ?_
              refine c_iload rfl ?_
              refine c_bin (ofN_add ((4 * o)) (h)) ?_
              refine c_istore rfl ?_
              refine c_aload rfl ?_
              refine c_iload rfl ?_
              refine c_if_ne (fun d5 => ?_) (fun d5 => ?_)
              · skip
                refine BC.blk c98_130 (fun m6 hm6 => ?_)
                refine c_iconst ?_
                refine c_goto ?_
                refine BC.blk c98_135 (fun m7 hm7 => ?_)
                refine d_callv mr_rs (e91) ?_
                refine c_if_eq (fun d6 => ?_) (fun d6 => ?_)
                · skip
                  refine BC.blk c98_143 (fun m8 hm8 => ?_)
                  refine c_aload rfl ?_
                  refine c_gfr (fun _ C _ => C.ar (k := 8) (K := 27) (n := 72) (by decide)) ?_
                  refine c_iconst ?_
                  refine c_iload rfl ?_
                  refine c_bin (ofN_mul (6) (((4 * o) + h))) ?_
                  refine c_aload rfl ?_
                  refine c_gfr (fun _ C _ => C.ar (k := 7) (K := 26) (n := 12) (by decide)) ?_
                  refine c_iload rfl ?_
                  refine c_ald (fun _ C l9 i9 => (fun z => ⟨z.1, z.2.trans ((S1.hun ho hh).1.1)⟩) (C.an (k := 7) (K := 26) (n := 12) (by decide) i9 (ofN (by omega)).2)) (fun p1 => ?_)
                  refine c_bin (ofN_add ((6 * ((4 * o) + h))) ((v.2.2.1 (30 * o + 3 + h)).length)) ?_
                  refine c_iload rfl ?_
                  refine c_ast (fun _ C l9 i9 => C.sn (k := 8) (K := 27) (n := 72) (by decide) i9 (ofN (by omega)).2) (fun p2 => ?_)
                  refine c_aload rfl ?_
                  refine c_gfr (fun _ C _ => C.ar (k := 7) (K := 26) (n := 12) (by decide)) ?_
                  refine c_iload rfl ?_
                  refine c_dup2 ?_
                  refine c_ald (fun _ C l9 i9 => (fun z => ⟨z.1, z.2.trans ((u2_ne (by decide)).trans (S1.hun ho hh).1.1)⟩) (C.an (k := 7) (K := 26) (n := 12) (by decide) i9 (ofN (by omega)).2)) (fun p3 => ?_)
                  refine c_iconst ?_
                  refine c_bin (ofN_add ((v.2.2.1 (30 * o + 3 + h)).length) (1)) ?_
                  refine c_ast (fun _ C l9 i9 => C.sn (k := 7) (K := 26) (n := 12) (by decide) i9 (ofN (by omega)).2) (fun p4 => ?_)
                  refine c_aload rfl ?_
                  refine c_gfr (fun _ C _ => C.ar (k := 7) (K := 26) (n := 12) (by decide)) ?_
                  refine c_iload rfl ?_
                  refine c_ald (fun _ C l9 i9 => (fun z => ⟨z.1, z.2.trans u2_eq⟩) (C.an (k := 7) (K := 26) (n := 12) (by decide) i9 (ofN (by omega)).2)) (fun p5 => ?_)
                  exact c_iret (absurd d6 (by decide))
                · skip
                  refine c_iconst ?_
                  obtain ⟨g', z1, z2⟩ := tb.t d5
                  have hna : ¬ hnal v (Int32.ofNat o) (Int32.ofNat h) (Int32.ofNat u) := fun z => by
                    have z := z.2
                    rw [oo.2] at z
                    exact iah_s (by omega) z2 z
                  exact c_iret ⟨by rw [vhunt, if_neg (fun z => hna z.2)]; exact S1.f8 ⟨by decide, by decide⟩, Or.inl ⟨2, by rw [ohunt, if_pos hok, if_neg hna], rfl, by decide, by decide⟩, rfl, rfl⟩
              · skip
                refine c_aload rfl ?_
                refine c_gfr (fun _ C _ => C.ar (k := 7) (K := 26) (n := 12) (by decide)) ?_
                refine c_iload rfl ?_
                refine c_ald (fun _ C l9 i9 => (fun z => ⟨z.1, z.2.trans ((S1.hun ho hh).1.1)⟩) (C.an (k := 7) (K := 26) (n := 12) (by decide) i9 (ofN (by omega)).2)) (fun p6 => ?_)
                refine c_iconst ?_
                refine c_icmp_ne (fun d7 => ?_) (fun d7 => ?_)
                · skip
                  refine BC.blk c98_134 (fun m9 hm9 => ?_)
                  refine c_iconst ?_
                  refine c_goto ?_
                  refine BC.blk c98_135 (fun m10 hm10 => ?_)
                  refine d_callv mr_rs (e91) ?_
                  refine c_if_eq (fun d8 => ?_) (fun d8 => ?_)
                  · skip
                    refine BC.blk c98_143 (fun m11 hm11 => ?_)
                    refine c_aload rfl ?_
                    refine c_gfr (fun _ C _ => C.ar (k := 8) (K := 27) (n := 72) (by decide)) ?_
                    refine c_iconst ?_
                    refine c_iload rfl ?_
                    refine c_bin (ofN_mul (6) (((4 * o) + h))) ?_
                    refine c_aload rfl ?_
                    refine c_gfr (fun _ C _ => C.ar (k := 7) (K := 26) (n := 12) (by decide)) ?_
                    refine c_iload rfl ?_
                    refine c_ald (fun _ C l9 i9 => (fun z => ⟨z.1, z.2.trans ((S1.hun ho hh).1.1)⟩) (C.an (k := 7) (K := 26) (n := 12) (by decide) i9 (ofN (by omega)).2)) (fun p7 => ?_)
                    refine c_bin (ofN_add ((6 * ((4 * o) + h))) ((v.2.2.1 (30 * o + 3 + h)).length)) ?_
                    refine c_iload rfl ?_
                    refine c_ast (fun _ C l9 i9 => C.sn (k := 8) (K := 27) (n := 72) (by decide) i9 (ofN (by omega)).2) (fun p8 => ?_)
                    refine c_aload rfl ?_
                    refine c_gfr (fun _ C _ => C.ar (k := 7) (K := 26) (n := 12) (by decide)) ?_
                    refine c_iload rfl ?_
                    refine c_dup2 ?_
                    refine c_ald (fun _ C l9 i9 => (fun z => ⟨z.1, z.2.trans ((u2_ne (by decide)).trans (S1.hun ho hh).1.1)⟩) (C.an (k := 7) (K := 26) (n := 12) (by decide) i9 (ofN (by omega)).2)) (fun p9 => ?_)
                    refine c_iconst ?_
                    refine c_bin (ofN_add ((v.2.2.1 (30 * o + 3 + h)).length) (1)) ?_
                    refine c_ast (fun _ C l9 i9 => C.sn (k := 7) (K := 26) (n := 12) (by decide) i9 (ofN (by omega)).2) (fun p10 => ?_)
                    refine c_aload rfl ?_
                    refine c_gfr (fun _ C _ => C.ar (k := 7) (K := 26) (n := 12) (by decide)) ?_
                    refine c_iload rfl ?_
                    refine c_ald (fun _ C l9 i9 => (fun z => ⟨z.1, z.2.trans u2_eq⟩) (C.an (k := 7) (K := 26) (n := 12) (by decide) i9 (ofN (by omega)).2)) (fun p11 => ?_)
                    have hlen : (v.2.2.1 (30 * o + 3 + h)).length < 6 := by
                      have h6 := (S.hun ho hh).2.1
                      have : (v.2.2.1 (30 * o + 3 + h)).length ≠ 6 := fun e => d7 (by rw [e]; rfl)
                      omega
                    have hno : ∀ g', g' < 4 → Int32.ofNat u ∉ v.2.2.1 (30 * o + 3 + g') := fun g' z1 z2 => tb.f d5 ⟨g', by omega, z2⟩
                    have hal : hnal v (Int32.ofNat o) (Int32.ofNat h) (Int32.ofNat u) := ⟨by rw [er]; exact hlen, by rw [oo.2]; exact iah_n hno⟩
                    have ra : radd (cap (30 * o + 3 + h)) (v.2.2.1 (30 * o + 3 + h)) (Int32.ofNat u) = v.2.2.1 (30 * o + 3 + h) ++ [Int32.ofNat u] := by unfold radd; rw [cap_hunt ho hh, if_pos hlen]
                    have S2 : Sim D v (x_u2 (x_u2 F 8 0 0) 8 0 0) := S1.f8 ⟨by decide, by decide⟩
                    exact c_iret ⟨by rw [vhunt, if_pos ⟨hok, hal⟩, er, ra]; exact S2.hunt ho hh hu hlen hno, Or.inr ⟨_, by rw [ohunt, if_pos hok, if_pos hal, er, ra, List.length_append]; rfl, rfl, rfl⟩, rfl, rfl⟩
                  · skip
                    refine c_iconst ?_
                    exact c_iret (absurd (show b2i (0 < (0 : Int32).toInt) = 0 from rfl) d8)
                · skip
                  refine c_goto ?_
                  refine BC.blk c98_130 (fun m12 hm12 => ?_)
                  refine c_iconst ?_
                  refine c_goto ?_
                  refine BC.blk c98_135 (fun m13 hm13 => ?_)
                  refine d_callv mr_rs (e91) ?_
                  refine c_if_eq (fun d9 => ?_) (fun d9 => ?_)
                  · skip
                    refine BC.blk c98_143 (fun m14 hm14 => ?_)
                    refine c_aload rfl ?_
                    refine c_gfr (fun _ C _ => C.ar (k := 8) (K := 27) (n := 72) (by decide)) ?_
                    refine c_iconst ?_
                    refine c_iload rfl ?_
                    refine c_bin (ofN_mul (6) (((4 * o) + h))) ?_
                    refine c_aload rfl ?_
                    refine c_gfr (fun _ C _ => C.ar (k := 7) (K := 26) (n := 12) (by decide)) ?_
                    refine c_iload rfl ?_
                    refine c_ald (fun _ C l9 i9 => (fun z => ⟨z.1, z.2.trans ((S1.hun ho hh).1.1)⟩) (C.an (k := 7) (K := 26) (n := 12) (by decide) i9 (ofN (by omega)).2)) (fun p12 => ?_)
                    refine c_bin (ofN_add ((6 * ((4 * o) + h))) ((v.2.2.1 (30 * o + 3 + h)).length)) ?_
                    refine c_iload rfl ?_
                    refine c_ast (fun _ C l9 i9 => C.sn (k := 8) (K := 27) (n := 72) (by decide) i9 (ofN (by omega)).2) (fun p13 => ?_)
                    refine c_aload rfl ?_
                    refine c_gfr (fun _ C _ => C.ar (k := 7) (K := 26) (n := 12) (by decide)) ?_
                    refine c_iload rfl ?_
                    refine c_dup2 ?_
                    refine c_ald (fun _ C l9 i9 => (fun z => ⟨z.1, z.2.trans ((u2_ne (by decide)).trans (S1.hun ho hh).1.1)⟩) (C.an (k := 7) (K := 26) (n := 12) (by decide) i9 (ofN (by omega)).2)) (fun p14 => ?_)
                    refine c_iconst ?_
                    refine c_bin (ofN_add ((v.2.2.1 (30 * o + 3 + h)).length) (1)) ?_
                    refine c_ast (fun _ C l9 i9 => C.sn (k := 7) (K := 26) (n := 12) (by decide) i9 (ofN (by omega)).2) (fun p15 => ?_)
                    refine c_aload rfl ?_
                    refine c_gfr (fun _ C _ => C.ar (k := 7) (K := 26) (n := 12) (by decide)) ?_
                    refine c_iload rfl ?_
                    refine c_ald (fun _ C l9 i9 => (fun z => ⟨z.1, z.2.trans u2_eq⟩) (C.an (k := 7) (K := 26) (n := 12) (by decide) i9 (ofN (by omega)).2)) (fun p16 => ?_)
                    exact c_iret (absurd d9 (by decide))
                  · skip
                    refine c_iconst ?_
                    have hna : ¬ hnal v (Int32.ofNat o) (Int32.ofNat h) (Int32.ofNat u) := fun z => by
                      have z := z.1
                      rw [er] at z
                      have := ofN_inj (a := (v.2.2.1 (30 * o + 3 + h)).length) (b := 6) (by omega) (by omega) d7
                      omega
                    exact c_iret ⟨by rw [vhunt, if_neg (fun z => hna z.2)]; exact S1.f8 ⟨by decide, by decide⟩, Or.inl ⟨2, by rw [ohunt, if_pos hok, if_neg hna], rfl, by decide, by decide⟩, rfl, rfl⟩
            · skip
              refine c_iconst ?_
              refine c_istore rfl ?_
              refine c_goto ?_
              have lp52 : ∀ (n : Nat) (k : Nat) (b : Int32), n < n39 → k ≤ 6 → k ≤ (v.2.2.1 (30 * o + 3 + g)).length → TB b ((∃ g', g' < g ∧ Int32.ofNat u ∈ v.2.2.1 (30 * o + 3 + g')) ∨ Int32.ofNat u ∈ (v.2.2.1 (30 * o + 3 + g)).take k) → BC MR n 98 52 [rf 8 1, .inl (Int32.ofNat o), .inl (Int32.ofNat h), .inl (Int32.ofNat u), .inl b, .inl (Int32.ofNat (4 * o + g)), .inl (Int32.ofNat k)] [] (x_u2 F 8 0 0) (fun o9 t => Sim D (vhunt v (Int32.ofNat o) (Int32.ofNat h) (Int32.ofNat u)) t ∧ AG (ohunt v (Int32.ofNat o) (Int32.ofNat h) (Int32.ofNat u)) o9 t ∧ t 8 1 = F 8 1 ∧ t 8 2 = F 8 2) := by
                intro n52
                induction n52 using Nat.strongRecOn with
                | ind n52 ih52 =>
                  intro k b hn52 hk hkl tb
                  have ok := ofN (n := k) (by omega)
                  have hun := S.hun ho (show g < 4 by omega)
                  have hle := hun.2.1
                  have oL := ofN (n := (v.2.2.1 (30 * o + 3 + g)).length) (by omega)
                  refine BC.blk c98_52 (fun m15 hm15 => ?_)
                  refine c_iload rfl ?_
                  refine c_aload rfl ?_
                  refine c_gfr (fun _ C _ => C.ar (k := 7) (K := 26) (n := 12) (by decide)) ?_
                  refine c_iload rfl ?_
                  refine c_ald (fun _ C l9 i9 => (fun z => ⟨z.1, z.2.trans ((S1.hun ho (show g < 4 by omega)).1.1)⟩) (C.an (k := 7) (K := 26) (n := 12) (by decide) i9 (ofN (by omega)).2)) (fun p17 => ?_)
                  refine c_icmp_ge (fun d10 => ?_) (fun d10 => ?_)
                  · skip
                    refine BC.blk c98_99 (fun m16 hm16 => ?_)
                    refine c_iincN (i := (4 * o + g)) (k := 1) rfl rfl rfl ?_
                    refine c_goto ?_
                    exact ih39 m16 (by omega) (g + 1) b _ (by omega) (tb.iff ⟨fun w => w.elim (fun ⟨g', z1, z2⟩ => ⟨g', by omega, z2⟩) (fun w => ⟨g, by omega, List.mem_of_mem_take w⟩), fun ⟨g', z1, z2⟩ => if z : g' = g then Or.inr (by rw [List.take_of_length_le (by omega), ← z]; exact z2) else Or.inl ⟨g', by omega, z2⟩⟩)
                  · skip
                    have hy := List.getElem?_eq_getElem (l := v.2.2.1 (30 * o + 3 + g)) (i := k) (by omega)
                    have e27 := hun.1.2 k _ hy
                    refine c_iload rfl ?_
                    refine c_if_ne (fun d11 => ?_) (fun d11 => ?_)
                    · skip
                      refine BC.blk c98_86 (fun m17 hm17 => ?_)
                      refine c_iconst ?_
                      refine c_goto ?_
                      refine BC.blk c98_91 (fun m18 hm18 => ?_)
                      refine c_istore rfl ?_
                      refine c_iincN (i := k) (k := 1) rfl rfl rfl ?_
                      refine c_goto ?_
                      exact ih52 m18 (by omega) (k + 1) 1 (by omega) (by omega) (by omega) (Or.inl ⟨rfl, (tb.t d11).elim Or.inl (fun z => Or.inr (by rw [take_s hy]; exact List.mem_append_left _ z))⟩)
                    · skip
                      refine c_aload rfl ?_
                      refine c_gfr (fun _ C _ => C.ar (k := 8) (K := 27) (n := 72) (by decide)) ?_
                      refine c_iconst ?_
                      refine c_iload rfl ?_
                      refine c_bin (ofN_mul (6) ((4 * o + g))) ?_
                      refine c_iload rfl ?_
                      refine c_bin (ofN_add ((6 * (4 * o + g))) (k)) ?_
                      refine c_ald (fun _ C l9 i9 => (fun z => ⟨z.1, z.2.trans (show _ = F 27 (6 * (4 * o + g) + k) from rfl)⟩) (C.an (k := 8) (K := 27) (n := 72) (by decide) i9 (ofN (by omega)).2)) (fun p18 => ?_)
                      refine c_iload rfl ?_
                      refine c_icmp_ne (fun d12 => ?_) (fun d12 => ?_)
                      · skip
                        refine BC.blk c98_90 (fun m19 hm19 => ?_)
                        refine c_iconst ?_
                        refine c_goto ?_
                        refine BC.blk c98_91 (fun m20 hm20 => ?_)
                        refine c_istore rfl ?_
                        refine c_iincN (i := k) (k := 1) rfl rfl rfl ?_
                        refine c_goto ?_
                        exact ih52 m20 (by omega) (k + 1) 0 (by omega) (by omega) (by omega) (Or.inr ⟨rfl, fun w => w.elim (fun z => tb.f d11 (Or.inl z)) (fun z => by rw [take_s hy] at z; exact (List.mem_append.mp z).elim (fun y => tb.f d11 (Or.inr y)) (fun y => d12 (e27.trans (List.mem_singleton.mp y).symm)))⟩)
                      · skip
                        refine c_goto ?_
                        refine BC.blk c98_86 (fun m21 hm21 => ?_)
                        refine c_iconst ?_
                        refine c_goto ?_
                        refine BC.blk c98_91 (fun m22 hm22 => ?_)
                        refine c_istore rfl ?_
                        refine c_iincN (i := k) (k := 1) rfl rfl rfl ?_
                        refine c_goto ?_
                        exact ih52 m22 (by omega) (k + 1) 1 (by omega) (by omega) (by omega) (Or.inl ⟨rfl, Or.inr (by rw [take_s hy]; exact List.mem_append_right _ (List.mem_singleton.mpr (d12.symm.trans e27)))⟩)
              exact lp52 m4 0 b (by omega) (by omega) (Nat.zero_le _) (tb.iff ⟨fun w => Or.inl w, fun w => w.elim id (fun z => by rw [List.take_zero] at z; cases z)⟩)
        exact lp39 m3 0 0 _ (by omega) (Or.inr ⟨rfl, fun ⟨g', z, _⟩ => absurd z (by omega)⟩)
      · skip
        exact absurd (show b2i (0 < (0 : Int32).toInt) = 0 from rfl) d3
