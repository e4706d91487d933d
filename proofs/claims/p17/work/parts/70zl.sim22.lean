section XDL
variable {D : Int} {v : vS} {F : xF} {o u : Nat} {z : Int32}
theorem od_2 (S : Sim D v F) (ho : o < 3) (hu : u < 24) (hz : 0 ≤ z.toInt ∧ z.toInt ≤ 9) (h22 : F 22 (24 * o + u) = 0) : odial v (Int32.ofNat o) (Int32.ofNat u) z = .inr 2 ∧ vdial v (Int32.ofNat o) (Int32.ofNat u) z = v := by
  have e : v.1 2 2 (24 * o + u + 1) = 0 := (S.li (c := 24 * o + u) (by omega)).trans h22
  unfold odial vdial
  rw [if_pos ⟨lnok_e ho hu, hz⟩, lno_e ho hu, if_pos e, if_neg (fun w => w.2.1 e)]
  exact ⟨rfl, rfl⟩
theorem od_n (S : Sim D v F) (ho : o < 3) (hu : u < 24) (hz : 0 ≤ z.toInt ∧ z.toInt ≤ 9) (h22 : ¬ F 22 (24 * o + u) = 0) (h47 : ¬ F 47 (24 * o + u) = 1) : odial v (Int32.ofNat o) (Int32.ofNat u) z = oi 0 ∧ vdial v (Int32.ofNat o) (Int32.ofNat u) z = v := by
  have e : ¬ v.1 2 2 (24 * o + u + 1) = 0 := fun w => h22 ((S.li (c := 24 * o + u) (by omega)).symm.trans w)
  have key : ¬ (¬ v.2.1 2 5 (24 * o + u + 1) = 0 ∧ v.2.1 1 2 (v.2.1 2 5 (24 * o + u + 1)) = 2) := by
    rintro ⟨a, b⟩
    by_cases h0 : F 47 (24 * o + u) = 0
    · by_cases h28 : (F 28 (24 * o + u)).toInt < 0
      · exact a (S.cr0 (by omega) h0 h28)
      · obtain ⟨c, hc, ec⟩ := S.b28 (c := 24 * o + u) (by omega) (Int.not_lt.mp h28)
        obtain ⟨k1, k2, k3, k4⟩ := S.cr2 (c := 24 * o + u) (by omega) hc ec
        rw [k1] at b
        have h1 := (S.stg hc 1 (by omega)).mp b
        have := ((S.pl hc).2.2.2.2.2.2.2.2.2.2.2.1 (by rw [h1]; decide) (by rw [h1]; decide)).2.1
        rw [k4, (ofN (n := 24 * o + u) (by omega)).1] at this
        omega
    · rw [S.cr1 (by omega) h0] at b
      exact h47 ((S.stg (by omega) 1 (by omega)).mp b)
  unfold odial vdial
  rw [if_pos ⟨lnok_e ho hu, hz⟩, lno_e ho hu, if_neg e, b2i_neg key, if_neg (fun w => key w.2.2)]
  exact ⟨rfl, rfl⟩
theorem od_o (S : Sim D v F) (ho : o < 3) (hu : u < 24) (hz : 0 ≤ z.toInt ∧ z.toInt ≤ 9) (h22 : ¬ F 22 (24 * o + u) = 0) (h47 : F 47 (24 * o + u) = 1) : odial v (Int32.ofNat o) (Int32.ofNat u) z = oi 1 ∧ vdial v (Int32.ofNat o) (Int32.ofNat u) z = vdig v (o + 1) (24 * o + u + 1) z := by
  have e : ¬ v.1 2 2 (24 * o + u + 1) = 0 := fun w => h22 ((S.li (c := 24 * o + u) (by omega)).symm.trans w)
  have h0 : ¬ F 47 (24 * o + u) = 0 := by rw [h47]; decide
  have k1 := S.cr1 (c := 24 * o + u) (by omega) h0
  have k2 := (S.stg (c := 24 * o + u) (by omega) 1 (by omega)).mpr h47
  unfold odial vdial
  rw [if_pos ⟨lnok_e ho hu, hz⟩, lno_e ho hu, if_neg e, k1, b2i_pos ⟨by omega, k2⟩, if_pos ⟨⟨lnok_e ho hu, hz⟩, e, by omega, k2⟩, (ofN (n := o) (by omega)).2]
  exact ⟨rfl, rfl⟩
/-- some prefix fits, or may yet -/
def MM (g : Nat → Int32) (q : Nat) (F : xF) (o N m : Nat) : Prop := (∃ k, k < N ∧ FTx g q (F 30 (12 * o + k)).toInt) ∨ ∃ k, k < m ∧ MBx g q (F 30 (12 * o + k)).toInt
theorem MM.st {g : Nat → Int32} {q N m : Nat} {b b' : Int32} (h : TB b (MM g q F o N m)) (hb : b = 0) (h' : TB b' (MBx g q (F 30 (12 * o + m)).toInt)) : TB b' (MM g q F o N (m + 1)) := by
  have hn := h.f hb
  refine h'.iff ⟨fun w => Or.inr ⟨m, by omega, w⟩, fun w => ?_⟩
  rcases w with w | ⟨k, k1, k2⟩
  · exact absurd (Or.inl w) hn
  · by_cases e : k = m
    · rw [← e]; exact k2
    · exact absurd (Or.inr ⟨k, by omega, k2⟩) hn
theorem MM.yes {g : Nat → Int32} {q N m : Nat} {b : Int32} (h : TB b (MM g q F o N m)) (hb : ¬ b = 0) : TB 1 (MM g q F o N (m + 1)) := by
  refine Or.inl ⟨rfl, ?_⟩
  rcases h.t hb with w | ⟨k, k1, k2⟩
  · exact Or.inl w
  · exact Or.inr ⟨k, by omega, k2⟩
theorem TB.one {b : Int32} {P : Prop} (h : TB b P) (hb : ¬ b = 0) : b = 1 := h.elim (fun w => w.1) (fun w => absurd w.1 hb)
end XDL
theorem vdg_0 {v : vS} {jo j : Nat} {z : Int32} (h : rof v jo (v.1 1 6 j * 10 + z) = none) : vdig v jo j z = if (cbp v jo (v.1 1 6 j * 10 + z)).isSome = true then vd0 v j z else vend (vd0 v j z) j 5 := by
  have e : vdm v jo j z = 0 := by unfold vdm; rw [h]; rfl
  unfold vdig
  rw [if_pos e]
theorem vdg_k {v : vS} {jo j k : Nat} {z : Int32} (h : rof v jo (v.1 1 6 j * 10 + z) = some k) (hm : ¬ v.2.1 18 jo k = 0) : vdig v jo j z = if (dbh v (v.2.1 18 jo k) (v.1 1 6 j * 10 + z)).toInt < 2 then vd0 v j z else vjob (vpr (vd0 v j z) 1 4 j (v.2.1 18 jo k)) jo j := by
  have e : vdm v jo j z = v.2.1 18 jo k := by unfold vdm; rw [h]; rfl
  unfold vdig
  rw [e, if_neg hm]
theorem raddj_8 {F : xF} {c o n i : Nat} : raddj F c o n 8 i = F 8 i := rfl
theorem r115x {D : Int} {v : vS} {F : xF} {x y z : Int32} (S : Sim D v F) (hx : ¬ (lnok x y ∧ (0 ≤ z.toInt ∧ z.toInt ≤ 9))) : EC MR 115 [rf 8 1, .inl x, .inl y, .inl z] F (fun o9 t => Sim D (vdial v x y z) t ∧ AG (odial v x y z) o9 t ∧ t 8 1 = F 8 1 ∧ t 8 2 = F 8 2) := by
  refine EC.mk (fun n0 => ?_)
  show BC _ n0 115 0 [rf 8 1, .inl x, .inl y, .inl z, rf 0 0, rf 0 0, rf 0 0, rf 0 0, rf 0 0] [] _ _
  refine BC.blk c115_0 (fun m1 hm1 => ?_)
  refine c_iload rfl ?_
  refine c_iload rfl ?_
  refine d_call mr_rs (e93) ?_
  refine c_if_eq (fun d1 => ?_) (fun d1 => ?_)
  · skip
    refine BC.blk c115_22 (fun m2 hm2 => ?_)
    refine c_iconst ?_
    refine c_goto ?_
    refine BC.blk c115_23 (fun m3 hm3 => ?_)
    refine c_istore rfl ?_
    refine c_aload rfl ?_
    refine c_iload rfl ?_
    refine c_if_ne (fun d2 => ?_) (fun d2 => ?_)
    · exact absurd d2 (by decide)
    · skip
      refine c_iconst ?_
      refine c_goto ?_
      refine BC.blk c115_54 (fun m4 hm4 => ?_)
      refine d_callv mr_rs (e91) ?_
      refine c_if_eq (fun d3 => ?_) (fun d3 => ?_)
      · skip
        first | exact absurd d3 (by decide) | exact absurd d6 (by decide)
      · skip
        refine c_iconst ?_
        exact c_zret ⟨by rw [vdial, if_neg (fun w => hx w.1)]; exact S.f8 ⟨by decide, by decide⟩, Or.inl ⟨1, by rw [odial, if_neg hx], rfl, by decide, by decide⟩, rfl, rfl⟩
  · skip
    refine c_iload rfl ?_
    refine c_iconst ?_
    refine c_iconst ?_
    refine d_call mr_rs (e92) ?_
    refine c_if_eq (fun d4 => ?_) (fun d4 => ?_)
    · skip
      refine BC.blk c115_22 (fun m5 hm5 => ?_)
      refine c_iconst ?_
      refine c_goto ?_
      refine BC.blk c115_23 (fun m6 hm6 => ?_)
      refine c_istore rfl ?_
      refine c_aload rfl ?_
      refine c_iload rfl ?_
      refine c_if_ne (fun d5 => ?_) (fun d5 => ?_)
      · exact absurd d5 (by decide)
      · skip
        refine c_iconst ?_
        refine c_goto ?_
        refine BC.blk c115_54 (fun m7 hm7 => ?_)
        refine d_callv mr_rs (e91) ?_
        refine c_if_eq (fun d6 => ?_) (fun d6 => ?_)
        · skip
          first | exact absurd d3 (by decide) | exact absurd d6 (by decide)
        · skip
          refine c_iconst ?_
          exact c_zret ⟨by rw [vdial, if_neg (fun w => hx w.1)]; exact S.f8 ⟨by decide, by decide⟩, Or.inl ⟨1, by rw [odial, if_neg hx], rfl, by decide, by decide⟩, rfl, rfl⟩
    · skip
      exact absurd (And.intro (b2i1.mp d1) (b2i1.mp d4)) hx
theorem r115l {D : Int} {v : vS} {F : xF} {o u : Nat} {z : Int32} (S : Sim D v F) (ho : o < 3) (hu : u < 24) (hz : 0 ≤ z.toInt ∧ z.toInt ≤ 9) (h22 : F 22 (24 * o + u) = 0) : EC MR 115 [rf 8 1, .inl (Int32.ofNat o), .inl (Int32.ofNat u), .inl z] F (fun o9 t => Sim D (vdial v (Int32.ofNat o) (Int32.ofNat u) z) t ∧ AG (odial v (Int32.ofNat o) (Int32.ofNat u) z) o9 t ∧ t 8 1 = F 8 1 ∧ t 8 2 = F 8 2) := by
  refine EC.mk (fun n0 => ?_)
  show BC _ n0 115 0 [rf 8 1, .inl (Int32.ofNat o), .inl (Int32.ofNat u), .inl z, rf 0 0, rf 0 0, rf 0 0, rf 0 0, rf 0 0] [] _ _
  refine BC.blk c115_0 (fun m1 hm1 => ?_)
  refine c_iload rfl ?_
  refine c_iload rfl ?_
  refine d_call mr_rs (e93) ?_
  refine c_if_eq (fun d1 => ?_) (fun d1 => ?_)
  · skip
    first | exact absurd (lnok_e ho hu) (b2i0.mp d1) | exact absurd hz (b2i0.mp d2)
  · skip
    refine c_iload rfl ?_
    refine c_iconst ?_
    refine c_iconst ?_
    refine d_call mr_rs (e92) ?_
    refine c_if_eq (fun d2 => ?_) (fun d2 => ?_)
    · skip
      first | exact absurd (lnok_e ho hu) (b2i0.mp d1) | exact absurd hz (b2i0.mp d2)
    · skip
      refine c_iconst ?_
      refine c_goto ?_
      refine BC.blk c115_23 (fun m2 hm2 => ?_)
      refine c_istore rfl ?_
      refine c_aload rfl ?_
      refine c_iload rfl ?_
      refine c_if_ne (fun d3 => ?_) (fun d3 => ?_)
      · skip
        refine BC.blk c115_35 (fun m3 hm3 => ?_)
        refine c_aload rfl ?_
        refine c_gfr (fun _ C _ => C.ar (k := 3) (K := 22) (n := 72) (by decide)) ?_
        refine c_iconst ?_
        refine c_iload rfl ?_
        refine c_bin (ofN_mul (24) (o)) ?_
        refine c_iload rfl ?_
        refine c_bin (ofN_add ((24 * o)) (u)) ?_
        refine c_ald (fun _ C l9 i9 => C.an (k := 3) (K := 22) (n := 72) (by decide) i9 (ofN (by omega)).2) (fun p1 => ?_)
        refine c_if_ne (fun d4 => ?_) (fun d4 => ?_)
        · skip
          exact absurd h22 d4
        · skip
          refine c_iconst ?_
          refine c_goto ?_
          refine BC.blk c115_54 (fun m4 hm4 => ?_)
          refine d_callv mr_rs (e91) ?_
          refine c_if_eq (fun d5 => ?_) (fun d5 => ?_)
          · skip
            exact absurd d5 (by decide)
          · skip
            refine c_iconst ?_
            exact c_zret ⟨by rw [(od_2 S ho hu hz h22).2]; exact S.f8 ⟨by decide, by decide⟩, Or.inl ⟨2, (od_2 S ho hu hz h22).1, rfl, by decide, by decide⟩, rfl, rfl⟩
      · exact absurd d3 (by decide)
theorem r115n {D : Int} {v : vS} {F : xF} {o u : Nat} {z : Int32} (S : Sim D v F) (ho : o < 3) (hu : u < 24) (hz : 0 ≤ z.toInt ∧ z.toInt ≤ 9) (h22 : ¬ F 22 (24 * o + u) = 0) (h47 : ¬ F 47 (24 * o + u) = 1) : EC MR 115 [rf 8 1, .inl (Int32.ofNat o), .inl (Int32.ofNat u), .inl z] F (fun o9 t => Sim D (vdial v (Int32.ofNat o) (Int32.ofNat u) z) t ∧ AG (odial v (Int32.ofNat o) (Int32.ofNat u) z) o9 t ∧ t 8 1 = F 8 1 ∧ t 8 2 = F 8 2) := by
  refine EC.mk (fun n0 => ?_)
  show BC _ n0 115 0 [rf 8 1, .inl (Int32.ofNat o), .inl (Int32.ofNat u), .inl z, rf 0 0, rf 0 0, rf 0 0, rf 0 0, rf 0 0] [] _ _
  refine BC.blk c115_0 (fun m1 hm1 => ?_)
  refine c_iload rfl ?_
  refine c_iload rfl ?_
  refine d_call mr_rs (e93) ?_
  refine c_if_eq (fun d1 => ?_) (fun d1 => ?_)
  · skip
    first | exact absurd (lnok_e ho hu) (b2i0.mp d1) | exact absurd hz (b2i0.mp d2)
  · skip
    refine c_iload rfl ?_
    refine c_iconst ?_
    refine c_iconst ?_
    refine d_call mr_rs (e92) ?_
    refine c_if_eq (fun d2 => ?_) (fun d2 => ?_)
    · skip
      first | exact absurd (lnok_e ho hu) (b2i0.mp d1) | exact absurd hz (b2i0.mp d2)
    · skip
      refine c_iconst ?_
      refine c_goto ?_
      refine BC.blk c115_23 (fun m2 hm2 => ?_)
      refine c_istore rfl ?_
      refine c_aload rfl ?_
      refine c_iload rfl ?_
      refine c_if_ne (fun d3 => ?_) (fun d3 => ?_)
      · skip
        refine BC.blk c115_35 (fun m3 hm3 => ?_)
        refine c_aload rfl ?_
        refine c_gfr (fun _ C _ => C.ar (k := 3) (K := 22) (n := 72) (by decide)) ?_
        refine c_iconst ?_
        refine c_iload rfl ?_
        refine c_bin (ofN_mul (24) (o)) ?_
        refine c_iload rfl ?_
        refine c_bin (ofN_add ((24 * o)) (u)) ?_
        refine c_ald (fun _ C l9 i9 => C.an (k := 3) (K := 22) (n := 72) (by decide) i9 (ofN (by omega)).2) (fun p1 => ?_)
        refine c_if_ne (fun d4 => ?_) (fun d4 => ?_)
        · skip
          refine BC.blk c115_53 (fun m4 hm4 => ?_)
          refine c_iconst ?_
          refine c_goto ?_
          refine BC.blk c115_54 (fun m5 hm5 => ?_)
          refine d_callv mr_rs (e91) ?_
          refine c_if_eq (fun d5 => ?_) (fun d5 => ?_)
          · skip
            refine BC.blk c115_62 (fun m6 hm6 => ?_)
            refine c_iconst ?_
            refine c_iload rfl ?_
            refine c_bin (ofN_mul (24) (o)) ?_
            refine c_iload rfl ?_
            refine c_bin (ofN_add ((24 * o)) (u)) ?_
            refine c_istore rfl ?_
            refine c_aload rfl ?_
            refine c_gfr (fun _ C _ => C.ar (k := 29) (K := 47) (n := 72) (by decide)) ?_
            refine c_iload rfl ?_
            refine c_ald (fun _ C l9 i9 => C.an (k := 29) (K := 47) (n := 72) (by decide) i9 (ofN (by omega)).2) (fun p2 => ?_)
            refine c_iconst ?_
            refine c_icmp_eq (fun d6 => ?_) (fun d6 => ?_)
            · skip
              exact absurd d6 h47
            · skip
              refine c_iconst ?_
              exact c_zret ⟨by rw [(od_n S ho hu hz h22 h47).2]; exact S.f8 ⟨by decide, by decide⟩, Or.inr ⟨_, (od_n S ho hu hz h22 h47).1, rfl, rfl⟩, rfl, rfl⟩
          · skip
            exact absurd (show b2i (0 < (0 : Int32).toInt) = 0 from rfl) d5
        · skip
          exact absurd d4 h22
      · exact absurd d3 (by decide)
theorem r115o {D : Int} {v : vS} {F : xF} {o u : Nat} {z : Int32} (S : Sim D v F) (ho : o < 3) (hu : u < 24) (hz : 0 ≤ z.toInt ∧ z.toInt ≤ 9) (h22 : ¬ F 22 (24 * o + u) = 0) (h47 : F 47 (24 * o + u) = 1) (hD : (F 8 1).toInt < D) : EC MR 115 [rf 8 1, .inl (Int32.ofNat o), .inl (Int32.ofNat u), .inl z] F (fun o9 t => Sim D (vdial v (Int32.ofNat o) (Int32.ofNat u) z) t ∧ AG (odial v (Int32.ofNat o) (Int32.ofNat u) z) o9 t ∧ t 8 1 = F 8 1 ∧ t 8 2 = F 8 2) := by
  have S1 : Sim D v (x_u2 F 8 0 0) := S.f8 ⟨by decide, by decide⟩
  have e24 : (24 * o + u) / 24 = o := by omega
  have hc : 24 * o + u < 72 := by omega
  obtain ⟨q, hDG, hnum⟩ := S1.nr (c := 24 * o + u) hc (show ¬ F 47 (24 * o + u) = 0 by rw [h47]; decide)
  have q4 : q ≤ 4 := by have := (S.pl hc).2.2.2.2.2.2.2.2.2.2.2.2.1 h47; have h9 := this.2.2.2.1; have h8 : F 48 (24 * o + u) = Int32.ofNat q := hDG.2.1; rw [h8, (ofN (n := q) (by have := hDG.1; omega)).1] at h9; omega
  obtain ⟨N, hRN, hrc, hRT, hOV⟩ := S1.1.rn ho
  have hN := hRN.1
  have oN := ofN (n := 12 * o + N) (by omega)
  have oq := ofN (n := q) (by omega)
  have dg1 := rdig_dg (z := z) hDG q4 hz
  have hX := num_e (v := v) hDG q4 hz hnum
  have od := od_o S ho hu hz h22 h47
  refine EC.mk (fun n0 => ?_)
  show BC _ n0 115 0 [rf 8 1, .inl (Int32.ofNat o), .inl (Int32.ofNat u), .inl z, rf 0 0, rf 0 0, rf 0 0, rf 0 0, rf 0 0] [] _ _
  refine BC.blk c115_0 (fun m1 hm1 => ?_)
  refine c_iload rfl ?_
  refine c_iload rfl ?_
  refine d_call mr_rs (e93) ?_
  refine c_if_eq (fun d1 => ?_) (fun d1 => ?_)
  · skip
    first | exact absurd (lnok_e ho hu) (b2i0.mp d1) | exact absurd hz (b2i0.mp d2)
  · skip
    refine c_iload rfl ?_
    refine c_iconst ?_
    refine c_iconst ?_
    refine d_call mr_rs (e92) ?_
    refine c_if_eq (fun d2 => ?_) (fun d2 => ?_)
    · skip
      first | exact absurd (lnok_e ho hu) (b2i0.mp d1) | exact absurd hz (b2i0.mp d2)
    · skip
      refine c_iconst ?_
      refine c_goto ?_
      refine BC.blk c115_23 (fun m2 hm2 => ?_)
      refine c_istore rfl ?_
      refine c_aload rfl ?_
      refine c_iload rfl ?_
      refine c_if_ne (fun d3 => ?_) (fun d3 => ?_)
      · skip
        refine BC.blk c115_35 (fun m3 hm3 => ?_)
        refine c_aload rfl ?_
        refine c_gfr (fun _ C _ => C.ar (k := 3) (K := 22) (n := 72) (by decide)) ?_
        refine c_iconst ?_
        refine c_iload rfl ?_
        refine c_bin (ofN_mul (24) (o)) ?_
        refine c_iload rfl ?_
        refine c_bin (ofN_add ((24 * o)) (u)) ?_
        refine c_ald (fun _ C l9 i9 => C.an (k := 3) (K := 22) (n := 72) (by decide) i9 (ofN (by omega)).2) (fun p1 => ?_)
        refine c_if_ne (fun d4 => ?_) (fun d4 => ?_)
        · skip
          refine BC.blk c115_53 (fun m4 hm4 => ?_)
          refine c_iconst ?_
          refine c_goto ?_
          refine BC.blk c115_54 (fun m5 hm5 => ?_)
          refine d_callv mr_rs (e91) ?_
          refine c_if_eq (fun d5 => ?_) (fun d5 => ?_)
          · skip
            refine BC.blk c115_62 (fun m6 hm6 => ?_)
            refine c_iconst ?_
            refine c_iload rfl ?_
            refine c_bin (ofN_mul (24) (o)) ?_
            refine c_iload rfl ?_
            refine c_bin (ofN_add ((24 * o)) (u)) ?_
            refine c_istore rfl ?_
            refine c_aload rfl ?_
            refine c_gfr (fun _ C _ => C.ar (k := 29) (K := 47) (n := 72) (by decide)) ?_
            refine c_iload rfl ?_
            refine c_ald (fun _ C l9 i9 => C.an (k := 29) (K := 47) (n := 72) (by decide) i9 (ofN (by omega)).2) (fun p2 => ?_)
            refine c_iconst ?_
            refine c_icmp_eq (fun d6 => ?_) (fun d6 => ?_)
            · skip
              refine BC.blk c115_83 (fun m7 hm7 => ?_)
              refine c_aload rfl ?_
              refine c_gfr (fun _ C _ => C.ar (k := 31) (K := 49) (n := 576) (by decide)) ?_
              refine c_iconst ?_
              refine c_iload rfl ?_
              refine c_bin (ofN_mul (8) (((24 * o) + u))) ?_
              refine c_aload rfl ?_
              refine c_gfr (fun _ C _ => C.ar (k := 30) (K := 48) (n := 72) (by decide)) ?_
              refine c_iload rfl ?_
              refine c_ald (fun _ C l9 i9 => (fun z => ⟨z.1, z.2.trans hDG.2.1⟩) (C.an (k := 30) (K := 48) (n := 72) (by decide) i9 (ofN (by omega)).2)) (fun p3 => ?_)
              refine c_bin (ofN_add ((8 * ((24 * o) + u))) (q)) ?_
              refine c_iload rfl ?_
              refine c_ast (fun _ C l9 i9 => C.sn (k := 31) (K := 49) (n := 576) (by decide) i9 (ofN (by omega)).2) (fun p4 => ?_)
              refine c_aload rfl ?_
              refine c_gfr (fun _ C _ => C.ar (k := 30) (K := 48) (n := 72) (by decide)) ?_
              refine c_iload rfl ?_
              refine c_dup2 ?_
              refine c_ald (fun _ C l9 i9 => C.an (k := 30) (K := 48) (n := 72) (by decide) i9 (ofN (by omega)).2) (fun p5 => ?_)
              refine c_iconst ?_
              refine c_bin rfl ?_
              refine c_ast (fun _ C l9 i9 => C.sn (k := 30) (K := 48) (n := 72) (by decide) i9 (ofN (by omega)).2) (fun p6 => ?_)
              refine c_aload rfl ?_
              refine c_gfr (fun _ C _ => C.ar (k := 38) (K := 56) (n := 72) (by decide)) ?_
              refine c_iload rfl ?_
              refine c_iconst ?_
              refine c_ast (fun _ C l9 i9 => C.sn (k := 38) (K := 56) (n := 72) (by decide) i9 (ofN (by omega)).2) (fun p7 => ?_)
              refine (show TC MR _ 115 _ _ _ (rdig (x_u2 F 8 0 0) (24 * o + u) q z) _ from ?_)
              refine c_aload rfl ?_
              refine c_iload rfl ?_
              refine c_iload rfl ?_
              refine p_callv mr_rs (e114 hc ho dg1.1 hRN) (fun r pf => ?_)
              refine c_istore rfl ?_
              have jn140 : ∀ (n : Nat) (b : Int32), n < n0 → TB b (∃ k, k < N ∧ FTx (dgs (rdig (x_u2 F 8 0 0) (24 * o + u) q z) (24 * o + u)) (q + 1) (F 30 (12 * o + k)).toInt) → BC MR n 115 140 [rf 8 1, .inl (Int32.ofNat o), .inl (Int32.ofNat u), .inl z, .inl 1, .inl (Int32.ofNat (24 * o + u)), .inl r, rf 0 0, rf 0 0] [.inl b] (rdig (x_u2 F 8 0 0) (24 * o + u) q z) (fun o9 t => Sim D (vdial v (Int32.ofNat o) (Int32.ofNat u) z) t ∧ AG (odial v (Int32.ofNat o) (Int32.ofNat u) z) o9 t ∧ t 8 1 = F 8 1 ∧ t 8 2 = F 8 2) := by
                intro n140 b hn140 tb
                refine BC.blk c115_140 (fun m8 hm8 => ?_)
                refine c_istore rfl ?_
                refine c_iconst ?_
                refine c_iload rfl ?_
                refine c_bin (ofN_mul (12) (o)) ?_
                refine c_istore rfl ?_
                refine c_goto ?_
                have lp148 : ∀ (n : Nat) (b : Int32) (m : Nat), n < n0 → m ≤ N → TB b (MM (dgs (rdig (x_u2 F 8 0 0) (24 * o + u) q z) (24 * o + u)) (q + 1) F o N m) → BC MR n 115 148 [rf 8 1, .inl (Int32.ofNat o), .inl (Int32.ofNat u), .inl z, .inl 1, .inl (Int32.ofNat (24 * o + u)), .inl r, .inl b, .inl (Int32.ofNat (12 * o + m))] [] (rdig (x_u2 F 8 0 0) (24 * o + u) q z) (fun o9 t => Sim D (vdial v (Int32.ofNat o) (Int32.ofNat u) z) t ∧ AG (odial v (Int32.ofNat o) (Int32.ofNat u) z) o9 t ∧ t 8 1 = F 8 1 ∧ t 8 2 = F 8 2) := by
                  intro n148
                  induction n148 using Nat.strongRecOn with
                  | ind n148 ih148 =>
                    intro b m hn148 hm tb
                    have om := ofN (n := 12 * o + m) (by omega)
                    refine BC.blk c115_148 (fun m9 hm9 => ?_)
                    refine c_iload rfl ?_
                    refine c_iconst ?_
                    refine c_iload rfl ?_
                    refine c_bin (ofN_mul (12) (o)) ?_
                    refine c_aload rfl ?_
                    refine c_gfr (fun _ C _ => C.ar (k := 10) (K := 29) (n := 3) (by decide)) ?_
                    refine c_iload rfl ?_
                    refine c_ald (fun _ C l9 i9 => (fun z => ⟨z.1, z.2.trans hRN.2.1⟩) (C.an (k := 10) (K := 29) (n := 3) (by decide) i9 (ofN (by omega)).2)) (fun p8 => ?_)
                    refine c_bin (ofN_add ((12 * o)) (N)) ?_
                    refine c_icmp_ge (fun d7 => ?_) (fun d7 => ?_)
                    · skip
                      refine BC.blk c115_198 (fun m10 hm10 => ?_)
                      have mN : m = N := by omega
                      rw [mN] at tb
                      have re := rof_e hrc hRT hOV dg1.1.1 dg1.1.2.2 hX pf
                      refine c_iload rfl ?_
                      refine c_if_ne (fun d8 => ?_) (fun d8 => ?_)
                      · skip
                        refine BC.blk c115_213 (fun m11 hm11 => ?_)
                        refine c_iload rfl ?_
                        refine c_if_lt (fun d9 => ?_) (fun d9 => ?_)
                        · skip
                          refine BC.blk c115_256 (fun m12 hm12 => ?_)
                          refine c_iconst ?_
                          have hr0 := re.elim id (fun ⟨k2, h1, h2, _⟩ => absurd d9 (by rw [h2, (ofN (n := 12 * o + k2) (by omega)).1]; omega))
                          have hmb : ∃ k, k < N ∧ MBp (dgs (rdig (x_u2 F 8 0 0) (24 * o + u) q z) (24 * o + u)) (q + 1) (F 30 (12 * o + k)).toInt := (tb.t d8).elim (fun ⟨k, h1, h2⟩ => absurd h2 (hr0.2.2 k h1)) (fun ⟨k, h1, h2⟩ => h2.elim (fun w => absurd w (hr0.2.2 k h1)) (fun w => ⟨k, h1, w⟩))
                          have hq3 : q ≤ 3 := by obtain ⟨k, -, h2⟩ := hmb; have := h2.1; have := szN_b (F 30 (12 * o + k)).toInt; omega
                          refine c_zret ⟨?_, Or.inr ⟨_, od.1, rfl, rfl⟩, rfl, rfl⟩
                          rw [od.2, vdg_0 hr0.2.1, if_pos ((cbp_e hrc hRT (by omega) dg1.1.1 dg1.1.2.2 hX).mpr hmb)]
                          exact S1.dig hc h47 hDG hq3 hz hnum
                        · skip
                          obtain ⟨k, k1, k2, kr, k3⟩ := re.elim (fun w => absurd (show r.toInt < 0 by rw [w.1]; decide) d9) id
                          rw [k2]
                          refine c_aload rfl ?_
                          refine c_gfr (fun _ C _ => C.ar (k := 30) (K := 48) (n := 72) (by decide)) ?_
                          refine c_iload rfl ?_
                          refine c_ald (fun _ C l9 i9 => (fun z => ⟨z.1, z.2.trans dg1.1.2.1⟩) (C.an (k := 30) (K := 48) (n := 72) (by decide) i9 (ofN (by omega)).2)) (fun p9 => ?_)
                          refine c_aload rfl ?_
                          refine c_gfr (fun _ C _ => C.ar (k := 11) (K := 30) (n := 36) (by decide)) ?_
                          refine c_iload rfl ?_
                          refine c_ald (fun _ C l9 i9 => (fun z => ⟨z.1, z.2.trans (show _ = (F 30 (12 * o + k)) from rfl)⟩) (C.an (k := 11) (K := 30) (n := 36) (by decide) i9 (ofN (by omega)).2)) (fun p10 => ?_)
                          refine d_call mr_rs (show ED MR 95 [.inl (F 30 (12 * o + k))] _ (oi (Int32.ofNat (szN (F 30 (12 * o + k)).toInt))) _ from by rw [← szI]; exact e95) ?_
                          refine c_iconst ?_
                          refine c_bin (ofN_add ((szN (F 30 (12 * o + k)).toInt)) (2)) ?_
                          have o1 := ofN (n := q + 1) (by omega)
                          have sb := szN_b (F 30 (12 * o + k)).toInt
                          have o2 := ofN (n := szN (F 30 (12 * o + k)).toInt + 2) (by omega)
                          have hR1 := hRT k k1
                          have hdb := dbh_e (v := v) dg1.1.1 dg1.1.2.2 hX (congrArg Int32.toInt hR1.2.1) hR1.2.2.1
                          have hm0 : ¬ v.2.1 18 (o + 1) k = 0 := by have := hR1.1.1; omega
                          refine c_icmp_lt (fun d10 => ?_) (fun d10 => ?_)
                          · skip
                            refine BC.blk c115_256 (fun m13 hm13 => ?_)
                            refine c_iconst ?_
                            refine c_zret ⟨?_, Or.inr ⟨_, od.1, rfl, rfl⟩, rfl, rfl⟩
                            rw [od.2, vdg_k kr hm0, if_pos (by rw [hdb]; show ((q + 1 : Nat) : Int) - _ < 2; have e30 : szN (x_u2 F 8 0 0 30 (12 * o + k)).toInt = szN (F 30 (12 * o + k)).toInt := rfl; omega)]
                            exact S1.dig hc h47 hDG (by omega) hz hnum
                          · skip
                            refine c_aload rfl ?_
                            refine c_gfr (fun _ C _ => C.ar (k := 40) (K := 58) (n := 72) (by decide)) ?_
                            refine c_iload rfl ?_
                            refine c_iload rfl ?_
                            refine c_ast (fun _ C l9 i9 => C.sn (k := 40) (K := 58) (n := 72) (by decide) i9 (ofN (by omega)).2) (fun p11 => ?_)
                            refine c_aload rfl ?_
                            refine c_iload rfl ?_
                            refine c_iload rfl ?_
                            refine d_callv mr_rs (e103 (n := (v.2.2.1 (30 * o + 2)).length) hc ho (show F 45 o = _ from (S.1.jq o ho).1.1) (by have := (S.1.jq o ho).2.2.1; omega)) ?_
                            refine c_goto ?_
                            refine BC.blk c115_256 (fun m14 hm14 => ?_)
                            refine c_iconst ?_
                            have SJ := S1.digJ (z := z) (k := k) hc h47 hDG q4 hz hnum (by rw [e24, hRN.2.1, (ofN (n := N) (by omega)).1]; omega) (by omega) hD
                            rw [e24] at SJ
                            refine c_zret ⟨?_, Or.inr ⟨_, od.1, rfl, rfl⟩, rfl, rfl⟩
                            rw [od.2, vdg_k kr hm0, if_neg (by rw [hdb]; show ¬ ((q + 1 : Nat) : Int) - _ < 2; have e30 : szN (x_u2 F 8 0 0 30 (12 * o + k)).toInt = szN (F 30 (12 * o + k)).toInt := rfl; omega)]
                            exact SJ
                      · skip
                        refine c_aload rfl ?_
                        refine c_iload rfl ?_
                        refine c_iconst ?_
                        refine c_callv mr_rs (e105 (F := (rdig (x_u2 F 8 0 0) (24 * o + u) q z)) hc (S1.1.hlv hc) (S1.1.h16 hc) S1.1.hjv) (fun w t1 p => ?_) (fun k t1 p => by cases p.1)
                        obtain ⟨e9, ⟨t2, hen, rfl⟩⟩ := p
                        cases e9
                        refine c_goto ?_
                        refine BC.blk c115_256 (fun m15 hm15 => ?_)
                        refine c_iconst ?_
                        have hn := tb.f d8
                        have hr0 : rof v (o + 1) (v.1 1 6 (24 * o + u + 1) * 10 + z) = none := re.elim (fun w => w.2.1) (fun ⟨k2, h1, _, _, h4⟩ => absurd (Or.inl ⟨k2, h1, h4⟩) hn)
                        have hcb : ¬ (cbp v (o + 1) (v.1 1 6 (24 * o + u + 1) * 10 + z)).isSome = true := fun w => by
                          obtain ⟨k, h1, h2⟩ := (cbp_e hrc hRT (by omega) dg1.1.1 dg1.1.2.2 hX).mp w
                          exact hn (Or.inr ⟨k, h1, Or.inr h2⟩)
                        have e8 : ∀ i, x_u2 (x_u2 t2 57 (24 * o + u) (-1)) 23 (24 * o + u) 5 8 i = x_u2 F 8 0 0 8 i := fun i => by rw [u2_ne (by decide), u2_ne (by decide), hen.k (by omega)]; rfl
                        refine c_zret ⟨?_, Or.inr ⟨_, od.1, e8 0, rfl⟩, e8 1, e8 2⟩
                        rw [od.2, vdg_0 hr0, if_neg hcb]
                        exact S1.digF hc h47 (by omega) hen
                    · skip
                      refine c_iload rfl ?_
                      refine c_if_ne (fun d11 => ?_) (fun d11 => ?_)
                      · skip
                        refine BC.blk c115_185 (fun m16 hm16 => ?_)
                        refine c_iconst ?_
                        refine c_goto ?_
                        refine BC.blk c115_190 (fun m17 hm17 => ?_)
                        refine c_istore rfl ?_
                        refine c_iincN (i := (12 * o + m)) (k := 1) rfl rfl rfl ?_
                        refine c_goto ?_
                        exact ih148 m17 (by omega) 1 (m + 1) (by omega) (by omega) (MM.yes tb d11)
                      · skip
                        refine c_aload rfl ?_
                        refine c_iload rfl ?_
                        refine c_aload rfl ?_
                        refine c_gfr (fun _ C _ => C.ar (k := 11) (K := 30) (n := 36) (by decide)) ?_
                        refine c_iload rfl ?_
                        refine c_ald (fun _ C l9 i9 => C.an (k := 11) (K := 30) (n := 36) (by decide) i9 (ofN (by omega)).2) (fun p12 => ?_)
                        refine p_callv mr_rs (e113 hc (hRN.2.2 m (by omega)) dg1.1 (by omega)) (fun b2 hb2 => ?_)
                        refine c_if_eq (fun d12 => ?_) (fun d12 => ?_)
                        · skip
                          refine BC.blk c115_189 (fun m18 hm18 => ?_)
                          refine c_iconst ?_
                          refine c_goto ?_
                          refine BC.blk c115_190 (fun m19 hm19 => ?_)
                          refine c_istore rfl ?_
                          refine c_iincN (i := (12 * o + m)) (k := 1) rfl rfl rfl ?_
                          refine c_goto ?_
                          refine ih148 m19 (by omega) 0 (m + 1) (by omega) (by omega) ?_
                          have h9 := MM.st tb d11 hb2
                          rw [d12] at h9
                          exact h9
                        · skip
                          refine c_goto ?_
                          refine BC.blk c115_185 (fun m20 hm20 => ?_)
                          refine c_iconst ?_
                          refine c_goto ?_
                          refine BC.blk c115_190 (fun m21 hm21 => ?_)
                          refine c_istore rfl ?_
                          refine c_iincN (i := (12 * o + m)) (k := 1) rfl rfl rfl ?_
                          refine c_goto ?_
                          refine ih148 m21 (by omega) 1 (m + 1) (by omega) (by omega) ?_
                          have h9 := MM.st tb d11 hb2
                          rw [hb2.one d12] at h9
                          exact h9
                exact lp148 m8 b 0 (by omega) (by omega) (tb.iff ⟨fun w => Or.inl w, fun w => w.elim id (fun ⟨k, k1, _⟩ => absurd k1 (by omega))⟩)
              refine c_iload rfl ?_
              refine c_if_lt (fun d13 => ?_) (fun d13 => ?_)
              · skip
                refine BC.blk c115_139 (fun m22 hm22 => ?_)
                refine c_iconst ?_
                refine c_goto ?_
                exact jn140 m22 _ (by omega) (Or.inr ⟨rfl, fun ⟨k, hk, f⟩ => pf.elim (fun w => w.2 k hk f) (fun ⟨k2, h1, h2, _⟩ => absurd d13 (by rw [h2, (ofN (n := 12 * o + k2) (by omega)).1]; omega))⟩)
              · skip
                refine c_iconst ?_
                refine c_goto ?_
                exact jn140 m7 _ (by omega) (Or.inl ⟨rfl, pf.elim (fun w => absurd (show r.toInt < 0 by rw [w.1]; decide) d13) (fun ⟨k2, h1, _, h3⟩ => ⟨k2, h1, h3⟩)⟩)
            · skip
              exact absurd h47 d6
          · skip
            exact absurd (show b2i (0 < (0 : Int32).toInt) = 0 from rfl) d5
        · skip
          exact absurd d4 h22
      · exact absurd d3 (by decide)
