theorem r129x {D : Int} {v : vS} {F : xF} {x : Int32} (S : Sim D v F) (hx : ¬ (1 ≤ x.toInt ∧ x.toInt ≤ 100)) : EC MR 129 [rf 8 1, .inl x] F (fun o9 t => Sim D (vtick v x) t ∧ AG (otick x) o9 t ∧ t 8 1 = F 8 1 ∧ t 8 2 = F 8 2) := by
  refine EC.mk (fun n0 => ?_)
  show BC _ n0 129 0 [rf 8 1, .inl x, rf 0 0] [] _ _
  refine BC.blk c129_0 (fun m1 hm1 => ?_)
  refine c_aload rfl ?_
  refine c_iload rfl ?_
  refine c_iconst ?_
  refine c_iconst ?_
  refine d_call mr_rs (e92) ?_
  refine c_if_eq (fun d1 => ?_) (fun d1 => ?_)
  · skip
    refine BC.blk c129_15 (fun m2 hm2 => ?_)
    refine c_iconst ?_
    refine c_goto ?_
    refine BC.blk c129_16 (fun m3 hm3 => ?_)
    refine d_callv mr_rs (e91) ?_
    refine c_if_eq (fun d2 => ?_) (fun d2 => ?_)
    · skip
      exact absurd d2 (by decide)
    · skip
      exact c_ret ⟨by rw [vtick, if_neg hx]; exact S.f8 ⟨by decide, by decide⟩, Or.inl ⟨1, by rw [otick, if_neg hx], rfl, by decide, by decide⟩, rfl, rfl⟩
  · skip
    exact absurd (b2i1.mp d1) hx
theorem r129o {D : Int} {v : vS} {F : xF} {X : Nat} (S : Sim ((F 8 1).toInt + 1) v F) (hX : 1 ≤ X ∧ X ≤ 100) (h0 : 0 ≤ (F 8 1).toInt) (h1 : (F 8 1).toInt < 900000) : EC MR 129 [rf 8 1, .inl (Int32.ofNat X)] F (fun o9 t' => Sim ((t' 8 1).toInt + 1) (vtick v (Int32.ofNat X)) t' ∧ AG (otick (Int32.ofNat X)) o9 t' ∧ (t' 8 1).toInt = (F 8 1).toInt + X ∧ t' 8 2 = F 8 2) := by
  have oX := ofN (n := X) (by omega)
  have hX1 : 1 ≤ (Int32.ofNat X).toInt ∧ (Int32.ofNat X).toInt ≤ 100 := by omega
  refine EC.mk (fun n0 => ?_)
  show BC _ n0 129 0 [rf 8 1, .inl (Int32.ofNat X), rf 0 0] [] _ _
  refine BC.blk c129_0 (fun m1 hm1 => ?_)
  refine c_aload rfl ?_
  refine c_iload rfl ?_
  refine c_iconst ?_
  refine c_iconst ?_
  refine d_call mr_rs (e92) ?_
  refine c_if_eq (fun d1 => ?_) (fun d1 => ?_)
  · skip
    exact absurd hX1 (b2i0.mp d1)
  · skip
    refine c_iconst ?_
    refine c_goto ?_
    refine BC.blk c129_16 (fun m2 hm2 => ?_)
    refine d_callv mr_rs (e91) ?_
    refine c_if_eq (fun d2 => ?_) (fun d2 => ?_)
    · skip
      refine BC.blk c129_23 (fun m3 hm3 => ?_)
      refine c_iconst ?_
      refine c_istore rfl ?_
      refine c_goto ?_
      have lp25 : ∀ (n : Nat) (i : Nat) (w : vS) (t : xF), i ≤ X → Sim ((t 8 1).toInt + 1) w t → (t 8 1).toInt = (F 8 1).toInt + i → t 8 2 = F 8 2 → t 8 0 = 0 → itr (fun _ w => vone w) i (X - i) w = itr (fun _ w => vone w) 0 X v → BC MR n 129 25 [rf 8 1, .inl (Int32.ofNat X), .inl (Int32.ofNat i)] [] t (fun o9 t' => Sim ((t' 8 1).toInt + 1) (vtick v (Int32.ofNat X)) t' ∧ AG (otick (Int32.ofNat X)) o9 t' ∧ (t' 8 1).toInt = (F 8 1).toInt + X ∧ t' 8 2 = F 8 2) := by
        intro n25
        induction n25 using Nat.strongRecOn with
        | ind n25 ih25 =>
          intro i w t hi S h81 h82 h80 he
          have oi := ofN (n := i) (by omega)
          refine BC.blk c129_25 (fun m4 hm4 => ?_)
          refine c_iload rfl ?_
          refine c_iload rfl ?_
          refine c_icmp_ge (fun d3 => ?_) (fun d3 => ?_)
          · skip
            refine BC.blk c129_40 (fun m5 hm5 => ?_)
            exact c_ret ⟨by rw [vtick, if_pos hX1, oX.1, Int.toNat_natCast, ← he, itr_end (by omega)]; exact S, Or.inr ⟨_, by rw [otick, if_pos hX1], h80, rfl⟩, by omega, h82⟩
          · skip
            refine c_aload rfl ?_
            refine c_callv mr_rs (r128 (D := 0) S (by omega) (by omega)) (fun w t1 p => ?_) (fun k t1 p => by cases p.1)
            obtain ⟨e9, ⟨S3, e81, e82, e80⟩⟩ := p
            cases e9
            refine c_iincN (i := i) (k := 1) rfl rfl rfl ?_
            refine c_goto ?_
            have e9 : (t1 8 1).toInt = (t 8 1).toInt + 1 := by rw [e81]; exact i32_add (by show _ ≤ _ + (1 : Int); omega) (by show _ + (1 : Int) < _; omega)
            exact ih25 m4 (by omega) (i + 1) _ _ (by omega) (by rw [e9]; exact S3) (by omega) (e82.trans h82) (e80.trans h80) ((itr_st (show i < X by omega)).symm.trans he)
      exact lp25 m3 0 v _ (by omega) (show Sim ((F 8 1).toInt + 1) v _ from S.f8 ⟨by decide, by decide⟩) (by rw [u2_ni (by decide)]; omega) (u2_ni (by decide)) u2_eq rfl
    · skip
      exact absurd (show b2i (0 < (0 : Int32).toInt) = 0 from rfl) d2
theorem r138x {D : Int} {v : vS} {F : xF} {x y : Int32} (S : Sim D v F) (hx : ¬ ((0 ≤ x.toInt ∧ x.toInt ≤ 2) ∧ (0 ≤ y.toInt ∧ y.toInt ≤ 2))) : EC MR 138 [rf 8 1, .inl x, .inl y] F (fun o9 t => Sim D (v) t ∧ AG (ooverflow v x y) o9 t ∧ t 8 1 = F 8 1 ∧ t 8 2 = F 8 2) := by
  refine EC.mk (fun n0 => ?_)
  show BC _ n0 138 0 [rf 8 1, .inl x, .inl y] [] _ _
  refine BC.blk c138_0 (fun m1 hm1 => ?_)
  refine c_aload rfl ?_
  refine c_iload rfl ?_
  refine c_iconst ?_
  refine c_iconst ?_
  refine d_call mr_rs (e92) ?_
  refine c_if_eq (fun d1 => ?_) (fun d1 => ?_)
  · skip
    refine BC.blk c138_23 (fun m2 hm2 => ?_)
    refine c_iconst ?_
    refine c_goto ?_
    refine BC.blk c138_24 (fun m3 hm3 => ?_)
    refine d_callv mr_rs (e91) ?_
    refine c_if_eq (fun d2 => ?_) (fun d2 => ?_)
    · skip
      first | exact absurd d2 (by decide) | exact absurd d3 (by decide) | exact absurd d4 (by decide) | exact absurd d5 (by decide) | exact absurd d6 (by decide)
    · skip
      refine c_iconst ?_
      refine c_goto ?_
      refine BC.blk c138_44 (fun m4 hm4 => ?_)
      exact c_iret ⟨S.f8 ⟨by decide, by decide⟩, Or.inl ⟨1, by rw [ooverflow, if_neg hx], rfl, by decide, by decide⟩, rfl, rfl⟩
  · skip
    refine c_iload rfl ?_
    refine c_iconst ?_
    refine c_iconst ?_
    refine d_call mr_rs (e92) ?_
    refine c_if_eq (fun d3 => ?_) (fun d3 => ?_)
    · skip
      refine BC.blk c138_23 (fun m5 hm5 => ?_)
      refine c_iconst ?_
      refine c_goto ?_
      refine BC.blk c138_24 (fun m6 hm6 => ?_)
      refine d_callv mr_rs (e91) ?_
      refine c_if_eq (fun d4 => ?_) (fun d4 => ?_)
      · skip
        first | exact absurd d2 (by decide) | exact absurd d3 (by decide) | exact absurd d4 (by decide) | exact absurd d5 (by decide) | exact absurd d6 (by decide)
      · skip
        refine c_iconst ?_
        refine c_goto ?_
        refine BC.blk c138_44 (fun m7 hm7 => ?_)
        exact c_iret ⟨S.f8 ⟨by decide, by decide⟩, Or.inl ⟨1, by rw [ooverflow, if_neg hx], rfl, by decide, by decide⟩, rfl, rfl⟩
    · skip
      exact absurd ⟨b2i1.mp d1, b2i1.mp d3⟩ hx
theorem r138o {D : Int} {v : vS} {F : xF} {o p : Nat} (S : Sim D v F) (ho : o < 3) (hp : p < 3) : EC MR 138 [rf 8 1, .inl (Int32.ofNat o), .inl (Int32.ofNat p)] F (fun o9 t => Sim D (v) t ∧ AG (ooverflow v (Int32.ofNat o) (Int32.ofNat p)) o9 t ∧ t 8 1 = F 8 1 ∧ t 8 2 = F 8 2) := by
  have oo := ofN (n := o) (by omega)
  have op := ofN (n := p) (by omega)
  have h1 : 0 ≤ (Int32.ofNat o).toInt ∧ (Int32.ofNat o).toInt ≤ 2 := by omega
  have h2 : 0 ≤ (Int32.ofNat p).toInt ∧ (Int32.ofNat p).toInt ≤ 2 := by omega
  refine EC.mk (fun n0 => ?_)
  show BC _ n0 138 0 [rf 8 1, .inl (Int32.ofNat o), .inl (Int32.ofNat p)] [] _ _
  refine BC.blk c138_0 (fun m1 hm1 => ?_)
  refine c_aload rfl ?_
  refine c_iload rfl ?_
  refine c_iconst ?_
  refine c_iconst ?_
  refine d_call mr_rs (e92) ?_
  refine c_if_eq (fun d1 => ?_) (fun d1 => ?_)
  · skip
    first | exact absurd h1 (b2i0.mp d1) | exact absurd h2 (b2i0.mp d2)
  · skip
    refine c_iload rfl ?_
    refine c_iconst ?_
    refine c_iconst ?_
    refine d_call mr_rs (e92) ?_
    refine c_if_eq (fun d2 => ?_) (fun d2 => ?_)
    · skip
      first | exact absurd h1 (b2i0.mp d1) | exact absurd h2 (b2i0.mp d2)
    · skip
      refine c_iconst ?_
      refine c_goto ?_
      refine BC.blk c138_24 (fun m2 hm2 => ?_)
      refine d_callv mr_rs (e91) ?_
      refine c_if_eq (fun d3 => ?_) (fun d3 => ?_)
      · skip
        refine BC.blk c138_34 (fun m3 hm3 => ?_)
        refine c_aload rfl ?_
        refine c_gfr (fun _ C _ => C.ar (k := 26) (K := 44) (n := 9) (by decide)) ?_
        refine c_iconst ?_
        refine c_iload rfl ?_
        refine c_bin (ofN_mul (3) (o)) ?_
        refine c_iload rfl ?_
        refine c_bin (ofN_add ((3 * o)) (p)) ?_
        refine c_ald (fun _ C l9 i9 => C.an (k := 26) (K := 44) (n := 9) (by decide) i9 (ofN (by omega)).2) (fun p1 => ?_)
        refine c_goto ?_
        refine BC.blk c138_44 (fun m4 hm4 => ?_)
        exact c_iret ⟨S.f8 ⟨by decide, by decide⟩, Or.inr ⟨_, by rw [ooverflow, if_pos ⟨h1, h2⟩, oo.2, op.2, (S.1.or o ho).2 p hp]; rfl, rfl, rfl⟩, rfl, rfl⟩
      · skip
        exact absurd (show b2i (0 < (0 : Int32).toInt) = 0 from rfl) d3
