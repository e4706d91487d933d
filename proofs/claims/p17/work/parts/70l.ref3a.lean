theorem e116 {F : xF} {x : Int32} : ED MR 116 [rf 8 1, .inl x] F (oi (b2i (F 22 x.toNatClampNeg = 0 ∧ (F 28 x.toNatClampNeg).toInt < 0 ∧ F 47 x.toNatClampNeg = 0))) (F) := by
  refine EC.mk (fun n0 => ?_)
  show BC _ n0 116 0 [rf 8 1, .inl x] [] _ _
  refine BC.blk c116_0 (fun m1 hm1 => ?_)
  refine c_aload rfl ?_
  refine c_gfr (fun _ C _ => C.ar (k := 3) (K := 22) (n := 72) (by decide)) ?_
  refine c_iload rfl ?_
  refine c_ald (fun _ C l9 i9 => C.an (k := 3) (K := 22) (n := 72) (by decide) i9 rfl) (fun p1 => ?_)
  refine c_if_ne (fun d1 => ?_) (fun d1 => ?_)
  · skip
    refine BC.blk c116_31 (fun m2 hm2 => ?_)
    refine c_iconst ?_
    refine c_goto ?_
    refine BC.blk c116_32 (fun m3 hm3 => ?_)
    exact c_zret ⟨by rw [b2i_neg (fun z => d1 z.1)], rfl⟩
  · skip
    refine c_aload rfl ?_
    refine c_gfr (fun _ C _ => C.ar (k := 9) (K := 28) (n := 72) (by decide)) ?_
    refine c_iload rfl ?_
    refine c_ald (fun _ C l9 i9 => C.an (k := 9) (K := 28) (n := 72) (by decide) i9 rfl) (fun p2 => ?_)
    refine c_if_ge (fun d2 => ?_) (fun d2 => ?_)
    · skip
      refine BC.blk c116_31 (fun m4 hm4 => ?_)
      refine c_iconst ?_
      refine c_goto ?_
      refine BC.blk c116_32 (fun m5 hm5 => ?_)
      exact c_zret ⟨by rw [b2i_neg (fun z => absurd z.2.1 (by omega))], rfl⟩
    · skip
      refine c_aload rfl ?_
      refine c_gfr (fun _ C _ => C.ar (k := 29) (K := 47) (n := 72) (by decide)) ?_
      refine c_iload rfl ?_
      refine c_ald (fun _ C l9 i9 => C.an (k := 29) (K := 47) (n := 72) (by decide) i9 rfl) (fun p3 => ?_)
      refine c_if_ne (fun d3 => ?_) (fun d3 => ?_)
      · skip
        refine BC.blk c116_31 (fun m6 hm6 => ?_)
        refine c_iconst ?_
        refine c_goto ?_
        refine BC.blk c116_32 (fun m7 hm7 => ?_)
        exact c_zret ⟨by rw [b2i_neg (fun z => d3 z.2.2)], rfl⟩
      · skip
        refine c_iconst ?_
        refine c_goto ?_
        refine BC.blk c116_32 (fun m8 hm8 => ?_)
        exact c_zret ⟨by rw [b2i_pos ⟨d1, by omega, d3⟩], rfl⟩
theorem e118 {F : xF} {o p q : Nat} : ED MR 118 [.inl (Int32.ofNat o), .inl (Int32.ofNat p), .inl (Int32.ofNat q)] F (oi (Int32.ofNat (12 * o + 4 * p + q))) (F) := by
  refine EC.mk (fun n0 => ?_)
  show BC _ n0 118 0 [.inl (Int32.ofNat o), .inl (Int32.ofNat p), .inl (Int32.ofNat q)] [] _ _
  refine BC.blk c118_0 (fun m1 hm1 => ?_)
  refine c_iconst ?_
  refine c_iload rfl ?_
  refine c_bin (ofN_mul (12) (o)) ?_
  refine c_iconst ?_
  refine c_iload rfl ?_
  refine c_bin (ofN_mul (4) (p)) ?_
  refine c_bin (ofN_add ((12 * o)) ((4 * p))) ?_
  refine c_iload rfl ?_
  refine c_bin (ofN_add (((12 * o) + (4 * p))) (q)) ?_
  exact c_iret ⟨rfl, rfl⟩
