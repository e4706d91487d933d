theorem e107 {F : xF} {o : Nat} (ho : o < 3) : EP MR 107 [rf 8 1, .inl (Int32.ofNat o)] F (FS (fun k => (F 38 (3 * o + k)).toInt < 0) 3) := by
  refine EC.mk (fun n0 => ?_)
  show BC _ n0 107 0 [rf 8 1, .inl (Int32.ofNat o), rf 0 0, rf 0 0] [] _ _
  refine BC.blk c107_0 (fun m1 hm1 => ?_)
  refine c_iconst ?_
  refine c_istore rfl ?_
  refine c_iconst ?_
  refine c_istore rfl ?_
  refine c_goto ?_
  have lp4 : ∀ (n : Nat) (m : Nat) (r i : Int32), m ≤ 3 → i.toInt = (m : Int) - 1 → FD (fun k => (F 38 (3 * o + k)).toInt < 0) 3 (m : Int) r → BC MR n 107 4 [rf 8 1, .inl (Int32.ofNat o), .inl r, .inl i] [] F (fun o9 t => t = F ∧ ∃ x, o9 = oi x ∧ FS (fun k => (F 38 (3 * o + k)).toInt < 0) 3 x) := by
    intro n4
    induction n4 using Nat.strongRecOn with
    | ind n4 ih4 =>
      intro m r i h1 h2 fd
      refine BC.blk c107_4 (fun m2 hm2 => ?_)
      refine c_iload rfl ?_
      refine c_if_lt (fun d1 => ?_) (fun d1 => ?_)
      · skip
        refine BC.blk c107_33 (fun m3 hm3 => ?_)
        refine c_iload rfl ?_
        exact c_iret ⟨rfl, r, rfl, fd.done (by omega)⟩
      · skip
        obtain ⟨q, rfl⟩ : ∃ q, m = q + 1 := ⟨m - 1, by omega⟩
        obtain rfl : i = Int32.ofNat q := i32_eq.mpr (by rw [(ofN (n := q) (by omega)).1]; omega)
        refine c_aload rfl ?_
        refine c_gfr (fun _ C _ => C.ar (k := 19) (K := 38) (n := 9) (by decide)) ?_
        refine c_iconst ?_
        refine c_iload rfl ?_
        refine c_bin (ofN_mul (3) (o)) ?_
        refine c_iload rfl ?_
        refine c_bin (ofN_add ((3 * o)) (q)) ?_
        refine c_ald (fun _ C l9 i9 => C.an (k := 19) (K := 38) (n := 9) (by decide) i9 (ofN (by omega)).2) (fun p1 => ?_)
        refine c_if_ge (fun d2 => ?_) (fun d2 => ?_)
        · skip
          refine BC.blk c107_25 (fun m4 hm4 => ?_)
          refine c_iload rfl ?_
          refine c_goto ?_
          refine BC.blk c107_26 (fun m5 hm5 => ?_)
          refine c_istore rfl ?_
          refine c_iinc rfl rfl ?_
          refine c_goto ?_
          have h8 : q ≤ 3 := by omega
          have h7 : m5 < n4 := by omega
          have h6 : q < 3 := by omega
          have h5 : q ≤ 100000 := by omega
          have f9 : FD (fun k => (F 38 (3 * o + k)).toInt < 0) 3 ((q : Nat) : Int) r := FD.no fd (Int.not_lt.mpr d2)
          exact ih4 m5 h7 q _ _ h8 (ofN_dec h5) f9
        · skip
          refine c_iload rfl ?_
          refine c_goto ?_
          refine BC.blk c107_26 (fun m6 hm6 => ?_)
          refine c_istore rfl ?_
          refine c_iinc rfl rfl ?_
          refine c_goto ?_
          have h8 : q ≤ 3 := by omega
          have h7 : m6 < n4 := by omega
          have h6 : q < 3 := by omega
          have h5 : q ≤ 100000 := by omega
          have f9 : FD (fun k => (F 38 (3 * o + k)).toInt < 0) 3 ((q : Nat) : Int) (Int32.ofNat q) := FD.yes h6 (Int.not_le.mp d2)
          exact ih4 m6 h7 q _ _ h8 (ofN_dec h5) f9
  exact lp4 m1 3 (-1) 2 (Nat.le_refl _) rfl (FD.start (Int.le_refl _))
theorem e120 {F : xF} {o : Nat} (ho : o < 3) : EP MR 120 [rf 8 1, .inl (Int32.ofNat o)] F (FS (fun k => (F 37 (5 * o + k)).toInt < 0) 5) := by
  refine EC.mk (fun n0 => ?_)
  show BC _ n0 120 0 [rf 8 1, .inl (Int32.ofNat o), rf 0 0, rf 0 0] [] _ _
  refine BC.blk c120_0 (fun m1 hm1 => ?_)
  refine c_iconst ?_
  refine c_istore rfl ?_
  refine c_iconst ?_
  refine c_istore rfl ?_
  refine c_goto ?_
  have lp4 : ∀ (n : Nat) (m : Nat) (r i : Int32), m ≤ 5 → i.toInt = (m : Int) - 1 → FD (fun k => (F 37 (5 * o + k)).toInt < 0) 5 (m : Int) r → BC MR n 120 4 [rf 8 1, .inl (Int32.ofNat o), .inl r, .inl i] [] F (fun o9 t => t = F ∧ ∃ x, o9 = oi x ∧ FS (fun k => (F 37 (5 * o + k)).toInt < 0) 5 x) := by
    intro n4
    induction n4 using Nat.strongRecOn with
    | ind n4 ih4 =>
      intro m r i h1 h2 fd
      refine BC.blk c120_4 (fun m2 hm2 => ?_)
      refine c_iload rfl ?_
      refine c_if_lt (fun d1 => ?_) (fun d1 => ?_)
      · skip
        refine BC.blk c120_33 (fun m3 hm3 => ?_)
        refine c_iload rfl ?_
        exact c_iret ⟨rfl, r, rfl, fd.done (by omega)⟩
      · skip
        obtain ⟨q, rfl⟩ : ∃ q, m = q + 1 := ⟨m - 1, by omega⟩
        obtain rfl : i = Int32.ofNat q := i32_eq.mpr (by rw [(ofN (n := q) (by omega)).1]; omega)
        refine c_aload rfl ?_
        refine c_gfr (fun _ C _ => C.ar (k := 18) (K := 37) (n := 15) (by decide)) ?_
        refine c_iconst ?_
        refine c_iload rfl ?_
        refine c_bin (ofN_mul (5) (o)) ?_
        refine c_iload rfl ?_
        refine c_bin (ofN_add ((5 * o)) (q)) ?_
        refine c_ald (fun _ C l9 i9 => C.an (k := 18) (K := 37) (n := 15) (by decide) i9 (ofN (by omega)).2) (fun p1 => ?_)
        refine c_if_ge (fun d2 => ?_) (fun d2 => ?_)
        · skip
          refine BC.blk c120_25 (fun m4 hm4 => ?_)
          refine c_iload rfl ?_
          refine c_goto ?_
          refine BC.blk c120_26 (fun m5 hm5 => ?_)
          refine c_istore rfl ?_
          refine c_iinc rfl rfl ?_
          refine c_goto ?_
          have h8 : q ≤ 5 := by omega
          have h7 : m5 < n4 := by omega
          have h6 : q < 5 := by omega
          have h5 : q ≤ 100000 := by omega
          have f9 : FD (fun k => (F 37 (5 * o + k)).toInt < 0) 5 ((q : Nat) : Int) r := FD.no fd (Int.not_lt.mpr d2)
          exact ih4 m5 h7 q _ _ h8 (ofN_dec h5) f9
        · skip
          refine c_iload rfl ?_
          refine c_goto ?_
          refine BC.blk c120_26 (fun m6 hm6 => ?_)
          refine c_istore rfl ?_
          refine c_iinc rfl rfl ?_
          refine c_goto ?_
          have h8 : q ≤ 5 := by omega
          have h7 : m6 < n4 := by omega
          have h6 : q < 5 := by omega
          have h5 : q ≤ 100000 := by omega
          have f9 : FD (fun k => (F 37 (5 * o + k)).toInt < 0) 5 ((q : Nat) : Int) (Int32.ofNat q) := FD.yes h6 (Int.not_le.mp d2)
          exact ih4 m6 h7 q _ _ h8 (ofN_dec h5) f9
  exact lp4 m1 5 (-1) 4 (Nat.le_refl _) rfl (FD.start (Int.le_refl _))
