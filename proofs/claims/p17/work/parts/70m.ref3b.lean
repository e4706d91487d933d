theorem e108 {F : xF} {o : Nat} (ho : o < 3) : EP MR 108 [rf 8 1, .inl (Int32.ofNat o)] F (DW F o) := by
  refine EC.mk (fun n0 => ?_)
  show BC _ n0 108 0 [rf 8 1, .inl (Int32.ofNat o), rf 0 0, rf 0 0] [] _ _
  refine BC.blk c108_0 (fun m1 hm1 => ?_)
  refine c_iconst ?_
  refine c_istore rfl ?_
  refine c_iconst ?_
  refine c_iload rfl ?_
  refine c_bin (ofN_mul (24) (o)) ?_
  refine c_istore rfl ?_
  refine c_goto ?_
  have lp7 : ∀ (n : Nat) (b : Int32) (l : Nat), 24 * o ≤ l → l ≤ 24 * o + 24 → ((b = 1 ∧ ∃ n, 24 * o + n < l ∧ 0 ≤ (F 24 (24 * o + n)).toInt) ∨ (b = 0 ∧ ∀ n, 24 * o + n < l → (F 24 (24 * o + n)).toInt < 0)) → BC MR n 108 7 [rf 8 1, .inl (Int32.ofNat o), .inl b, .inl (Int32.ofNat l)] [] F (fun o9 t => t = F ∧ ∃ x, o9 = oi x ∧ DW F o x) := by
    intro n7
    induction n7 using Nat.strongRecOn with
    | ind n7 ih7 =>
      intro b l h1 h2 kb
      refine BC.blk c108_7 (fun m2 hm2 => ?_)
      refine c_iload rfl ?_
      refine c_iconst ?_
      refine c_iload rfl ?_
      refine c_bin (ofN_mul (24) (o)) ?_
      refine c_iconst ?_
      refine c_bin (ofN_add ((24 * o)) (24)) ?_
      have o1 := ofN (n := l) (by omega)
      have o2 := ofN (n := 24 * o + 24) (by omega)
      refine c_icmp_ge (fun d1 => ?_) (fun d1 => ?_)
      · skip
        refine BC.blk c108_43 (fun m3 hm3 => ?_)
        refine c_iload rfl ?_
        refine c_zret ⟨rfl, b, rfl, ?_⟩
        rcases kb with ⟨e, n, h3, h4⟩ | ⟨e, h⟩
        · exact Or.inl ⟨e, n, by omega, h4⟩
        · exact Or.inr ⟨e, fun n hn => h n (by omega)⟩
      · skip
        refine c_iload rfl ?_
        refine c_if_ne (fun d2 => ?_) (fun d2 => ?_)
        · skip
          refine BC.blk c108_31 (fun m4 hm4 => ?_)
          refine c_iconst ?_
          refine c_goto ?_
          refine BC.blk c108_36 (fun m5 hm5 => ?_)
          refine c_istore rfl ?_
          refine c_iincN (i := l) (k := 1) rfl rfl rfl ?_
          refine c_goto ?_
          refine ih7 m5 (by omega) 1 (l + 1) (by omega) (by omega) (Or.inl ⟨rfl, ?_⟩)
          rcases kb with ⟨-, n, h3, h4⟩ | ⟨e, -⟩
          · exact ⟨n, by omega, h4⟩
          · exact absurd e d2
        · skip
          refine c_aload rfl ?_
          refine c_gfr (fun _ C _ => C.ar (k := 5) (K := 24) (n := 72) (by decide)) ?_
          refine c_iload rfl ?_
          refine c_ald (fun _ C l9 i9 => C.an (k := 5) (K := 24) (n := 72) (by decide) i9 (ofN (by omega)).2) (fun p1 => ?_)
          refine c_if_lt (fun d3 => ?_) (fun d3 => ?_)
          · skip
            refine BC.blk c108_35 (fun m6 hm6 => ?_)
            refine c_iconst ?_
            refine c_goto ?_
            refine BC.blk c108_36 (fun m7 hm7 => ?_)
            refine c_istore rfl ?_
            refine c_iincN (i := l) (k := 1) rfl rfl rfl ?_
            refine c_goto ?_
            refine ih7 m7 (by omega) 0 (l + 1) (by omega) (by omega) (Or.inr ⟨rfl, fun n hn => ?_⟩)
            rcases kb with ⟨e, -⟩ | ⟨-, h⟩
            · exact absurd (e.symm.trans d2) (by decide)
            · by_cases z : 24 * o + n = l
              · rw [z]; exact d3
              · exact h n (by omega)
          · skip
            refine c_goto ?_
            refine BC.blk c108_31 (fun m8 hm8 => ?_)
            refine c_iconst ?_
            refine c_goto ?_
            refine BC.blk c108_36 (fun m9 hm9 => ?_)
            refine c_istore rfl ?_
            refine c_iincN (i := l) (k := 1) rfl rfl rfl ?_
            refine c_goto ?_
            exact ih7 m9 (by omega) 1 (l + 1) (by omega) (by omega) (Or.inl ⟨rfl, l - 24 * o, by omega, by rw [show 24 * o + (l - 24 * o) = l by omega]; exact Int.not_lt.mp d3⟩)
  exact lp7 m1 0 (24 * o) (Nat.le_refl _) (by omega) (Or.inr ⟨rfl, fun n hn => absurd hn (by omega)⟩)
