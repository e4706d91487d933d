theorem e106 {F : xF} {c : Nat} {x : Int32} {l : List Int32} (hc : c < 72) (hl : LV F 63 64 16 c l) (h16 : l.length ≤ 16) {lj : Nat → List Int32} (hj : ∀ o, o < 3 → LV F 45 46 72 o (lj o) ∧ (lj o).length ≤ 72) : EC MR 106 [rf 8 1, .inl (Int32.ofNat c), .inl x] F (fun o9 t => o9 = ov ∧ ∃ t1, EN F c l lj t1 ∧ t = rover F t1 c x) := by
  refine EC.mk (fun n0 => ?_)
  show BC _ n0 106 0 [rf 8 1, .inl (Int32.ofNat c), .inl x, rf 0 0] [] _ _
  refine BC.blk c106_0 (fun m1 hm1 => ?_)
  refine c_aload rfl ?_
  refine c_gfr (fun _ C _ => C.ar (k := 39) (K := 57) (n := 72) (by decide)) ?_
  refine c_iload rfl ?_
  refine c_ald (fun _ C l9 i9 => C.an (k := 39) (K := 57) (n := 72) (by decide) i9 (ofN (by omega)).2) (fun p1 => ?_)
  refine c_istore rfl ?_
  refine c_aload rfl ?_
  refine c_iload rfl ?_
  refine c_callv mr_rs (e104 hc hl h16 hj) (fun w t1 p => ?_) (fun k t1 p => by cases p.1)
  obtain ⟨e9, hen⟩ := p
  cases e9
  refine c_aload rfl ?_
  refine c_gfr (fun _ C _ => C.ar (k := 39) (K := 57) (n := 72) (by decide)) ?_
  refine c_iload rfl ?_
  refine c_iconst ?_
  refine c_ast (fun _ C l9 i9 => C.sn (k := 39) (K := 57) (n := 72) (by decide) i9 (ofN (by omega)).2) (fun p2 => ?_)
  refine c_aload rfl ?_
  refine c_gfr (fun _ C _ => C.ar (k := 3) (K := 22) (n := 72) (by decide)) ?_
  refine c_iload rfl ?_
  refine c_ald (fun _ C l9 i9 => (fun z => ⟨z.1, z.2.trans (show _ = F 22 c from by first | exact (u2_ne (by decide)).trans (hen.k (by omega)) | exact (u2_ne (by decide)).trans ((u2_ne (by decide)).trans (hen.k (by omega))))⟩) (C.an (k := 3) (K := 22) (n := 72) (by decide) i9 (ofN (by omega)).2)) (fun p3 => ?_)
  refine c_if_eq (fun d1 => ?_) (fun d1 => ?_)
  · skip
    refine BC.blk c106_35 (fun m2 hm2 => ?_)
    refine c_iload rfl ?_
    refine c_if_lt (fun d2 => ?_) (fun d2 => ?_)
    · skip
      refine BC.blk c106_55 (fun m3 hm3 => ?_)
      exact c_ret ⟨rfl, t1, hen, by rw [rover, if_neg (fun z => absurd z.1 (by omega)), if_pos d1]⟩
    · skip
      refine c_aload rfl ?_
      refine c_gfr (fun _ C _ => C.ar (k := 3) (K := 22) (n := 72) (by decide)) ?_
      refine c_iload rfl ?_
      refine c_ald (fun _ C l9 i9 => (fun z => ⟨z.1, z.2.trans (show _ = F 22 (F 57 c).toNatClampNeg from by first | exact (u2_ne (by decide)).trans (hen.k (by omega)) | exact (u2_ne (by decide)).trans ((u2_ne (by decide)).trans (hen.k (by omega))))⟩) (C.an (k := 3) (K := 22) (n := 72) (by decide) i9 rfl)) (fun p4 => ?_)
      refine c_if_eq (fun d3 => ?_) (fun d3 => ?_)
      · skip
        refine BC.blk c106_55 (fun m4 hm4 => ?_)
        exact c_ret ⟨rfl, t1, hen, by rw [rover, if_neg (fun z => z.2 d3), if_pos d1]⟩
      · skip
        refine c_aload rfl ?_
        refine c_gfr (fun _ C _ => C.ar (k := 4) (K := 23) (n := 72) (by decide)) ?_
        refine c_iload rfl ?_
        refine c_iconst ?_
        refine c_ast (fun _ C l9 i9 => C.sn (k := 4) (K := 23) (n := 72) (by decide) i9 rfl) (fun p5 => ?_)
        refine c_goto ?_
        refine BC.blk c106_55 (fun m5 hm5 => ?_)
        exact c_ret ⟨rfl, t1, hen, by rw [rover, if_pos ⟨by omega, d3⟩, if_pos d1]⟩
  · skip
    refine c_aload rfl ?_
    refine c_gfr (fun _ C _ => C.ar (k := 4) (K := 23) (n := 72) (by decide)) ?_
    refine c_iload rfl ?_
    refine c_iload rfl ?_
    refine c_ast (fun _ C l9 i9 => C.sn (k := 4) (K := 23) (n := 72) (by decide) i9 (ofN (by omega)).2) (fun p6 => ?_)
    refine c_goto ?_
    refine BC.blk c106_35 (fun m6 hm6 => ?_)
    refine c_iload rfl ?_
    refine c_if_lt (fun d4 => ?_) (fun d4 => ?_)
    · skip
      refine BC.blk c106_55 (fun m7 hm7 => ?_)
      exact c_ret ⟨rfl, t1, hen, by rw [rover, if_neg (fun z => absurd z.1 (by omega)), if_neg d1]⟩
    · skip
      refine c_aload rfl ?_
      refine c_gfr (fun _ C _ => C.ar (k := 3) (K := 22) (n := 72) (by decide)) ?_
      refine c_iload rfl ?_
      refine c_ald (fun _ C l9 i9 => (fun z => ⟨z.1, z.2.trans (show _ = F 22 (F 57 c).toNatClampNeg from by first | exact (u2_ne (by decide)).trans (hen.k (by omega)) | exact (u2_ne (by decide)).trans ((u2_ne (by decide)).trans (hen.k (by omega))))⟩) (C.an (k := 3) (K := 22) (n := 72) (by decide) i9 rfl)) (fun p7 => ?_)
      refine c_if_eq (fun d5 => ?_) (fun d5 => ?_)
      · skip
        refine BC.blk c106_55 (fun m8 hm8 => ?_)
        exact c_ret ⟨rfl, t1, hen, by rw [rover, if_neg (fun z => z.2 d5), if_neg d1]⟩
      · skip
        refine c_aload rfl ?_
        refine c_gfr (fun _ C _ => C.ar (k := 4) (K := 23) (n := 72) (by decide)) ?_
        refine c_iload rfl ?_
        refine c_iconst ?_
        refine c_ast (fun _ C l9 i9 => C.sn (k := 4) (K := 23) (n := 72) (by decide) i9 rfl) (fun p8 => ?_)
        refine c_goto ?_
        refine BC.blk c106_55 (fun m9 hm9 => ?_)
        exact c_ret ⟨rfl, t1, hen, by rw [rover, if_pos ⟨by omega, d5⟩, if_neg d1]⟩
