theorem e102 {F : xF} {c : Nat} (hc : c < 72) {lj : Nat → List Int32} (hj : ∀ o, o < 3 → LV F 45 46 72 o (lj o) ∧ (lj o).length ≤ 72) : EC MR 102 [rf 8 1, .inl (Int32.ofNat c)] F (fun o9 t => o9 = ov ∧ DJ F c lj t) := by
  have h72 : ∀ o, o < 3 → (lj o).length ≤ 72 := fun o ho => (hj o ho).2
  refine EC.mk (fun n0 => ?_)
  show BC _ n0 102 0 [rf 8 1, .inl (Int32.ofNat c), rf 0 0, rf 0 0, rf 0 0] [] _ _
  refine BC.blk c102_0 (fun m1 hm1 => ?_)
  refine c_iconst ?_
  refine c_istore rfl ?_
  refine c_goto ?_
  have lp2 : ∀ (n : Nat) (o : Nat) (z3 z4 : xV) (t : xF), o ≤ 3 → DJo F c lj o t → BC MR n 102 2 [rf 8 1, .inl (Int32.ofNat c), .inl (Int32.ofNat o), z3, z4] [] t (fun o9 t => o9 = ov ∧ DJ F c lj t) := by
    intro n2
    induction n2 using Nat.strongRecOn with
    | ind n2 ih2 =>
      intro o z3 z4 t ho3 D
      have oo := ofN (n := o) (by omega)
      refine BC.blk c102_2 (fun m2 hm2 => ?_)
      refine c_iload rfl ?_
      refine c_iconst ?_
      refine c_icmpk_ge (k := 3) rfl (fun d1 => ?_) (fun d1 => ?_)
      · skip
        refine BC.blk c102_84 (fun m3 hm3 => ?_)
        exact c_ret ⟨rfl, D.1, fun o h => D.2.1 o (by omega)⟩
      · skip
        have hl := D.2.2 o (Nat.le_refl _) (by omega)
        have h7 := h72 o (by omega)
        refine c_iconst ?_
        refine c_istore rfl ?_
        refine c_iconst ?_
        refine c_istore rfl ?_
        refine c_goto ?_
        have lp12 : ∀ (n : Nat) (k i : Nat) (f : Nat → Int32), n < n2 → i ≤ (lj o).length → CP f (lj o) (fun y => !(y == Int32.ofNat c)) i k → BC MR n 102 12 [rf 8 1, .inl (Int32.ofNat c), .inl (Int32.ofNat o), .inl (Int32.ofNat k), .inl (Int32.ofNat i)] [] (seg t 46 72 o f) (fun o9 t => o9 = ov ∧ DJ F c lj t) := by
          intro n12
          induction n12 using Nat.strongRecOn with
          | ind n12 ih12 =>
            intro k i f hn12 hil cp
            have cl := cp.le
            refine BC.blk c102_12 (fun m4 hm4 => ?_)
            refine c_iload rfl ?_
            refine c_aload rfl ?_
            refine c_gfr (fun _ C _ => C.ar (k := 27) (K := 45) (n := 3) (by decide)) ?_
            refine c_iload rfl ?_
            refine c_ald (fun _ C l9 i9 => (fun z => ⟨z.1, z.2.trans ((seg_ne (by decide)).trans hl.1)⟩) (C.an (k := 27) (K := 45) (n := 3) (by decide) i9 (ofN (by omega)).2)) (fun p1 => ?_)
            have o1 := ofN (n := (lj o).length) (by omega)
            have o2 := ofN (n := i) (by omega)
            refine c_icmp_ge (fun d2 => ?_) (fun d2 => ?_)
            · skip
              refine BC.blk c102_71 (fun m5 hm5 => ?_)
              refine c_aload rfl ?_
              refine c_gfr (fun _ C _ => C.ar (k := 27) (K := 45) (n := 3) (by decide)) ?_
              refine c_iload rfl ?_
              refine c_iload rfl ?_
              refine c_ast (fun _ C l9 i9 => C.sn (k := 27) (K := 45) (n := 3) (by decide) i9 (ofN (by omega)).2) (fun p2 => ?_)
              refine c_iincN (i := o) (k := 1) rfl rfl rfl ?_
              refine c_goto ?_
              exact ih2 m5 (by omega) (o + 1) _ _ _ (by omega) (D.step (by omega) cp (by omega) h72)
            · skip
              have hit : i < (lj o).length := by omega
              have hy := List.getElem?_eq_getElem hit
              have fy := cp.2.2 _ _ (Nat.le_refl _) hy
              generalize (lj o)[i] = y at hy fy
              refine c_aload rfl ?_
              refine c_gfr (fun _ C _ => C.ar (k := 28) (K := 46) (n := 216) (by decide)) ?_
              refine c_iconst ?_
              refine c_iload rfl ?_
              refine c_bin (ofN_mul (72) (o)) ?_
              refine c_iload rfl ?_
              refine c_bin (ofN_add ((72 * o)) (i)) ?_
              refine c_ald (fun _ C l9 i9 => (fun z => ⟨z.1, z.2.trans ((seg_in (by omega)).trans fy)⟩) (C.an (k := 28) (K := 46) (n := 216) (by decide) i9 (ofN (by omega)).2)) (fun p3 => ?_)
              refine c_iload rfl ?_
              refine c_icmp_eq (fun d3 => ?_) (fun d3 => ?_)
              · skip
                refine BC.blk c102_65 (fun m6 hm6 => ?_)
                refine c_iincN (i := i) (k := 1) rfl rfl rfl ?_
                refine c_goto ?_
                exact ih12 m6 (by omega) k (i + 1) f (by omega) (by omega) (cp.skip hy (by simp [d3]))
              · skip
                refine c_aload rfl ?_
                refine c_gfr (fun _ C _ => C.ar (k := 28) (K := 46) (n := 216) (by decide)) ?_
                refine c_iconst ?_
                refine c_iload rfl ?_
                refine c_bin (ofN_mul (72) (o)) ?_
                refine c_iload rfl ?_
                refine c_bin (ofN_add ((72 * o)) (k)) ?_
                refine c_aload rfl ?_
                refine c_gfr (fun _ C _ => C.ar (k := 28) (K := 46) (n := 216) (by decide)) ?_
                refine c_iconst ?_
                refine c_iload rfl ?_
                refine c_bin (ofN_mul (72) (o)) ?_
                refine c_iload rfl ?_
                refine c_bin (ofN_add ((72 * o)) (i)) ?_
                refine c_ald (fun _ C l9 i9 => (fun z => ⟨z.1, z.2.trans ((seg_in (by omega)).trans fy)⟩) (C.an (k := 28) (K := 46) (n := 216) (by decide) i9 (ofN (by omega)).2)) (fun p4 => ?_)
                refine c_ast (fun _ C l9 i9 => C.sn (k := 28) (K := 46) (n := 216) (by decide) i9 (ofN (by omega)).2) (fun p5 => ?_)
                refine c_iincN (i := k) (k := 1) rfl rfl rfl ?_
                refine c_goto ?_
                refine BC.blk c102_65 (fun m7 hm7 => ?_)
                refine c_iincN (i := i) (k := 1) rfl rfl rfl ?_
                refine c_goto ?_
                have e9 := ih12 m7 (by omega) (k + 1) (i + 1) _ (by omega) (by omega) (cp.keep hy (by simp [d3]))
                rw [← seg_put (by omega)] at e9
                exact e9
        have e9 := lp12 m2 0 0 _ (by omega) (Nat.zero_le _) (CP.init hl.2)
        rw [seg_self] at e9
        exact e9
  exact lp2 m1 0 _ _ F (by omega) ⟨fun _ _ _ _ => rfl, fun o h => absurd h (by omega), fun o _ h => (hj o h).1⟩
theorem e104 {F : xF} {c : Nat} {l : List Int32} (hc : c < 72) (hl : LV F 63 64 16 c l) (h16 : l.length ≤ 16) {lj : Nat → List Int32} (hj : ∀ o, o < 3 → LV F 45 46 72 o (lj o) ∧ (lj o).length ≤ 72) : EC MR 104 [rf 8 1, .inl (Int32.ofNat c)] F (fun o9 t => o9 = ov ∧ EN F c l lj t) := by
  refine EC.mk (fun n0 => ?_)
  show BC _ n0 104 0 [rf 8 1, .inl (Int32.ofNat c)] [] _ _
  have lp0 : ∀ (n : Nat) (l' : List Int32) (t : xF), ELo F c l l' t → BC MR n 104 0 [rf 8 1, .inl (Int32.ofNat c)] [] t (fun o9 t => o9 = ov ∧ EN F c l lj t) := by
    intro n0
    induction n0 using Nat.strongRecOn with
    | ind n0 ih0 =>
      intro l' t E
      have h6 := E.2.2.2.2.2.2
      have o1 := ofN (n := l'.length) (by omega)
      refine BC.blk c104_0 (fun m1 hm1 => ?_)
      refine c_aload rfl ?_
      refine c_gfr (fun _ C _ => C.ar (k := 45) (K := 63) (n := 72) (by decide)) ?_
      refine c_iload rfl ?_
      refine c_ald (fun _ C l9 i9 => (fun z => ⟨z.1, z.2.trans E.2.2.2.2.1.1⟩) (C.an (k := 45) (K := 63) (n := 72) (by decide) i9 (ofN (by omega)).2)) (fun p1 => ?_)
      refine c_if_le (fun d1 => ?_) (fun d1 => ?_)
      · skip
        refine BC.blk c104_35 (fun m2 hm2 => ?_)
        have e0 : l' = [] := List.eq_nil_of_length_eq_zero (by omega)
        subst e0
        have hj' : ∀ o, o < 3 → LV t 45 46 72 o (lj o) ∧ (lj o).length ≤ 72 := fun o ho => ⟨⟨(E.k (by omega)).trans (hj o ho).1.1, fun k y hy => (E.k (by omega)).trans ((hj o ho).1.2 k y hy)⟩, (hj o ho).2⟩
        refine c_aload rfl ?_
        refine c_iload rfl ?_
        refine c_callv mr_rs (e102 hc hj') (fun w t2 p => ?_) (fun k t2 p => by cases p.1)
        obtain ⟨e9, hdj⟩ := p
        cases e9
        have e57 : t2 57 c = F 57 c := (hdj.1 57 c (by decide) (by decide)).trans (E.k (by omega))
        refine c_aload rfl ?_
        refine c_gfr (fun _ C _ => C.ar (k := 29) (K := 47) (n := 72) (by decide)) ?_
        refine c_iload rfl ?_
        refine c_iconst ?_
        refine c_ast (fun _ C l9 i9 => C.sn (k := 29) (K := 47) (n := 72) (by decide) i9 (ofN (by omega)).2) (fun p2 => ?_)
        refine c_aload rfl ?_
        refine c_gfr (fun _ C _ => C.ar (k := 39) (K := 57) (n := 72) (by decide)) ?_
        refine c_iload rfl ?_
        refine c_ald (fun _ C l9 i9 => (fun z => ⟨z.1, z.2.trans ((u2_ne (by decide)).trans e57)⟩) (C.an (k := 39) (K := 57) (n := 72) (by decide) i9 (ofN (by omega)).2)) (fun p3 => ?_)
        refine c_if_lt (fun d2 => ?_) (fun d2 => ?_)
        · skip
          refine BC.blk c104_68 (fun m3 hm3 => ?_)
          exact c_ret ⟨rfl, t, t2, E.done, hdj, by rw [if_pos d2]⟩
        · skip
          refine c_aload rfl ?_
          refine c_gfr (fun _ C _ => C.ar (k := 9) (K := 28) (n := 72) (by decide)) ?_
          refine c_aload rfl ?_
          refine c_gfr (fun _ C _ => C.ar (k := 39) (K := 57) (n := 72) (by decide)) ?_
          refine c_iload rfl ?_
          refine c_ald (fun _ C l9 i9 => (fun z => ⟨z.1, z.2.trans ((u2_ne (by decide)).trans e57)⟩) (C.an (k := 39) (K := 57) (n := 72) (by decide) i9 (ofN (by omega)).2)) (fun p4 => ?_)
          refine c_iconst ?_
          refine c_ast (fun _ C l9 i9 => C.sn (k := 9) (K := 28) (n := 72) (by decide) i9 rfl) (fun p5 => ?_)
          refine c_goto ?_
          refine BC.blk c104_68 (fun m4 hm4 => ?_)
          exact c_ret ⟨rfl, t, t2, E.done, hdj, by rw [if_neg d2]⟩
      · skip
        have hy := List.getElem?_eq_getElem (show l'.length - 1 < l'.length by omega)
        have hx := E.2.2.2.2.1.2 _ _ hy
        rw [show 16 * c + (l'.length - 1) = 16 * c + l'.length - 1 by omega] at hx
        generalize l'[l'.length - 1] = x at hy hx
        refine c_aload rfl ?_
        refine c_iload rfl ?_
        refine c_aload rfl ?_
        refine c_gfr (fun _ C _ => C.ar (k := 46) (K := 64) (n := 1152) (by decide)) ?_
        refine c_iconst ?_
        refine c_iload rfl ?_
        refine c_bin (ofN_mul (16) (c)) ?_
        refine c_aload rfl ?_
        refine c_gfr (fun _ C _ => C.ar (k := 45) (K := 63) (n := 72) (by decide)) ?_
        refine c_iload rfl ?_
        refine c_ald (fun _ C l9 i9 => (fun z => ⟨z.1, z.2.trans E.2.2.2.2.1.1⟩) (C.an (k := 45) (K := 63) (n := 72) (by decide) i9 (ofN (by omega)).2)) (fun p6 => ?_)
        refine c_bin (ofN_add ((16 * c)) (l'.length)) ?_
        refine c_iconst ?_
        refine c_bin (ofN_sub (a := 16 * c + l'.length) (b := 1) (by omega) (by omega)) ?_
        refine c_ald (fun _ C l9 i9 => (fun z => ⟨z.1, z.2.trans hx⟩) (C.an (k := 46) (K := 64) (n := 1152) (by decide) i9 (ofN (by omega)).2)) (fun p7 => ?_)
        refine c_callv mr_rs (e101 hc E.2.2.2.2.1 h6) (fun w t1 p => ?_) (fun k t1 p => by cases p.1)
        obtain ⟨e9, hre⟩ := p
        cases e9
        refine c_goto ?_
        exact ih0 m1 (by omega) _ _ (E.step (List.mem_iff_getElem?.mpr ⟨_, hy⟩) hre)
  exact lp0 n0 l F (ELo.init hl h16)
theorem e105 {F : xF} {c : Nat} {x : Int32} {l : List Int32} (hc : c < 72) (hl : LV F 63 64 16 c l) (h16 : l.length ≤ 16) {lj : Nat → List Int32} (hj : ∀ o, o < 3 → LV F 45 46 72 o (lj o) ∧ (lj o).length ≤ 72) : EC MR 105 [rf 8 1, .inl (Int32.ofNat c), .inl x] F (fun o9 t => o9 = ov ∧ ∃ t1, EN F c l lj t1 ∧ t = x_u2 (x_u2 t1 57 c (-1)) 23 c x) := by
  refine EC.mk (fun n0 => ?_)
  show BC _ n0 105 0 [rf 8 1, .inl (Int32.ofNat c), .inl x] [] _ _
  refine BC.blk c105_0 (fun m1 hm1 => ?_)
  refine c_aload rfl ?_
  refine c_iload rfl ?_
  refine c_callv mr_rs (e104 hc hl h16 hj) (fun w t1 p => ?_) (fun k t1 p => by cases p.1)
  obtain ⟨e9, hen⟩ := p
  cases e9
  refine c_aload rfl ?_
  refine c_gfr (fun _ C _ => C.ar (k := 39) (K := 57) (n := 72) (by decide)) ?_
  refine c_iload rfl ?_
  refine c_iconst ?_
  refine c_ast (fun _ C l9 i9 => C.sn (k := 39) (K := 57) (n := 72) (by decide) i9 (ofN (by omega)).2) (fun p1 => ?_)
  refine c_aload rfl ?_
  refine c_gfr (fun _ C _ => C.ar (k := 4) (K := 23) (n := 72) (by decide)) ?_
  refine c_iload rfl ?_
  refine c_iload rfl ?_
  refine c_ast (fun _ C l9 i9 => C.sn (k := 4) (K := 23) (n := 72) (by decide) i9 (ofN (by omega)).2) (fun p2 => ?_)
  exact c_ret ⟨rfl, t1, hen, rfl⟩
