/-! REGISTERS FOR WAITING LINES, on both sides -/
section XGV
variable {D : Int} {v : vS} {F : xF} {o p q : Nat}
theorem vgv_n1 (h : ¬ v.2.1 17 (o + 1) p = 0) : vgv o p v = v := by
  unfold vgv
  rw [if_neg (fun z => h z.2)]
theorem vgv_n2 (h : v.2.2.1 (30 * o + 1) = []) : vgv o p v = v := by
  unfold vgv vgx
  rw [show o + 1 - 1 = o from rfl, h, if_neg]
  intro z
  exact absurd z.1 (by decide)
theorem itr_no1 : ∀ (m p : Nat), p + m = 3 → (∀ q, p ≤ q → q < 3 → ¬ v.2.1 17 (o + 1) (30 + q) = 0) → itr (vgv o) (30 + p) m v = v
  | 0, _, _, _ => rfl
  | m + 1, p, hm, h => by
    show itr (vgv o) (30 + p + 1) m (vgv o (30 + p) v) = v
    rw [vgv_n1 (h p (Nat.le_refl _) (by omega))]
    exact itr_no1 m (p + 1) (by omega) (fun q h1 h2 => h q (by omega) h2)
theorem itr_no2 (h : v.2.2.1 (30 * o + 1) = []) : ∀ (m p : Nat), itr (vgv o) p m v = v
  | 0, _ => rfl
  | m + 1, p => by
    show itr (vgv o) (p + 1) m (vgv o p v) = v
    rw [vgv_n2 h]
    exact itr_no2 h m (p + 1)
theorem itr_skip : ∀ (d p : Nat), p + d ≤ 3 → (∀ q, p ≤ q → q < p + d → ¬ v.2.1 17 (o + 1) (30 + q) = 0) → itr (vgv o) (30 + p) (33 - (30 + p)) v = itr (vgv o) (30 + (p + d)) (33 - (30 + (p + d))) v
  | 0, _, _, _ => rfl
  | d + 1, p, hp, h => by
    rw [itr_st (by omega), vgv_n1 (h p (Nat.le_refl _) (by omega)), show 30 + p + 1 = 30 + (p + 1) by omega, itr_skip d (p + 1) (by omega) (fun q h1 h2 => h q (by omega) (by omega)), show p + 1 + d = p + (d + 1) by omega]
theorem vgv_b {n : Nat} {W : List Int32} (hn : n < 24) (h : v.2.2.1 (30 * o + 1) = Int32.ofNat n :: W) (hi : v.2.1 17 (o + 1) (30 + q) = 0) : vgv o (30 + q) v = vbeg (vrw v (30 * o + 1) (rdel (v.2.2.1 (30 * o + 1)) (Int32.ofNat n))) (o + 1) (24 * o + n + 1) (Int32.ofNat (30 + q)) := by
  have on := ofN (n := n) (by omega)
  have e : vgx o v = Int32.ofNat n := by
    unfold vgx
    rw [show o + 1 - 1 = o from rfl, h]
    rfl
  unfold vgv
  rw [e, on.2, show o + 1 - 1 = o from rfl, if_pos]
  refine ⟨?_, hi⟩
  unfold isl
  exact decide_eq_true (by omega)
theorem rbeg_24 {c : Nat} {r : Int32} : rbeg (x_u2 F 24 c (-1)) c r = rbeg F c r := by
  unfold rbeg rbeg0
  rw [u2_self (F := x_u2 F 24 c (-1)) u2_eq]
/-- the longest waiting line gets a register -/
theorem Sim.give {n : Nat} {W : List Int32} (S : Sim D v F) (ho : o < 3) (hn : n < 24) (hW : v.2.2.1 (30 * o + 1) = Int32.ofNat n :: W) (hq : q < 3) (hid : (F 38 (3 * o + q)).toInt < 0) : Sim D (vgv o (30 + q) v) (rbeg F (24 * o + n) (Int32.ofNat q)) := by
  have hi : v.2.1 17 (o + 1) (30 + q) = 0 := by
    have := (S.1.i38 ho hq).1
    omega
  rw [vgv_b hn hW hi]
  obtain ⟨a1, -⟩ := S.1.wq.1 o ho
  obtain ⟨n', b1, b2, b3⟩ := a1 (Int32.ofNat n) (by rw [hW]; exact List.mem_cons_self)
  rw [← ofN_inj (by omega) (by omega) b2] at b3
  obtain ⟨c1, c2, c3, c4⟩ := (S.pl (c := 24 * o + n) (by omega)).2.2.2.2.2.2.2.1.2 b3
  have e24 : (24 * o + n) / 24 = o := by omega
  have S2 := (S.wdel ho hn).begin (c := 24 * o + n) (r := q) (by omega) c1 c2 u2_eq c3 c4 hq (by rw [e24]; exact hid)
  rw [e24, rbeg_24] at S2
  exact S2
/-- looking for the longest waiting one: m have been looked at -/
def LG (F : xF) (o m : Nat) (x : Int32) : Prop := (x = -1 ∧ ∀ n, n < m → (F 24 (24 * o + n)).toInt < 0) ∨ ∃ k, k < m ∧ x = Int32.ofNat (24 * o + k) ∧ 0 ≤ (F 24 (24 * o + k)).toInt ∧ ∀ n, n < m → 0 ≤ (F 24 (24 * o + n)).toInt → (F 24 (24 * o + k)).toInt ≤ (F 24 (24 * o + n)).toInt
theorem LG.keep {m : Nat} {x : Int32} (h : LG F o m x) (hn : (F 24 (24 * o + m)).toInt < 0 ∨ ∀ k, x = Int32.ofNat (24 * o + k) → k < m → (F 24 (24 * o + k)).toInt ≤ (F 24 (24 * o + m)).toInt) (hx : ¬ (F 24 (24 * o + m)).toInt < 0 → ¬ x = -1) : LG F o (m + 1) x := by
  rcases h with ⟨e, h⟩ | ⟨k, h1, h2, h3, h4⟩
  · refine Or.inl ⟨e, fun n h' => ?_⟩
    by_cases q : n = m
    · rw [q]; exact Classical.byContradiction (fun z => hx z e)
    · exact h n (by omega)
  · refine Or.inr ⟨k, by omega, h2, h3, fun n h' h0 => ?_⟩
    by_cases q : n = m
    · rw [q] at h0 ⊢
      rcases hn with z | z
      · omega
      · exact z k h2 h1
    · exact h4 n (by omega) h0
theorem LG.take {m : Nat} {x : Int32} (h : LG F o m x) (h0 : 0 ≤ (F 24 (24 * o + m)).toInt) (hn : ∀ k, x = Int32.ofNat (24 * o + k) → k < m → (F 24 (24 * o + m)).toInt ≤ (F 24 (24 * o + k)).toInt) : LG F o (m + 1) (Int32.ofNat (24 * o + m)) := by
  refine Or.inr ⟨m, by omega, rfl, h0, fun n h' hw => ?_⟩
  by_cases q : n = m
  · rw [q]; exact Int.le_refl _
  · rcases h with ⟨e, h⟩ | ⟨k, h1, h2, h3, h4⟩
    · have := h n (by omega)
      omega
    · have := hn k h2 h1
      have := h4 n (by omega) hw
      omega
/-- .. it is the first of the class's row -/
theorem LG.done {x : Int32} (h : LG F o 24 x) (S : Sim D v F) (ho : o < 3) (hw : 0 < (v.2.2.1 (30 * o + 1)).length) : ∃ n W, n < 24 ∧ x = Int32.ofNat (24 * o + n) ∧ v.2.2.1 (30 * o + 1) = Int32.ofNat n :: W := by
  obtain ⟨a1, a2, a3⟩ := S.1.wq.1 o ho
  cases e : v.2.2.1 (30 * o + 1) with
  | nil => rw [e] at hw; exact absurd hw (by decide)
  | cons y W =>
    rw [e] at a1 a2 a3
    obtain ⟨n, b1, b2, b3⟩ := a1 y List.mem_cons_self
    rcases h with ⟨-, h⟩ | ⟨k, h1, h2, h3, h4⟩
    · have := h n b1
      omega
    · have hk := a2 k h1 h3
      refine ⟨n, W, b1, ?_, by rw [b2]⟩
      rcases List.mem_cons.mp hk with z | z
      · rw [b2] at z
        rw [h2, ofN_inj (by omega) (by omega) z]
      · have := (List.pairwise_cons.mp a3).1 _ z
        rw [b2, (ofN (n := n) (by omega)).2, (ofN (n := k) (by omega)).2] at this
        have := h4 n b1 b3
        omega
end XGV
theorem rbeg_38 {F : xF} {l q i : Nat} (hq : q < 3) (hl : l < 72) : rbeg F l (Int32.ofNat q) 38 i = if i = 3 * (l / 24) + q then Int32.ofNat l else F 38 i := by
  unfold rbeg
  rw [cod_regR hq, rseize_c (T := 0) (K := 38) (i := 3 * (l / 24) + q) (by unfold slo; omega) (by omega)]
  by_cases e : i = 3 * (l / 24) + q
  · rw [e, u2_eq, if_pos rfl]
  · rw [u2_ni e, if_neg e]
    rfl
theorem r127 {D : Int} {v : vS} {F : xF} {o : Nat} (S : Sim D v F) (ho : o < 3) : EC MR 127 [rf 8 1, .inl (Int32.ofNat o)] F (fun o9 t' => o9 = ov ∧ Sim D (vgvs o v) t' ∧ ∀ i, t' 8 i = F 8 i) := by
  refine EC.mk (fun n0 => ?_)
  show BC _ n0 127 0 [rf 8 1, .inl (Int32.ofNat o), rf 0 0, rf 0 0] [] _ _
  have lp0 : ∀ (n : Nat) (p : Nat) (w : vS) (t : xF) (z2 z3 : xV), p ≤ 3 → Sim D w t → (∀ i, t 8 i = F 8 i) → (∀ q, q < p → 0 ≤ (t 38 (3 * o + q)).toInt ∨ w.2.2.1 (30 * o + 1) = []) → BC MR n 127 0 [rf 8 1, .inl (Int32.ofNat o), z2, z3] [] t (fun o9 t' => o9 = ov ∧ Sim D (itr (vgv o) (30 + p) (33 - (30 + p)) w) t' ∧ ∀ i, t' 8 i = F 8 i) := by
    intro n0
    induction n0 using Nat.strongRecOn with
    | ind n0 ih0 =>
      intro p w t z2 z3 hp S h8 hq
      refine BC.blk c127_0 (fun m1 hm1 => ?_)
      refine c_aload rfl ?_
      refine c_iload rfl ?_
      refine p_callv mr_rs (e107 ho) (fun r hr => ?_)
      refine c_if_lt (fun d1 => ?_) (fun d1 => ?_)
      · skip
        refine BC.blk c127_82 (fun m2 hm2 => ?_)
        refine c_ret ⟨rfl, ?_, h8⟩
        rw [itr_no1 (33 - (30 + p)) p (by omega) (fun q' h1 h2 => ?_)]
        · exact S
        · rcases hr with ⟨-, h⟩ | ⟨k, k1, k2, -⟩
          · have := (S.1.i38 ho (k := q') h2).1
            have := h q' h2
            omega
          · rw [k2, (ofN (n := k) (by omega)).1] at d1
            omega
      · skip
        refine c_aload rfl ?_
        refine c_iload rfl ?_
        refine p_callv mr_rs (e108 ho) (fun b hb => ?_)
        refine c_if_eq (fun d2 => ?_) (fun d2 => ?_)
        · skip
          refine BC.blk c127_82 (fun m3 hm3 => ?_)
          exact c_ret ⟨rfl, by rw [itr_no2 ((S.1.fwt ho hb).elim (fun z => absurd (z.1.symm.trans d2) (by decide)) (fun z => z.2))]; exact S, h8⟩
        · skip
          refine c_iconst ?_
          refine c_istore rfl ?_
          refine c_iconst ?_
          refine c_iload rfl ?_
          refine c_bin (ofN_mul (24) (o)) ?_
          refine c_istore rfl ?_
          refine c_goto ?_
          have lp23 : ∀ (n : Nat) (x : Int32) (m : Nat), n < n0 → m ≤ 24 → LG t o m x → BC MR n 127 23 [rf 8 1, .inl (Int32.ofNat o), .inl x, .inl (Int32.ofNat (24 * o + m))] [] t (fun o9 t' => o9 = ov ∧ Sim D (itr (vgv o) (30 + p) (33 - (30 + p)) w) t' ∧ ∀ i, t' 8 i = F 8 i) := by
            intro n23
            induction n23 using Nat.strongRecOn with
            | ind n23 ih23 =>
              intro x m hn23 hm lg
              have om := ofN (n := 24 * o + m) (by omega)
              have oe := ofN (n := 24 * o + 24) (by omega)
              refine BC.blk c127_23 (fun m4 hm4 => ?_)
              refine c_iload rfl ?_
              refine c_iconst ?_
              refine c_iload rfl ?_
              refine c_bin (ofN_mul (24) (o)) ?_
              refine c_iconst ?_
              refine c_bin (ofN_add ((24 * o)) (24)) ?_
              refine c_icmp_ge (fun d3 => ?_) (fun d3 => ?_)
              · skip
                refine BC.blk c127_74 (fun m5 hm5 => ?_)
                have m24 : m = 24 := by omega
                subst m24
                have hlen : 0 < (w.2.2.1 (30 * o + 1)).length := (S.1.fwt ho hb).elim (fun z => z.2) (fun z => absurd z.1 d2)
                obtain ⟨n1, W, hn1, ex, hW⟩ := lg.done S ho hlen
                subst ex
                refine c_aload rfl ?_
                refine c_iload rfl ?_
                refine c_callv mr_rs (e109 (l := 24 * o + n1) (by omega)) (fun w t1 p => ?_) (fun k t1 p => by cases p.1)
                obtain ⟨e9, ⟨r2, hr2, rfl⟩⟩ := p
                cases e9
                refine c_goto ?_
                have e24 : (24 * o + n1) / 24 = o := by omega
                rw [e24] at hr2
                have er := FS.eq hr hr2 (fun _ _ => Iff.rfl)
                subst er
                rcases hr with ⟨z, -⟩ | ⟨q, q1, q2, q3, q4⟩
                · rw [z] at d1; exact absurd (show (-1 : Int32).toInt < 0 by decide) d1
                · have hpq : p ≤ q := Nat.le_of_not_lt (fun z => by
                    rcases hq q z with y | y
                    · omega
                    · rw [hW] at y; cases y)
                  have SG := S.give ho hn1 hW q1 q3
                  have e1 := itr_skip (v := w) (o := o) (q - p) p (by omega) (fun q' h1 h2 => by
                    have := (S.1.i38 ho (k := q') (by omega)).1
                    have := q4 q' (by omega)
                    omega)
                  rw [show p + (q - p) = q by omega, itr_st (i := 30 + q) (by omega)] at e1
                  rw [e1, q2]
                  refine ih0 m5 (by omega) (q + 1) _ _ _ _ (by omega) SG (fun i => rbeg_8.trans (h8 i)) (fun q' h' => Or.inl ?_)
                  rw [rbeg_38 q1 (by omega), e24]
                  by_cases z : q' = q
                  · rw [z, if_pos rfl, (ofN (n := 24 * o + n1) (by omega)).1]
                    omega
                  · rw [if_neg (by omega)]
                    have := q4 q' (by omega)
                    omega
              · skip
                refine c_aload rfl ?_
                refine c_gfr (fun _ C _ => C.ar (k := 5) (K := 24) (n := 72) (by decide)) ?_
                refine c_iload rfl ?_
                refine c_ald (fun _ C l9 i9 => C.an (k := 5) (K := 24) (n := 72) (by decide) i9 (ofN (by omega)).2) (fun p1 => ?_)
                refine c_if_lt (fun d4 => ?_) (fun d4 => ?_)
                · skip
                  refine BC.blk c127_66 (fun m6 hm6 => ?_)
                  refine c_iload rfl ?_
                  refine c_goto ?_
                  refine BC.blk c127_67 (fun m7 hm7 => ?_)
                  refine c_istore rfl ?_
                  refine c_iincN (i := (24 * o + m)) (k := 1) rfl rfl rfl ?_
                  refine c_goto ?_
                  exact ih23 m7 (by omega) x (m + 1) (by omega) (by omega) (lg.keep (Or.inl d4) (fun z => absurd d4 z))
                · skip
                  refine c_iload rfl ?_
                  refine c_if_lt (fun d5 => ?_) (fun d5 => ?_)
                  · skip
                    refine BC.blk c127_62 (fun m8 hm8 => ?_)
                    refine c_iload rfl ?_
                    refine c_goto ?_
                    refine BC.blk c127_67 (fun m9 hm9 => ?_)
                    refine c_istore rfl ?_
                    refine c_iincN (i := (24 * o + m)) (k := 1) rfl rfl rfl ?_
                    refine c_goto ?_
                    exact ih23 m9 (by omega) _ (m + 1) (by omega) (by omega) (lg.take (Int.not_lt.mp d4) (fun k9 e9 h9 => absurd d5 (by rw [e9, (ofN (n := 24 * o + k9) (by omega)).1]; omega)))
                  · skip
                    obtain ⟨k, k1, k2, k3, k4⟩ : ∃ k, k < m ∧ x = Int32.ofNat (24 * o + k) ∧ 0 ≤ (t 24 (24 * o + k)).toInt ∧ ∀ n, n < m → 0 ≤ (t 24 (24 * o + n)).toInt → (t 24 (24 * o + k)).toInt ≤ (t 24 (24 * o + n)).toInt := lg.elim (fun z => absurd (show x.toInt < 0 by rw [z.1]; decide) d5) id
                    rw [k2]
                    refine c_aload rfl ?_
                    refine c_gfr (fun _ C _ => C.ar (k := 5) (K := 24) (n := 72) (by decide)) ?_
                    refine c_iload rfl ?_
                    refine c_ald (fun _ C l9 i9 => C.an (k := 5) (K := 24) (n := 72) (by decide) i9 (ofN (by omega)).2) (fun p2 => ?_)
                    refine c_aload rfl ?_
                    refine c_gfr (fun _ C _ => C.ar (k := 5) (K := 24) (n := 72) (by decide)) ?_
                    refine c_iload rfl ?_
                    refine c_ald (fun _ C l9 i9 => C.an (k := 5) (K := 24) (n := 72) (by decide) i9 (ofN (by omega)).2) (fun p3 => ?_)
                    refine c_icmp_ge (fun d6 => ?_) (fun d6 => ?_)
                    · skip
                      refine BC.blk c127_66 (fun m10 hm10 => ?_)
                      refine c_iload rfl ?_
                      refine c_goto ?_
                      refine BC.blk c127_67 (fun m11 hm11 => ?_)
                      refine c_istore rfl ?_
                      refine c_iincN (i := (24 * o + m)) (k := 1) rfl rfl rfl ?_
                      refine c_goto ?_
                      refine ih23 m11 (by omega) _ (m + 1) (by omega) (by omega) ?_
                      rw [← k2]
                      exact lg.keep (Or.inr (fun k9 e9 h9 => by rw [show k9 = k by have := ofN_inj (by omega) (by omega) (e9.symm.trans k2); omega]; exact d6)) (fun _ z => by rw [z] at d5; exact d5 (by decide))
                    · skip
                      refine c_goto ?_
                      refine BC.blk c127_62 (fun m12 hm12 => ?_)
                      refine c_iload rfl ?_
                      refine c_goto ?_
                      refine BC.blk c127_67 (fun m13 hm13 => ?_)
                      refine c_istore rfl ?_
                      refine c_iincN (i := (24 * o + m)) (k := 1) rfl rfl rfl ?_
                      refine c_goto ?_
                      exact ih23 m13 (by omega) _ (m + 1) (by omega) (by omega) (lg.take (Int.not_lt.mp d4) (fun k9 e9 h9 => by rw [show k9 = k by have := ofN_inj (by omega) (by omega) (e9.symm.trans k2); omega]; omega))
          exact lp23 m1 (-1) 0 (by omega) (by omega) (Or.inl ⟨rfl, fun n h => absurd h (by omega)⟩)
  exact lp0 n0 0 v F _ _ (by omega) S (fun _ => rfl) (fun q h => absurd h (by omega))
