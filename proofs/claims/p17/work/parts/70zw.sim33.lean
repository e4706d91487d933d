/-! ONE UNIT OF TIME -/
section XON
variable {D D' : Int} {v : vS} {F : xF} {o : Nat}
theorem vdoj_n (h : v.2.2.1 (30 * o + 2) = []) : vdoj v (o + 1) = v := by
  have er : rat (v.2.2.1 (30 * (o + 1 - 1) + 2)) 0 = -1 := by
    show rat (v.2.2.1 (30 * o + 2)) 0 = _
    rw [h]
    rfl
  unfold vdoj
  rw [er]
  exact if_pos (Or.inl (by decide))
theorem Sim.jhead (S : Sim D v F) (ho : o < 3) (h : 0 < (v.2.2.1 (30 * o + 2)).length) : ∃ c W, c < 72 ∧ v.2.2.1 (30 * o + 2) = Int32.ofNat c :: W ∧ F 46 (72 * o) = Int32.ofNat c ∧ (F 59 c).toInt < D := by
  obtain ⟨⟨-, a1⟩, -, -, a2⟩ := S.1.jq o ho
  cases e : v.2.2.1 (30 * o + 2) with
  | nil => rw [e] at h; exact absurd h (by decide)
  | cons y W =>
    obtain ⟨c, b1, b2, -, -, -, b6⟩ := a2 y (by rw [e]; exact List.mem_cons_self)
    have := a1 0 y (by rw [e]; rfl)
    rw [Nat.add_zero, b2] at this
    exact ⟨c, W, b1, by rw [b2], this, b6⟩
theorem itr9' (f : Nat → Nat → vS → vS) : itr (fun o v => itr (f o) 30 3 v) 0 3 v = itr (fun k => f (k / 3) (30 + k % 3)) 0 9 v := rfl
theorem itr9 : itr vsds 0 3 v = itr (fun k => vsd (k / 3) (30 + k % 3)) 0 9 v := itr9' vsd
theorem vone_e : itr vgvs 0 3 (itr vps 0 72 (itr (fun k => vsd (k / 3) (30 + k % 3)) 0 9 (itr (fun o w => vdoj w (o + 1)) 0 3 v))) = vone v := by rw [← itr9]; rfl
end XON
theorem r128 {D : Int} {v : vS} {F : xF} (S : Sim ((F 8 1).toInt + 1) v F) (h0 : 0 ≤ (F 8 1).toInt) (h1 : (F 8 1).toInt < 1000000) : EC MR 128 [rf 8 1] F (fun o9 t' => o9 = ov ∧ Sim ((F 8 1).toInt + 1 + 1) (vone v) t' ∧ t' 8 1 = F 8 1 + 1 ∧ t' 8 2 = F 8 2 ∧ t' 8 0 = F 8 0) := by
  have e1 : (F 8 1 + 1).toInt = (F 8 1).toInt + 1 := i32_add (by show _ ≤ _ + (1 : Int); omega) (by show _ + (1 : Int) < _; omega)
  refine EC.mk (fun n0 => ?_)
  show BC _ n0 128 0 [rf 8 1, rf 0 0] [] _ _
  refine BC.blk c128_0 (fun m1 hm1 => ?_)
  refine c_aload rfl ?_
  refine c_dup ?_
  refine c_gfi (fun _ C _ => C.f _) ?_
  refine c_iconst ?_
  refine c_bin rfl ?_
  refine c_pfi (fun _ C _ => C.pf) ?_
  refine c_iconst ?_
  refine c_istore rfl ?_
  refine c_goto ?_
  have lp12 : ∀ (n : Nat) (i : Nat) (w : vS) (t : xF), i ≤ 3 → Sim ((F 8 1).toInt + 1) w t → t 8 1 = F 8 1 + 1 → t 8 2 = F 8 2 → t 8 0 = F 8 0 → itr (fun o w => vdoj w (o + 1)) i (3 - i) w = itr (fun o w => vdoj w (o + 1)) 0 3 v → BC MR n 128 12 [rf 8 1, .inl (Int32.ofNat i)] [] t (fun o9 t' => o9 = ov ∧ Sim ((F 8 1).toInt + 1 + 1) (vone v) t' ∧ t' 8 1 = F 8 1 + 1 ∧ t' 8 2 = F 8 2 ∧ t' 8 0 = F 8 0) := by
    intro n12
    induction n12 using Nat.strongRecOn with
    | ind n12 ih12 =>
      intro i w t hi S h81 h82 h80 he
      have oi := ofN (n := i) (by omega)
      refine BC.blk c128_12 (fun m2 hm2 => ?_)
      refine c_iload rfl ?_
      refine c_iconst ?_
      refine c_icmpk_ge (k := 3) rfl (fun d1 => ?_) (fun d1 => ?_)
      · skip
        refine BC.blk c128_58 (fun m3 hm3 => ?_)
        refine c_iconst ?_
        refine c_istore rfl ?_
        refine c_goto ?_
        have lp60 : ∀ (n : Nat) (i : Nat) (w : vS) (t : xF), i ≤ 9 → Sim ((F 8 1).toInt + 1 + 1) w t → t 8 1 = F 8 1 + 1 → t 8 2 = F 8 2 → t 8 0 = F 8 0 → itr (fun k => vsd (k / 3) (30 + k % 3)) i (9 - i) w = itr (fun k => vsd (k / 3) (30 + k % 3)) 0 9 (itr (fun o w => vdoj w (o + 1)) 0 3 v) → BC MR n 128 60 [rf 8 1, .inl (Int32.ofNat i)] [] t (fun o9 t' => o9 = ov ∧ Sim ((F 8 1).toInt + 1 + 1) (vone v) t' ∧ t' 8 1 = F 8 1 + 1 ∧ t' 8 2 = F 8 2 ∧ t' 8 0 = F 8 0) := by
          intro n60
          induction n60 using Nat.strongRecOn with
          | ind n60 ih60 =>
            intro i w t hi S h81 h82 h80 he
            have oi := ofN (n := i) (by omega)
            refine BC.blk c128_60 (fun m4 hm4 => ?_)
            refine c_iload rfl ?_
            refine c_iconst ?_
            refine c_icmpk_ge (k := 9) rfl (fun d2 => ?_) (fun d2 => ?_)
            · skip
              refine BC.blk c128_82 (fun m5 hm5 => ?_)
              refine c_iconst ?_
              refine c_istore rfl ?_
              refine c_goto ?_
              have lp84 : ∀ (n : Nat) (i : Nat) (w : vS) (t : xF), i ≤ 72 → Sim ((F 8 1).toInt + 1 + 1) w t → t 8 1 = F 8 1 + 1 → t 8 2 = F 8 2 → t 8 0 = F 8 0 → itr vps i (72 - i) w = itr vps 0 72 (itr (fun k => vsd (k / 3) (30 + k % 3)) 0 9 (itr (fun o w => vdoj w (o + 1)) 0 3 v)) → BC MR n 128 84 [rf 8 1, .inl (Int32.ofNat i)] [] t (fun o9 t' => o9 = ov ∧ Sim ((F 8 1).toInt + 1 + 1) (vone v) t' ∧ t' 8 1 = F 8 1 + 1 ∧ t' 8 2 = F 8 2 ∧ t' 8 0 = F 8 0) := by
                intro n84
                induction n84 using Nat.strongRecOn with
                | ind n84 ih84 =>
                  intro i w t hi S h81 h82 h80 he
                  have oi := ofN (n := i) (by omega)
                  refine BC.blk c128_84 (fun m6 hm6 => ?_)
                  refine c_iload rfl ?_
                  refine c_iconst ?_
                  refine c_icmpk_ge (k := 72) rfl (fun d3 => ?_) (fun d3 => ?_)
                  · skip
                    refine BC.blk c128_101 (fun m7 hm7 => ?_)
                    refine c_iconst ?_
                    refine c_istore rfl ?_
                    refine c_goto ?_
                    have lp103 : ∀ (n : Nat) (i : Nat) (w : vS) (t : xF), i ≤ 3 → Sim ((F 8 1).toInt + 1 + 1) w t → t 8 1 = F 8 1 + 1 → t 8 2 = F 8 2 → t 8 0 = F 8 0 → itr vgvs i (3 - i) w = vone v → BC MR n 128 103 [rf 8 1, .inl (Int32.ofNat i)] [] t (fun o9 t' => o9 = ov ∧ Sim ((F 8 1).toInt + 1 + 1) (vone v) t' ∧ t' 8 1 = F 8 1 + 1 ∧ t' 8 2 = F 8 2 ∧ t' 8 0 = F 8 0) := by
                      intro n103
                      induction n103 using Nat.strongRecOn with
                      | ind n103 ih103 =>
                        intro i w t hi S h81 h82 h80 he
                        have oi := ofN (n := i) (by omega)
                        refine BC.blk c128_103 (fun m8 hm8 => ?_)
                        refine c_iload rfl ?_
                        refine c_iconst ?_
                        refine c_icmpk_ge (k := 3) rfl (fun d4 => ?_) (fun d4 => ?_)
                        · skip
                          refine BC.blk c128_119 (fun m9 hm9 => ?_)
                          exact c_ret ⟨rfl, ((itr_end (show 3 ≤ i by omega)).symm.trans he) ▸ S, h81, h82, h80⟩
                        · skip
                          refine c_aload rfl ?_
                          refine c_iload rfl ?_
                          refine c_callv mr_rs (r127 S (show i < 3 by omega)) (fun w t1 p => ?_) (fun k t1 p => by cases p.1)
                          obtain ⟨e9, ⟨S3, e8⟩⟩ := p
                          cases e9
                          refine c_iincN (i := i) (k := 1) rfl rfl rfl ?_
                          refine c_goto ?_
                          exact ih103 m8 (by omega) (i + 1) _ _ (by omega) S3 ((e8 1).trans h81) ((e8 2).trans h82) ((e8 0).trans h80) ((itr_st (show i < 3 by omega)).symm.trans he)
                    have hw := (itr_end (show 72 ≤ i by omega)).symm.trans he
                    exact lp103 m7 0 w t (by omega) S h81 h82 h80 (by rw [hw]; exact vone_e)
                  · skip
                    refine c_aload rfl ?_
                    refine c_iload rfl ?_
                    refine c_callv mr_rs (r126 S (show i < 72 by omega)) (fun w t1 p => ?_) (fun k t1 p => by cases p.1)
                    obtain ⟨e9, ⟨S3, e8⟩⟩ := p
                    cases e9
                    refine c_iincN (i := i) (k := 1) rfl rfl rfl ?_
                    refine c_goto ?_
                    exact ih84 m6 (by omega) (i + 1) _ _ (by omega) S3 ((e8 1).trans h81) ((e8 2).trans h82) ((e8 0).trans h80) ((itr_st (show i < 72 by omega)).symm.trans he)
              have hw := (itr_end (show 9 ≤ i by omega)).symm.trans he
              exact lp84 m5 0 w t (by omega) S h81 h82 h80 (by rw [hw])
            · skip
              refine c_aload rfl ?_
              refine c_iload rfl ?_
              refine c_iconst ?_
              refine c_idiv (ofN_div (a := i) (b := 3) (by omega) (by omega) (by omega)) ?_
              refine c_iload rfl ?_
              refine c_iconst ?_
              refine c_irem (ofN_rem (a := i) (b := 3) (by omega) (by omega) (by omega)) ?_
              refine c_callv mr_rs (r125 S (show i / 3 < 3 by omega) (show i % 3 < 3 by omega) (by rw [h81, e1]; omega)) (fun w t1 p => ?_) (fun k t1 p => by cases p.1)
              obtain ⟨e9, ⟨S3, e8⟩⟩ := p
              cases e9
              refine c_iincN (i := i) (k := 1) rfl rfl rfl ?_
              refine c_goto ?_
              exact ih60 m4 (by omega) (i + 1) _ _ (by omega) S3 ((e8 1).trans h81) ((e8 2).trans h82) ((e8 0).trans h80) ((itr_st (show i < 9 by omega)).symm.trans he)
        have hw := (itr_end (show 3 ≤ i by omega)).symm.trans he
        exact lp60 m3 0 w t (by omega) (S.up (by omega)) h81 h82 h80 (by rw [hw])
      · skip
        have hl3 := (S.1.jq i (by omega)).2.2.1
        have oL := ofN (n := (w.2.2.1 (30 * i + 2)).length) (by omega)
        refine c_aload rfl ?_
        refine c_gfr (fun _ C _ => C.ar (k := 27) (K := 45) (n := 3) (by decide)) ?_
        refine c_iload rfl ?_
        refine c_ald (fun _ C l9 i9 => (fun z => ⟨z.1, z.2.trans (S.1.jq i (by omega)).1.1⟩) (C.an (k := 27) (K := 45) (n := 3) (by decide) i9 (ofN (by omega)).2)) (fun p1 => ?_)
        refine c_if_le (fun d5 => ?_) (fun d5 => ?_)
        · skip
          refine BC.blk c128_52 (fun m10 hm10 => ?_)
          refine c_iincN (i := i) (k := 1) rfl rfl rfl ?_
          refine c_goto ?_
          exact ih12 m10 (by omega) (i + 1) w t (by omega) S h81 h82 h80 (((congrArg (itr (fun o w => vdoj w (o + 1)) (i + 1) (3 - (i + 1))) (show (fun o w => vdoj w (o + 1)) i w = w from vdoj_n (List.eq_nil_of_length_eq_zero (by omega)))).symm.trans (itr_st (show i < 3 by omega)).symm).trans he)
        · skip
          obtain ⟨c, W, hc, hW, e46, h59⟩ := S.jhead (show i < 3 by omega) (by omega)
          refine c_aload rfl ?_
          refine c_gfr (fun _ C _ => C.ar (k := 41) (K := 59) (n := 72) (by decide)) ?_
          refine c_aload rfl ?_
          refine c_gfr (fun _ C _ => C.ar (k := 28) (K := 46) (n := 216) (by decide)) ?_
          refine c_iconst ?_
          refine c_iload rfl ?_
          refine c_bin (ofN_mul (72) (i)) ?_
          refine c_ald (fun _ C l9 i9 => (fun z => ⟨z.1, z.2.trans e46⟩) (C.an (k := 28) (K := 46) (n := 216) (by decide) i9 (ofN (by omega)).2)) (fun p2 => ?_)
          refine c_ald (fun _ C l9 i9 => (fun z => ⟨z.1, z.2.trans (show _ = t 59 c from rfl)⟩) (C.an (k := 41) (K := 59) (n := 72) (by decide) i9 (ofN (by omega)).2)) (fun p3 => ?_)
          refine c_aload rfl ?_
          refine c_gfi (fun _ C _ => C.f _) ?_
          refine c_icmp_ge (fun d6 => ?_) (fun d6 => ?_)
          · exact absurd d6 (by rw [h81, e1]; omega)
          · skip
            refine c_aload rfl ?_
            refine c_iload rfl ?_
            refine c_callv mr_rs (r124 S (show i < 3 by omega) hc hW) (fun w t1 p => ?_) (fun k t1 p => by cases p.1)
            obtain ⟨e9, ⟨S3, e80⟩⟩ := p
            cases e9
            refine c_goto ?_
            refine BC.blk c128_52 (fun m11 hm11 => ?_)
            refine c_iincN (i := i) (k := 1) rfl rfl rfl ?_
            refine c_goto ?_
            exact ih12 m11 (by omega) (i + 1) _ _ (by omega) S3 ((e80 1 (by decide)).trans h81) ((e80 2 (by decide)).trans h82) ((e80 0 (by decide)).trans h80) ((itr_st (show i < 3 by omega)).symm.trans he)
  exact lp12 m1 0 v _ (by omega) (S.f8 ⟨by decide, by decide⟩) u2_eq (u2_ni (by decide)) (u2_ni (by decide)) rfl
