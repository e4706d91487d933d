/-! HUNTS AND WAYS, on both sides -/
section XHU
variable {D : Int} {v : vS} {F : xF} {o h n l : Nat}
theorem Sim.frf (S : Sim D v F) (hl : l < 72) : frb v (l + 1) = true ↔ (F 22 l = 0 ∧ (F 28 l).toInt < 0 ∧ F 47 l = 0) := by
  unfold frb
  rw [decide_eq_true_eq, S.li hl]
  constructor
  · rintro ⟨a, b⟩
    by_cases h0 : F 47 l = 0
    · refine ⟨a, Int.not_le.mp (fun z => ?_), h0⟩
      obtain ⟨c, hc, ec⟩ := S.b28 hl z
      rw [(S.cr2 hl hc ec).1] at b
      omega
    · rw [S.cr1 hl h0] at b
      omega
  · rintro ⟨a, b, d⟩
    exact ⟨a, S.cr0 hl d b⟩
/-- a hunt's row -/
theorem Sim.hun (S : Sim D v F) (ho : o < 3) (hh : h < 4) : LV F 26 27 6 (4 * o + h) (v.2.2.1 (30 * o + 3 + h)) ∧ (v.2.2.1 (30 * o + 3 + h)).length ≤ 6 ∧ ∀ x ∈ v.2.2.1 (30 * o + 3 + h), ∃ n, n < 24 ∧ x = Int32.ofNat n := (S.1.hu o ho).1 h hh
theorem rat_n {l : List Int32} {k : Nat} (hk : k ≤ 100000) : rat l (Int32.ofNat k) = (l[k]?).getD (-1) := by
  have a := ofN hk
  unfold rat
  rw [if_pos (by omega), a.2]
/-- whether the hunt's first line is n -/
theorem Sim.hhd (S : Sim D v F) (ho : o < 3) (hh : h < 4) : rat (v.2.2.1 (30 * o + 3 + h)) 0 = Int32.ofNat n → n < 24 → 0 < (F 26 (4 * o + h)).toInt ∧ F 27 (6 * (4 * o + h)) = Int32.ofNat n := by
  obtain ⟨⟨a1, a2⟩, a3, a4⟩ := S.hun ho hh
  intro e hn
  have e : (v.2.2.1 (30 * o + 3 + h))[0]?.getD (-1) = Int32.ofNat n := e
  cases hc : (v.2.2.1 (30 * o + 3 + h))[0]? with
  | none =>
    rw [hc] at e
    have := congrArg Int32.toInt e
    rw [(ofN (n := n) (by omega)).1] at this
    have : (-1 : Int) = n := this
    omega
  | some y =>
    rw [hc] at e
    have e : y = Int32.ofNat n := e
    have hl := (List.getElem?_eq_some_iff.mp hc).1
    refine ⟨by rw [a1, (ofN (n := (v.2.2.1 (30 * o + 3 + h)).length) (by omega)).1]; omega, ?_⟩
    have := a2 0 y hc
    rw [Nat.add_zero] at this
    rw [this, e]
theorem Sim.hhn (S : Sim D v F) (ho : o < 3) (hh : h < 4) (h1 : 0 < (F 26 (4 * o + h)).toInt) (h2 : F 27 (6 * (4 * o + h)) = Int32.ofNat n) : rat (v.2.2.1 (30 * o + 3 + h)) 0 = Int32.ofNat n := by
  obtain ⟨⟨a1, a2⟩, a3, a4⟩ := S.hun ho hh
  rw [a1, (ofN (n := (v.2.2.1 (30 * o + 3 + h)).length) (by omega)).1] at h1
  have hl : 0 < (v.2.2.1 (30 * o + 3 + h)).length := by omega
  have hy := List.getElem?_eq_getElem hl
  have := a2 0 _ hy
  rw [Nat.add_zero, h2] at this
  show (v.2.2.1 (30 * o + 3 + h))[0]?.getD (-1) = _
  rw [hy]
  exact this.symm
/-- no two hunts begin with one line -/
theorem Sim.hho (S : Sim D v F) (ho : o < 3) {h' : Nat} (hh : h < 4) (hh' : h' < 4) (hn : n < 24) (e : rat (v.2.2.1 (30 * o + 3 + h)) 0 = Int32.ofNat n) (e' : rat (v.2.2.1 (30 * o + 3 + h')) 0 = Int32.ofNat n) : h = h' := by
  have key : ∀ g, rat (v.2.2.1 (30 * o + 3 + g)) 0 = Int32.ofNat n → Int32.ofNat n ∈ v.2.2.1 (30 * o + 3 + g) := fun g e => by
    have e : (v.2.2.1 (30 * o + 3 + g))[0]?.getD (-1) = Int32.ofNat n := e
    cases hc : (v.2.2.1 (30 * o + 3 + g))[0]? with
    | none =>
      rw [hc] at e
      have := congrArg Int32.toInt e
      rw [(ofN (n := n) (by omega)).1] at this
      have : (-1 : Int) = n := this
      omega
    | some y =>
      rw [hc] at e
      have e : y = Int32.ofNat n := e
      rw [← e]
      exact List.mem_iff_getElem?.mpr ⟨0, hc⟩
  exact Classical.byContradiction (fun z => (S.1.hu o ho).2 h h' hh hh' z _ (key h e) (key h' e'))
/-- an item of a hunt, and whether it is free -/
theorem Sim.hit (S : Sim D v F) (ho : o < 3) (hh : h < 4) {k : Nat} (hk : k < (v.2.2.1 (30 * o + 3 + h)).length) : ∃ m, m < 24 ∧ F 27 (6 * (4 * o + h) + k) = Int32.ofNat m ∧ rat (v.2.2.1 (30 * o + 3 + h)) (Int32.ofNat k) = Int32.ofNat m ∧ (ffp v (o + 1) (30 * o + 3 + h) k = true ↔ (F 22 (24 * o + m) = 0 ∧ (F 28 (24 * o + m)).toInt < 0 ∧ F 47 (24 * o + m) = 0)) := by
  obtain ⟨⟨a1, a2⟩, a3, a4⟩ := S.hun ho hh
  have hy := List.getElem?_eq_getElem hk
  obtain ⟨m, m1, m2⟩ := a4 _ (List.mem_iff_getElem?.mpr ⟨k, hy⟩)
  have er : rat (v.2.2.1 (30 * o + 3 + h)) (Int32.ofNat k) = Int32.ofNat m := by rw [rat_n (by omega), hy]; exact m2
  refine ⟨m, m1, (a2 k _ hy).trans m2, er, ?_⟩
  have om := ofN (n := m) (by omega)
  unfold ffp isl
  rw [er, om.2, decide_eq_true (by omega), Bool.true_and, show o + 1 - 1 = o from rfl, S.frf (by omega)]
theorem hfr_0 (h : ∀ h, h < 4 → ¬ rat (v.2.2.1 (30 * o + 3 + h)) 0 = Int32.ofNat n) : hfr v (o + 1) (Int32.ofNat n) = Int32.ofNat n := by
  unfold hfr
  rw [show o + 1 - 1 = o from rfl]
  cases e : fnd (fun h => rat (v.2.2.1 (30 * o + 3 + h)) 0 == Int32.ofNat n) 0 4 with
  | none => rfl
  | some k =>
    obtain ⟨-, a2, a3, -⟩ := fnd_some e
    exact absurd (by simpa using a3) (h k (by omega))
theorem hfr_1 (S : Sim D v F) (ho : o < 3) (hh : h < 4) (hn : n < 24) (e : rat (v.2.2.1 (30 * o + 3 + h)) 0 = Int32.ofNat n) : hfr v (o + 1) (Int32.ofNat n) = ff v (o + 1) (30 * o + 3 + h) (Int32.ofNat n) := by
  unfold hfr
  rw [show o + 1 - 1 = o from rfl]
  cases e2 : fnd (fun h => rat (v.2.2.1 (30 * o + 3 + h)) 0 == Int32.ofNat n) 0 4 with
  | none =>
    have := fnd_none e2 h (Nat.zero_le _) (by omega)
    rw [e] at this
    simp at this
  | some k =>
    obtain ⟨-, a2, a3, -⟩ := fnd_some e2
    have a3 : rat (v.2.2.1 (30 * o + 3 + k)) 0 = Int32.ofNat n := by simpa using a3
    have := S.hho ho hh (by omega) hn e a3
    rw [this]
    rfl
theorem ff_0 (h9 : ∀ k, k < (v.2.2.1 (30 * o + 3 + h)).length → ffp v (o + 1) (30 * o + 3 + h) k = false) {y : Int32} : ff v (o + 1) (30 * o + 3 + h) y = y := by
  unfold ff
  cases e : fnd (ffp v (o + 1) (30 * o + 3 + h)) 0 (v.2.2.1 (30 * o + 3 + h)).length with
  | none => rfl
  | some k =>
    obtain ⟨-, a2, a3, -⟩ := fnd_some e
    rw [h9 k (by omega)] at a3
    cases a3
theorem ff_1 {k : Nat} (hk : k < (v.2.2.1 (30 * o + 3 + h)).length) (h1 : ffp v (o + 1) (30 * o + 3 + h) k = true) (h9 : ∀ k', k' < k → ffp v (o + 1) (30 * o + 3 + h) k' = false) {y : Int32} : ff v (o + 1) (30 * o + 3 + h) y = rat (v.2.2.1 (30 * o + 3 + h)) (Int32.ofNat k) := by
  unfold ff
  cases e : fnd (ffp v (o + 1) (30 * o + 3 + h)) 0 (v.2.2.1 (30 * o + 3 + h)).length with
  | none =>
    have := fnd_none e k (Nat.zero_le _) (by omega)
    rw [h1] at this
    cases this
  | some k' =>
    obtain ⟨-, a2, a3, a4⟩ := fnd_some e
    have : k' = k := by
      rcases Nat.lt_trichotomy k' k with z | z | z
      · rw [h9 k' z] at a3; cases a3
      · exact z
      · have := a4 k (Nat.zero_le _) z
        rw [h1] at this; cases this
    rw [this]
    rfl
theorem hist {u : Nat} (hi : (∀ h', h' < h → ¬ rat (v.2.2.1 (30 * o + 3 + h')) 0 = Int32.ofNat u) ∨ hfr v (o + 1) (Int32.ofNat u) = Int32.ofNat u) (e : ¬ rat (v.2.2.1 (30 * o + 3 + h)) 0 = Int32.ofNat u) : (∀ h', h' < h + 1 → ¬ rat (v.2.2.1 (30 * o + 3 + h')) 0 = Int32.ofNat u) ∨ hfr v (o + 1) (Int32.ofNat u) = Int32.ofNat u :=
  hi.elim (fun w => Or.inl (fun h' z => (Nat.lt_succ_iff_lt_or_eq.mp z).elim (w h') (fun y => by rw [y]; exact e))) Or.inr
end XHU
theorem r117 {D : Int} {v : vS} {F : xF} {o u : Nat} (S : Sim D v F) (ho : o < 3) (hu : u < 24) : EC MR 117 [rf 8 1, .inl (Int32.ofNat o), .inl (Int32.ofNat u)] F (fun o9 t => t = F ∧ ∃ m, m < 24 ∧ o9 = oi (Int32.ofNat m) ∧ hfr v (o + 1) (Int32.ofNat u) = Int32.ofNat m) := by
  refine EC.mk (fun n0 => ?_)
  show BC _ n0 117 0 [rf 8 1, .inl (Int32.ofNat o), .inl (Int32.ofNat u), rf 0 0, rf 0 0] [] _ _
  refine BC.blk c117_0 (fun m1 hm1 => ?_)
  refine c_iconst ?_
  refine c_iload rfl ?_
  refine c_bin (ofN_mul (4) (o)) ?_
  refine c_istore rfl ?_
  refine c_goto ?_
  have lp4 : ∀ (n : Nat) (h : Nat) (z4 : xV), h ≤ 4 → ((∀ h', h' < h → ¬ rat (v.2.2.1 (30 * o + 3 + h')) 0 = Int32.ofNat u) ∨ hfr v (o + 1) (Int32.ofNat u) = Int32.ofNat u) → BC MR n 117 4 [rf 8 1, .inl (Int32.ofNat o), .inl (Int32.ofNat u), .inl (Int32.ofNat (4 * o + h)), z4] [] F (fun o9 t => t = F ∧ ∃ m, m < 24 ∧ o9 = oi (Int32.ofNat m) ∧ hfr v (o + 1) (Int32.ofNat u) = Int32.ofNat m) := by
    intro n4
    induction n4 using Nat.strongRecOn with
    | ind n4 ih4 =>
      intro h z4 hh hi
      have oh := ofN (n := 4 * o + h) (by omega)
      have o4 := ofN (n := 4 * o + 4) (by omega)
      refine BC.blk c117_4 (fun m2 hm2 => ?_)
      refine c_iload rfl ?_
      refine c_iconst ?_
      refine c_iload rfl ?_
      refine c_bin (ofN_mul (4) (o)) ?_
      refine c_iconst ?_
      refine c_bin (ofN_add ((4 * o)) (4)) ?_
      refine c_icmp_ge (fun d1 => ?_) (fun d1 => ?_)
      · skip
        refine BC.blk c117_98 (fun m3 hm3 => ?_)
        refine c_iload rfl ?_
        exact c_iret ⟨rfl, u, hu, rfl, hi.elim (fun w => hfr_0 (fun h2 z => w h2 (by omega))) id⟩
      · skip
        refine c_aload rfl ?_
        refine c_gfr (fun _ C _ => C.ar (k := 7) (K := 26) (n := 12) (by decide)) ?_
        refine c_iload rfl ?_
        refine c_ald (fun _ C l9 i9 => C.an (k := 7) (K := 26) (n := 12) (by decide) i9 (ofN (by omega)).2) (fun p1 => ?_)
        refine c_if_le (fun d2 => ?_) (fun d2 => ?_)
        · skip
          refine BC.blk c117_92 (fun m4 hm4 => ?_)
          refine c_iincN (i := (4 * o + h)) (k := 1) rfl rfl rfl ?_
          refine c_goto ?_
          exact ih4 m4 (by omega) (h + 1) _ (by omega) (hist hi (fun e => by have := (S.hhd ho (show h < 4 by omega) e hu).1; omega))
        · skip
          refine c_aload rfl ?_
          refine c_gfr (fun _ C _ => C.ar (k := 8) (K := 27) (n := 72) (by decide)) ?_
          refine c_iconst ?_
          refine c_iload rfl ?_
          refine c_bin (ofN_mul (6) ((4 * o + h))) ?_
          refine c_ald (fun _ C l9 i9 => C.an (k := 8) (K := 27) (n := 72) (by decide) i9 (ofN (by omega)).2) (fun p2 => ?_)
          refine c_iload rfl ?_
          refine c_icmp_ne (fun d3 => ?_) (fun d3 => ?_)
          · skip
            refine BC.blk c117_92 (fun m5 hm5 => ?_)
            refine c_iincN (i := (4 * o + h)) (k := 1) rfl rfl rfl ?_
            refine c_goto ?_
            exact ih4 m5 (by omega) (h + 1) _ (by omega) (hist hi (fun e => d3 (S.hhd ho (show h < 4 by omega) e hu).2))
          · skip
            refine c_iconst ?_
            refine c_istore rfl ?_
            refine c_goto ?_
            have lp38 : ∀ (n : Nat) (k : Nat), n < n4 → k ≤ 6 → (∀ k', k' < k → ffp v (o + 1) (30 * o + 3 + h) k' = false) → BC MR n 117 38 [rf 8 1, .inl (Int32.ofNat o), .inl (Int32.ofNat u), .inl (Int32.ofNat (4 * o + h)), .inl (Int32.ofNat k)] [] F (fun o9 t => t = F ∧ ∃ m, m < 24 ∧ o9 = oi (Int32.ofNat m) ∧ hfr v (o + 1) (Int32.ofNat u) = Int32.ofNat m) := by
              intro n38
              induction n38 using Nat.strongRecOn with
              | ind n38 ih38 =>
                intro k hn38 hk hf
                have ok := ofN (n := k) (by omega)
                have hun := S.hun ho (show h < 4 by omega)
                have hle := hun.2.1
                have oL := ofN (n := (v.2.2.1 (30 * o + 3 + h)).length) (by omega)
                have hd := S.hhn ho (show h < 4 by omega) (by omega) d3
                refine BC.blk c117_38 (fun m6 hm6 => ?_)
                refine c_iload rfl ?_
                refine c_aload rfl ?_
                refine c_gfr (fun _ C _ => C.ar (k := 7) (K := 26) (n := 12) (by decide)) ?_
                refine c_iload rfl ?_
                refine c_ald (fun _ C l9 i9 => (fun z => ⟨z.1, z.2.trans hun.1.1⟩) (C.an (k := 7) (K := 26) (n := 12) (by decide) i9 (ofN (by omega)).2)) (fun p3 => ?_)
                refine c_icmp_ge (fun d4 => ?_) (fun d4 => ?_)
                · skip
                  refine BC.blk c117_92 (fun m7 hm7 => ?_)
                  refine c_iincN (i := (4 * o + h)) (k := 1) rfl rfl rfl ?_
                  refine c_goto ?_
                  exact ih4 m7 (by omega) (h + 1) _ (by omega) (Or.inr ((hfr_1 S ho (show h < 4 by omega) hu hd).trans (ff_0 (fun k2 z => hf k2 (by omega)))))
                · skip
                  obtain ⟨m, m1, m2, m3, m4⟩ := S.hit ho (show h < 4 by omega) (k := k) (by omega)
                  have om := ofN (n := 24 * o + m) (by omega)
                  refine c_aload rfl ?_
                  refine c_iconst ?_
                  refine c_iload rfl ?_
                  refine c_bin (ofN_mul (24) (o)) ?_
                  refine c_aload rfl ?_
                  refine c_gfr (fun _ C _ => C.ar (k := 8) (K := 27) (n := 72) (by decide)) ?_
                  refine c_iconst ?_
                  refine c_iload rfl ?_
                  refine c_bin (ofN_mul (6) ((4 * o + h))) ?_
                  refine c_iload rfl ?_
                  refine c_bin (ofN_add ((6 * (4 * o + h))) (k)) ?_
                  refine c_ald (fun _ C l9 i9 => (fun z => ⟨z.1, z.2.trans m2⟩) (C.an (k := 8) (K := 27) (n := 72) (by decide) i9 (ofN (by omega)).2)) (fun p4 => ?_)
                  refine c_bin (ofN_add ((24 * o)) (m)) ?_
                  refine d_callv mr_rs (e116) ?_
                  refine c_if_eq (fun d5 => ?_) (fun d5 => ?_)
                  · skip
                    refine BC.blk c117_86 (fun m8 hm8 => ?_)
                    have d5n := b2i0.mp d5
                    rw [om.2] at d5n
                    refine c_iincN (i := k) (k := 1) rfl rfl rfl ?_
                    refine c_goto ?_
                    exact ih38 m8 (by omega) (k + 1) (by omega) (by omega) (fun k2 z => (Nat.lt_succ_iff_lt_or_eq.mp z).elim (hf k2) (fun z => by rw [z]; exact Bool.eq_false_iff.mpr (fun w => d5n (m4.mp w))))
                  · skip
                    have d5n := b2i1.mp d5
                    rw [om.2] at d5n
                    refine c_aload rfl ?_
                    refine c_gfr (fun _ C _ => C.ar (k := 8) (K := 27) (n := 72) (by decide)) ?_
                    refine c_iconst ?_
                    refine c_iload rfl ?_
                    refine c_bin (ofN_mul (6) ((4 * o + h))) ?_
                    refine c_iload rfl ?_
                    refine c_bin (ofN_add ((6 * (4 * o + h))) (k)) ?_
                    refine c_ald (fun _ C l9 i9 => (fun z => ⟨z.1, z.2.trans m2⟩) (C.an (k := 8) (K := 27) (n := 72) (by decide) i9 (ofN (by omega)).2)) (fun p5 => ?_)
                    exact c_iret ⟨rfl, m, m1, rfl, (hfr_1 S ho (show h < 4 by omega) hu hd).trans ((ff_1 (by omega) (m4.mpr d5n) hf).trans m3)⟩
            exact lp38 m2 0 (by omega) (by omega) (fun k' z => absurd z (by omega))
  exact lp4 m1 0 _ (by omega) (Or.inl (fun h' z => absurd z (by omega)))
