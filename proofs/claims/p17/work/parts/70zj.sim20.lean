theorem ft_dig {g : Nat → Int32} {q k : Nat} {x : Int} (hd : ∀ i, i < q → 0 ≤ (g i).toInt ∧ (g i).toInt ≤ 9) (h : FTx g q x) (hk : k < szN x) : (g k).toInt = x / (10 : Int) ^ (szN x - 1 - k) % 10 := by
  obtain ⟨h1, h2⟩ := h
  have e := dvl_dk (g := g) (k := szN x - 1 - k) (q := szN x) (by omega) (fun i hi => hd i (by omega))
  rw [h2, show szN x - (szN x - 1 - k) = k + 1 by omega] at e
  rw [e]
  have := hd k (by omega)
  show (g k).toInt = (dvl g k * 10 + (g k).toInt) % 10
  omega
theorem ft_all {g : Nat → Int32} {q : Nat} {x : Int} (hx : pfx x) (h1 : szN x ≤ q) (h : ∀ i, i < szN x → (g i).toInt = x / (10 : Int) ^ (szN x - 1 - i) % 10) : FTx g q x := by
  refine ⟨h1, ?_⟩
  have p := p10v
  rcases hx with hx | hx | hx
  · have e : szN x = 1 := by unfold szN; rw [if_neg (by omega), if_neg (by omega)]
    rw [e] at h ⊢
    have a := h 0 (by omega)
    rw [show 1 - 1 - 0 = 0 from rfl, p.1] at a
    show (1 : Int) * 10 + (g 0).toInt = x
    omega
  · have e : szN x = 2 := by unfold szN; rw [if_neg (by omega), if_pos (by omega)]
    rw [e] at h ⊢
    have a := h 0 (by omega)
    have b := h 1 (by omega)
    rw [show 2 - 1 - 0 = 1 from rfl, p.2.1] at a
    rw [show 2 - 1 - 1 = 0 from rfl, p.1] at b
    show ((1 : Int) * 10 + (g 0).toInt) * 10 + (g 1).toInt = x
    omega
  · have e : szN x = 3 := by unfold szN; rw [if_pos (by omega)]
    rw [e] at h ⊢
    have a := h 0 (by omega)
    have b := h 1 (by omega)
    have d := h 2 (by omega)
    rw [show 3 - 1 - 0 = 2 from rfl, p.2.2.1] at a
    rw [show 3 - 1 - 1 = 1 from rfl, p.2.1] at b
    rw [show 3 - 1 - 2 = 0 from rfl, p.1] at d
    show (((1 : Int) * 10 + (g 0).toInt) * 10 + (g 1).toInt) * 10 + (g 2).toInt = x
    omega
def MBx (g : Nat → Int32) (q : Nat) (x : Int) : Prop := FTx g q x ∨ MBp g q x
theorem mb_end {g : Nat → Int32} {q : Nat} {x : Int} (h : szN x ≤ q) : MBx g q x ↔ FTx g q x := by
  refine ⟨fun z => z.elim id (fun w => ?_), Or.inl⟩
  obtain ⟨w1, w2⟩ := w
  have e : szN x = q := by omega
  refine ⟨h, ?_⟩
  rw [show szN x - q = 0 by omega, p10v.1, Int.ediv_one] at w2
  rw [e]; exact w2.symm
theorem mb_st {g : Nat → Int32} {q : Nat} {x : Int} (hx : pfx x) (hq : 1 ≤ q) (h : q < szN x) : MBx g q x ↔ MBx g q (x / 10) := by
  obtain ⟨-, s2⟩ := pfx_d hx (by omega)
  have e : x / 10 / (10 : Int) ^ (szN x - 1 - q) = x / 10 ^ (szN x - q) := by
    rw [Int.ediv_ediv, if_neg (fun z => absurd z.1 (by decide)), Int.sub_zero, show szN x - q = (szN x - 1 - q) + 1 by omega, Int.pow_succ, Int.mul_comm]
  constructor
  · rintro (⟨z, -⟩ | ⟨z1, z2⟩)
    · omega
    · refine Or.inr ⟨by omega, ?_⟩
      rw [s2, e]; exact z2
  · rintro (⟨z1, z2⟩ | ⟨z1, z2⟩)
    · refine Or.inr ⟨by omega, ?_⟩
      rw [s2] at z1 z2
      rw [← e, show szN x - 1 - q = 0 by omega, p10v.1, Int.ediv_one, ← z2]
      congr 1
      omega
    · refine Or.inr ⟨by omega, ?_⟩
      rw [s2, e] at z2; exact z2
def TB (b : Int32) (P : Prop) : Prop := (b = 1 ∧ P) ∨ (b = 0 ∧ ¬ P)
theorem TB.t {b : Int32} {P : Prop} (h : TB b P) (hb : ¬ b = 0) : P := h.elim (fun z => z.2) (fun z => absurd z.1 hb)
theorem TB.f {b : Int32} {P : Prop} (h : TB b P) (hb : b = 0) : ¬ P := h.elim (fun z => absurd (z.1.symm.trans hb) (by decide)) (fun z => z.2)
theorem TB.iff {b : Int32} {P Q : Prop} (h : TB b P) (e : P ↔ Q) : TB b Q := h.elim (fun z => Or.inl ⟨z.1, e.mp z.2⟩) (fun z => Or.inr ⟨z.1, fun w => z.2 (e.mpr w)⟩)
/-- the digits that a call has -/
def DG (F : xF) (c q : Nat) : Prop := q ≤ 5 ∧ F 48 c = Int32.ofNat q ∧ ∀ i, i < q → 0 ≤ (F 49 (8 * c + i)).toInt ∧ (F 49 (8 * c + i)).toInt ≤ 9
abbrev dgs (F : xF) (c : Nat) : Nat → Int32 := fun i => F 49 (8 * c + i)
/-- the routes of an office -/
def RN (F : xF) (o N : Nat) : Prop := N ≤ 12 ∧ F 29 o = Int32.ofNat N ∧ ∀ k, k < N → pfx (F 30 (12 * o + k)).toInt
def PF (F : xF) (c q o N : Nat) (r : Int32) : Prop := (r = -1 ∧ ∀ k, k < N → ¬ FTx (dgs F c) q (F 30 (12 * o + k)).toInt) ∨ ∃ k, k < N ∧ r = Int32.ofNat (12 * o + k) ∧ FTx (dgs F c) q (F 30 (12 * o + k)).toInt
theorem ofN_p {q : Nat} (h : 1 ≤ q) (h2 : q ≤ 100000) : (Int32.ofNat q - 1).toInt = (q : Int) - 1 := by
  have e := ofN_sub (a := q) (b := 1) h2 h
  have e2 := (ofN (n := q - 1) (by omega)).1
  rw [show Int32.ofNat q - 1 = Int32.ofNat (q - 1) from e, e2]
  omega
theorem e112 {F : xF} {c q : Nat} {x : Int32} (hc : c < 72) (hx : pfx x.toInt) (D : DG F c q) : EP MR 112 [rf 8 1, .inl (Int32.ofNat c), .inl x] F (fun b => TB b (FTx (dgs F c) q x.toInt)) := by
  have sb := szN_b x.toInt
  have os := ofN (n := szN x.toInt) (by omega)
  have oq := ofN (n := q) (by have := D.1; omega)
  have hx10 : 10 ≤ x.toInt := by unfold pfx at hx; omega
  refine EC.mk (fun n0 => ?_)
  show BC _ n0 112 0 [rf 8 1, .inl (Int32.ofNat c), .inl x, rf 0 0, rf 0 0, rf 0 0, rf 0 0] [] _ _
  refine BC.blk c112_0 (fun m1 hm1 => ?_)
  refine c_iload rfl ?_
  refine d_call mr_rs (show ED MR 95 [.inl x] _ (oi (Int32.ofNat (szN x.toInt))) _ from by rw [← szI]; exact e95) ?_
  refine c_istore rfl ?_
  refine c_iload rfl ?_
  refine c_istore rfl ?_
  have jn23 : ∀ (n : Nat) (b : Int32), n < n0 → ((b = 1 ∧ szN x.toInt ≤ q ∧ ∀ i, szN x.toInt ≤ i → i < szN x.toInt → (F 49 (8 * c + i)).toInt = x.toInt / (10 : Int) ^ (szN x.toInt - 1 - i) % 10) ∨ (b = 0 ∧ ¬ FTx (dgs F c) q x.toInt)) → BC MR n 112 23 [rf 8 1, .inl (Int32.ofNat c), .inl x, .inl (Int32.ofNat (szN x.toInt)), .inl x, rf 0 0, rf 0 0] [.inl b] F (fun o9 t => t = F ∧ ∃ x9, o9 = oi x9 ∧ TB x9 (FTx (dgs F c) q x.toInt)) := by
    intro n23 b hn23 fb0
    refine BC.blk c112_23 (fun m2 hm2 => ?_)
    refine c_istore rfl ?_
    refine c_iload rfl ?_
    refine c_iconst ?_
    refine c_bin rfl ?_
    refine c_istore rfl ?_
    refine c_goto ?_
    have lp30 : ∀ (n : Nat) (m : Nat) (b y i : Int32), m ≤ szN x.toInt → i.toInt = (m : Int) - 1 → y.toInt = x.toInt / (10 : Int) ^ (szN x.toInt - m) → ((b = 1 ∧ szN x.toInt ≤ q ∧ ∀ i, m ≤ i → i < szN x.toInt → (F 49 (8 * c + i)).toInt = x.toInt / (10 : Int) ^ (szN x.toInt - 1 - i) % 10) ∨ (b = 0 ∧ ¬ FTx (dgs F c) q x.toInt)) → BC MR n 112 30 [rf 8 1, .inl (Int32.ofNat c), .inl x, .inl (Int32.ofNat (szN x.toInt)), .inl y, .inl b, .inl i] [] F (fun o9 t => t = F ∧ ∃ x9, o9 = oi x9 ∧ TB x9 (FTx (dgs F c) q x.toInt)) := by
      intro n30
      induction n30 using Nat.strongRecOn with
      | ind n30 ih30 =>
        intro m b y i h1 h2 h3 fb
        have h0 : 0 ≤ y.toInt := by rw [h3]; exact Int.ediv_nonneg (by omega) (Int.le_of_lt (pw10 _))
        refine BC.blk c112_30 (fun m3 hm3 => ?_)
        refine c_iload rfl ?_
        refine c_if_lt (fun d1 => ?_) (fun d1 => ?_)
        · skip
          refine BC.blk c112_80 (fun m4 hm4 => ?_)
          refine c_iload rfl ?_
          have m0 : m = 0 := by omega
          subst m0
          exact c_zret ⟨rfl, b, rfl, fb.elim (fun z => Or.inl ⟨z.1, ft_all hx z.2.1 (fun i hi => z.2.2 i (by omega) hi)⟩) (fun z => Or.inr z)⟩
        · skip
          obtain ⟨k, rfl⟩ : ∃ k, m = k + 1 := ⟨m - 1, by omega⟩
          obtain rfl : i = Int32.ofNat k := i32_eq.mpr (by rw [(ofN (n := k) (by omega)).1]; omega)
          refine c_iload rfl ?_
          refine c_if_eq (fun d2 => ?_) (fun d2 => ?_)
          · skip
            refine BC.blk c112_64 (fun m5 hm5 => ?_)
            refine c_iconst ?_
            refine c_goto ?_
            refine BC.blk c112_65 (fun m6 hm6 => ?_)
            refine c_istore rfl ?_
            refine c_iload rfl ?_
            refine c_iconst ?_
            refine c_idiv rfl ?_
            refine c_istore rfl ?_
            refine c_iinc rfl rfl ?_
            refine c_goto ?_
            have h7 : m6 < n30 := by omega
            have h5 : k ≤ 100000 := by omega
            have h4 : k ≤ szN x.toInt := by omega
            have ey : (y / 10).toInt = x.toInt / (10 : Int) ^ (szN x.toInt - k) := by
              rw [i32_div (by omega) (by decide), show szN x.toInt - k = szN x.toInt - (k + 1) + 1 by omega, Int.pow_succ, show (10 : Int32).toInt = 10 from rfl, h3, Int.ediv_ediv, if_neg (fun z => absurd z.1 (Int.not_lt.mpr (Int.le_of_lt (pw10 _)))), Int.sub_zero]
            refine ih30 m6 h7 k _ _ _ h4 (ofN_dec h5) ey ?_
            exact Or.inr ⟨rfl, fb.elim (fun z => absurd (z.1.symm.trans d2) (by decide)) (fun z => z.2)⟩
          · skip
            refine c_aload rfl ?_
            refine c_gfr (fun _ C _ => C.ar (k := 31) (K := 49) (n := 576) (by decide)) ?_
            refine c_iconst ?_
            refine c_iload rfl ?_
            refine c_bin (ofN_mul (8) (c)) ?_
            refine c_iload rfl ?_
            refine c_bin (ofN_add ((8 * c)) (k)) ?_
            refine c_ald (fun _ C l9 i9 => C.an (k := 31) (K := 49) (n := 576) (by decide) i9 (ofN (by omega)).2) (fun p1 => ?_)
            refine c_iload rfl ?_
            refine c_iconst ?_
            refine c_irem rfl ?_
            refine c_icmp_ne (fun d3 => ?_) (fun d3 => ?_)
            · skip
              refine BC.blk c112_64 (fun m7 hm7 => ?_)
              refine c_iconst ?_
              refine c_goto ?_
              refine BC.blk c112_65 (fun m8 hm8 => ?_)
              refine c_istore rfl ?_
              refine c_iload rfl ?_
              refine c_iconst ?_
              refine c_idiv rfl ?_
              refine c_istore rfl ?_
              refine c_iinc rfl rfl ?_
              refine c_goto ?_
              have h7 : m8 < n30 := by omega
              have h5 : k ≤ 100000 := by omega
              have h4 : k ≤ szN x.toInt := by omega
              have ey : (y / 10).toInt = x.toInt / (10 : Int) ^ (szN x.toInt - k) := by
                rw [i32_div (by omega) (by decide), show szN x.toInt - k = szN x.toInt - (k + 1) + 1 by omega, Int.pow_succ, show (10 : Int32).toInt = 10 from rfl, h3, Int.ediv_ediv, if_neg (fun z => absurd z.1 (Int.not_lt.mpr (Int.le_of_lt (pw10 _)))), Int.sub_zero]
              refine ih30 m8 h7 k _ _ _ h4 (ofN_dec h5) ey ?_
              refine Or.inr ⟨rfl, fun z => d3 ?_⟩
              have w := ft_dig (fun i hi => D.2.2 i hi) z (k := k) (by omega)
              refine i32_eq.mpr ?_
              rw [i32_rem h0 (by decide), h3, show szN x.toInt - (k + 1) = szN x.toInt - 1 - k by omega]
              exact w
            · skip
              refine c_iconst ?_
              refine c_goto ?_
              refine BC.blk c112_65 (fun m9 hm9 => ?_)
              refine c_istore rfl ?_
              refine c_iload rfl ?_
              refine c_iconst ?_
              refine c_idiv rfl ?_
              refine c_istore rfl ?_
              refine c_iinc rfl rfl ?_
              refine c_goto ?_
              have h7 : m9 < n30 := by omega
              have h5 : k ≤ 100000 := by omega
              have h4 : k ≤ szN x.toInt := by omega
              have ey : (y / 10).toInt = x.toInt / (10 : Int) ^ (szN x.toInt - k) := by
                rw [i32_div (by omega) (by decide), show szN x.toInt - k = szN x.toInt - (k + 1) + 1 by omega, Int.pow_succ, show (10 : Int32).toInt = 10 from rfl, h3, Int.ediv_ediv, if_neg (fun z => absurd z.1 (Int.not_lt.mpr (Int.le_of_lt (pw10 _)))), Int.sub_zero]
              refine ih30 m9 h7 k _ _ _ h4 (ofN_dec h5) ey ?_
              have fb1 := fb.elim (fun z => z.2) (fun z => absurd z.1 d2)
              refine Or.inl ⟨rfl, fb1.1, fun i h8 h9 => ?_⟩
              by_cases e : i = k
              · rw [e, d3, i32_rem h0 (by decide), h3, show szN x.toInt - (k + 1) = szN x.toInt - 1 - k by omega]
                rfl
              · exact fb1.2 i (by omega) h9
    exact lp30 m2 (szN x.toInt) b x _ (Nat.le_refl _) (ofN_p sb.1 (by omega)) (by rw [Nat.sub_self]; simp) fb0
  refine c_aload rfl ?_
  refine c_gfr (fun _ C _ => C.ar (k := 30) (K := 48) (n := 72) (by decide)) ?_
  refine c_iload rfl ?_
  refine c_ald (fun _ C l9 i9 => (fun z => ⟨z.1, z.2.trans D.2.1⟩) (C.an (k := 30) (K := 48) (n := 72) (by decide) i9 (ofN (by omega)).2)) (fun p2 => ?_)
  refine c_iload rfl ?_
  refine c_icmp_lt (fun d4 => ?_) (fun d4 => ?_)
  · skip
    refine BC.blk c112_22 (fun m10 hm10 => ?_)
    refine c_iconst ?_
    refine c_goto ?_
    exact jn23 m10 _ (by omega) (Or.inr ⟨rfl, fun z => absurd z.1 (by omega)⟩)
  · skip
    refine c_iconst ?_
    refine c_goto ?_
    exact jn23 m1 _ (by omega) (Or.inl ⟨rfl, by omega, fun i h1 h2 => absurd h1 (by omega)⟩)
theorem e113 {F : xF} {c q : Nat} {x : Int32} (hc : c < 72) (hx : pfx x.toInt) (D : DG F c q) (hq : 1 ≤ q) : EP MR 113 [rf 8 1, .inl (Int32.ofNat c), .inl x] F (fun b => TB b (MBx (dgs F c) q x.toInt)) := by
  have oq := ofN (n := q) (by have := D.1; omega)
  refine EC.mk (fun n0 => ?_)
  show BC _ n0 113 0 [rf 8 1, .inl (Int32.ofNat c), .inl x, rf 0 0] [] _ _
  refine BC.blk c113_0 (fun m1 hm1 => ?_)
  refine c_iload rfl ?_
  refine c_istore rfl ?_
  refine c_goto ?_
  have lp2 : ∀ (n : Nat) (y : Int32), pfx y.toInt → (MBx (dgs F c) q y.toInt ↔ MBx (dgs F c) q x.toInt) → BC MR n 113 2 [rf 8 1, .inl (Int32.ofNat c), .inl x, .inl y] [] F (fun o9 t => t = F ∧ ∃ x9, o9 = oi x9 ∧ TB x9 (MBx (dgs F c) q x.toInt)) := by
    intro n2
    induction n2 using Nat.strongRecOn with
    | ind n2 ih2 =>
      intro y hy ih_
      have sb := szN_b y.toInt
      have os := ofN (n := szN y.toInt) (by omega)
      have hy10 : 10 ≤ y.toInt := by unfold pfx at hy; omega
      refine BC.blk c113_2 (fun m2 hm2 => ?_)
      refine c_iload rfl ?_
      refine d_call mr_rs (show ED MR 95 [.inl y] _ (oi (Int32.ofNat (szN y.toInt))) _ from by rw [← szI]; exact e95) ?_
      refine c_aload rfl ?_
      refine c_gfr (fun _ C _ => C.ar (k := 30) (K := 48) (n := 72) (by decide)) ?_
      refine c_iload rfl ?_
      refine c_ald (fun _ C l9 i9 => (fun z => ⟨z.1, z.2.trans D.2.1⟩) (C.an (k := 30) (K := 48) (n := 72) (by decide) i9 (ofN (by omega)).2)) (fun p1 => ?_)
      refine c_icmp_le (fun d1 => ?_) (fun d1 => ?_)
      · skip
        refine BC.blk c113_23 (fun m3 hm3 => ?_)
        refine c_aload rfl ?_
        refine c_iload rfl ?_
        refine c_iload rfl ?_
        refine p_callv mr_rs (e112 hc hy D) (fun b hb => ?_)
        exact c_zret ⟨rfl, b, rfl, hb.iff ((mb_end (by omega)).symm.trans ih_)⟩
      · skip
        refine c_iload rfl ?_
        refine c_iconst ?_
        refine c_idiv rfl ?_
        refine c_istore rfl ?_
        refine c_goto ?_
        have e : (y / 10).toInt = y.toInt / 10 := i32_div (by omega) (by decide)
        have pd := pfx_d hy (by omega)
        refine ih2 m2 (by omega) (y / 10) (by rw [e]; exact pd.1) ?_
        rw [e, ← mb_st hy hq (by omega)]
        exact ih_
  exact lp2 m1 x hx Iff.rfl
theorem e114 {F : xF} {c q o N : Nat} (hc : c < 72) (ho : o < 3) (D : DG F c q) (hR : RN F o N) : EP MR 114 [rf 8 1, .inl (Int32.ofNat c), .inl (Int32.ofNat o)] F (PF F c q o N) := by
  have hN := hR.1
  have oN := ofN (n := 12 * o + N) (by omega)
  refine EC.mk (fun n0 => ?_)
  show BC _ n0 114 0 [rf 8 1, .inl (Int32.ofNat c), .inl (Int32.ofNat o), rf 0 0, rf 0 0] [] _ _
  refine BC.blk c114_0 (fun m1 hm1 => ?_)
  refine c_iconst ?_
  refine c_istore rfl ?_
  refine c_iconst ?_
  refine c_iload rfl ?_
  refine c_bin (ofN_mul (12) (o)) ?_
  refine c_istore rfl ?_
  refine c_goto ?_
  have lp8 : ∀ (n : Nat) (m : Nat) (r : Int32), m ≤ N → ((r = -1 ∧ ∀ k, k < m → ¬ FTx (dgs F c) q (F 30 (12 * o + k)).toInt) ∨ ∃ k, k < m ∧ r = Int32.ofNat (12 * o + k) ∧ FTx (dgs F c) q (F 30 (12 * o + k)).toInt) → BC MR n 114 8 [rf 8 1, .inl (Int32.ofNat c), .inl (Int32.ofNat o), .inl r, .inl (Int32.ofNat (12 * o + m))] [] F (fun o9 t => t = F ∧ ∃ x9, o9 = oi x9 ∧ PF F c q o N x9) := by
    intro n8
    induction n8 using Nat.strongRecOn with
    | ind n8 ih8 =>
      intro m r hm pf
      have om := ofN (n := 12 * o + m) (by omega)
      refine BC.blk c114_8 (fun m2 hm2 => ?_)
      refine c_iload rfl ?_
      refine c_iconst ?_
      refine c_iload rfl ?_
      refine c_bin (ofN_mul (12) (o)) ?_
      refine c_aload rfl ?_
      refine c_gfr (fun _ C _ => C.ar (k := 10) (K := 29) (n := 3) (by decide)) ?_
      refine c_iload rfl ?_
      refine c_ald (fun _ C l9 i9 => (fun z => ⟨z.1, z.2.trans hR.2.1⟩) (C.an (k := 10) (K := 29) (n := 3) (by decide) i9 (ofN (by omega)).2)) (fun p1 => ?_)
      refine c_bin (ofN_add ((12 * o)) (N)) ?_
      refine c_icmp_ge (fun d1 => ?_) (fun d1 => ?_)
      · skip
        refine BC.blk c114_52 (fun m3 hm3 => ?_)
        refine c_iload rfl ?_
        have mN : m = N := by omega
        subst mN
        exact c_iret ⟨rfl, r, rfl, pf⟩
      · skip
        refine c_aload rfl ?_
        refine c_iload rfl ?_
        refine c_aload rfl ?_
        refine c_gfr (fun _ C _ => C.ar (k := 11) (K := 30) (n := 36) (by decide)) ?_
        refine c_iload rfl ?_
        refine c_ald (fun _ C l9 i9 => C.an (k := 11) (K := 30) (n := 36) (by decide) i9 (ofN (by omega)).2) (fun p2 => ?_)
        refine p_callv mr_rs (e112 hc (hR.2.2 m (by omega)) D) (fun b hb => ?_)
        refine c_if_eq (fun d2 => ?_) (fun d2 => ?_)
        · skip
          refine BC.blk c114_44 (fun m4 hm4 => ?_)
          refine c_iload rfl ?_
          refine c_goto ?_
          refine BC.blk c114_45 (fun m5 hm5 => ?_)
          refine c_istore rfl ?_
          refine c_iincN (i := (12 * o + m)) (k := 1) rfl rfl rfl ?_
          refine c_goto ?_
          refine ih8 m5 (by omega) (m + 1) r (by omega) ?_
          rcases pf with ⟨e, h⟩ | ⟨k, h1, h2, h3⟩
          · refine Or.inl ⟨e, fun k hk => ?_⟩
            by_cases z : k = m
            · rw [z]; exact hb.f d2
            · exact h k (by omega)
          · exact Or.inr ⟨k, by omega, h2, h3⟩
        · skip
          refine c_iload rfl ?_
          refine c_goto ?_
          refine BC.blk c114_45 (fun m6 hm6 => ?_)
          refine c_istore rfl ?_
          refine c_iincN (i := (12 * o + m)) (k := 1) rfl rfl rfl ?_
          refine c_goto ?_
          exact ih8 m6 (by omega) (m + 1) _ (by omega) (Or.inr ⟨m, by omega, rfl, hb.t d2⟩)
  exact lp8 m1 0 (-1) (by omega) (Or.inl ⟨rfl, fun k h => absurd h (by omega)⟩)
