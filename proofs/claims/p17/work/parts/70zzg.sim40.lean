/-! ROUTE, on both sides: prefixes -/
theorem ovl_l {a b : Int} (ha : pfx a) (hb : pfx b) (h : szN b < szN a) : ovl (a / 10) b ↔ ovl a b := by
  unfold pfx at ha hb
  unfold szN at h
  unfold ovl
  split at h <;> split at h <;> (try split at h) <;> (try split at h) <;> first | omega | (constructor <;> intro z <;> omega)
theorem ovl_r {a b : Int} (ha : pfx a) (hb : pfx b) (h : szN a < szN b) : ovl a (b / 10) ↔ ovl a b := by
  unfold pfx at ha hb
  unfold szN at h
  unfold ovl
  split at h <;> split at h <;> (try split at h) <;> (try split at h) <;> first | omega | (constructor <;> intro z <;> omega)
theorem ovl_e {a b : Int} (ha : pfx a) (hb : pfx b) (h : szN a = szN b) : ovl a b ↔ a = b := by
  unfold pfx at ha hb
  unfold szN at h
  unfold ovl
  split at h <;> split at h <;> (try split at h) <;> (try split at h) <;> first | omega | (constructor <;> intro z <;> omega)
theorem ovl_c {a b : Int} (h : ovl a b) : ovl b a := by
  unfold ovl at h ⊢
  omega
theorem bw_pp {x y : Int} (hx : pfx x) (hy : pfx y) : BW x y ↔ (x = y ∨ x / 10 = y ∨ x / 100 = y) := by
  have h1 : 10 ≤ x ∧ x ≤ 1999 := by unfold pfx at hx; omega
  have h2 : 10 ≤ y ∧ y ≤ 1999 := by unfold pfx at hy; omega
  constructor
  · rintro ⟨-, k, e⟩
    have hk : k < 3 := by
      refine Classical.byContradiction fun hn => ?_
      have a1 := pow_mono (a := 3) (b := k) (by omega)
      have a2 : (10 : Int) ^ 3 = 1000 := by decide
      have a3 := Int.ediv_mul_le x (b := (10 : Int) ^ k) (by omega)
      rw [e] at a3
      have a4 : (10 : Int) * 10 ^ k ≤ y * 10 ^ k := Int.mul_le_mul_of_nonneg_right h2.1 (by omega)
      omega
    rcases (show k = 0 ∨ k = 1 ∨ k = 2 by omega) with rfl | rfl | rfl
    · exact Or.inl (by rw [← e]; simp)
    · exact Or.inr (Or.inl (by rw [← e]; rfl))
    · exact Or.inr (Or.inr (by rw [← e]; rfl))
  · rintro (e | e | e)
    · exact ⟨by omega, 0, by rw [← e]; simp⟩
    · exact ⟨by omega, 1, by rw [← e]; rfl⟩
    · exact ⟨by omega, 2, by rw [← e]; rfl⟩
theorem bw_ov {x y : Int} (hx : pfx x) (hy : pfx y) : ovl x y ↔ (BW x y ∨ BW y x) := by
  rw [bw_pp hx hy, bw_pp hy hx]
  unfold ovl
  constructor <;> intro z <;> omega
section XRW
variable {D : Int} {v v' : vS} {F F' : xF} {o N : Nat} {p : Int32}
/-- the class's room for a new prefix -/
theorem hrf_e (hN : N ≤ 12) (h37 : v.1 3 7 (o + 1) = Int32.ofNat N) (hT : ∀ k, k < N → RTE v F (v.2.1 18 (o + 1) k) (12 * o + k)) (hp : pfx p.toInt) : hrf v (o + 1) p = true ↔ N < 12 ∧ ∀ k, k < N → ¬ ovl (F 30 (12 * o + k)).toInt p.toInt := by
  have oN := ofN (n := N) (by omega)
  have hR : rcn v (o + 1) = N := by
    show (v.1 3 7 (o + 1)).toInt.toNat = N
    rw [h37, oN.1]
    rfl
  have key : ∀ k, k < N → ((v.1 4 0 (v.2.1 18 (o + 1) k)).toInt = (F 30 (12 * o + k)).toInt ∧ pfx (F 30 (12 * o + k)).toInt ∧ v.2.1 18 (o + 1) k ≠ 0) := fun k hk => by
    obtain ⟨a1, a2, a3, -⟩ := hT k hk
    exact ⟨by rw [a2], a3, by omega⟩
  unfold hrf
  rw [Bool.and_eq_true, Bool.and_eq_true, decide_eq_true_eq, beq_iff_eq, Bool.not_eq_true', h37, oN.1]
  constructor
  · rintro ⟨⟨a1, a2⟩, a3⟩
    refine ⟨by omega, fun k hk z => ?_⟩
    obtain ⟨b1, b2, b3⟩ := key k hk
    rcases (bw_ov b2 hp).mp z with y | y
    · have e : cbp v (o + 1) p = none := by cases e : cbp v (o + 1) p with
        | none => rfl
        | some q => rw [e] at a3; cases a3
      unfold cbp at e
      rw [hR] at e
      have := fnd_none e k (Nat.zero_le _) (by omega)
      rw [bwB_f, b1] at this
      exact this y
    · cases e : rof v (o + 1) p with
      | none =>
        unfold rof at e
        rw [hR] at e
        have := fnd_none e k (Nat.zero_le _) (by omega)
        rw [bwB_f, b1] at this
        exact this y
      | some q =>
        rw [e] at a2
        unfold rof at e
        rw [hR] at e
        obtain ⟨-, c2, -⟩ := fnd_some e
        exact (key q (by omega)).2.2 a2
  · rintro ⟨a1, a2⟩
    refine ⟨⟨by omega, ?_⟩, ?_⟩
    · have e : rof v (o + 1) p = none := by
        unfold rof
        rw [hR]
        refine fnd_isn (fun k _ hk => ?_)
        obtain ⟨b1, b2, b3⟩ := key k (by omega)
        rw [bwB_f, b1]
        exact fun z => a2 k (by omega) ((bw_ov b2 hp).mpr (Or.inr z))
      rw [e]
      rfl
    · have e : cbp v (o + 1) p = none := by
        unfold cbp
        rw [hR]
        refine fnd_isn (fun k _ hk => ?_)
        obtain ⟨b1, b2, b3⟩ := key k (by omega)
        rw [bwB_f, b1]
        exact fun z => a2 k (by omega) ((bw_ov b2 hp).mpr (Or.inl z))
      rw [e]
      rfl
theorem rtm_n (hN : N ≤ 12) (h37 : v.1 3 7 (o + 1) = Int32.ofNat N) (hT : ∀ k, k < N → RTE v F (v.2.1 18 (o + 1) k) (12 * o + k)) (hn : ∀ k, k < N → ¬ F 30 (12 * o + k) = p) : fro v (o + 1) (rnm v (o + 1) p) = 0 := by
  have hR : rcn v (o + 1) = N := by
    show (v.1 3 7 (o + 1)).toInt.toNat = N
    rw [h37, (ofN (n := N) (by omega)).1]
    rfl
  have e : rnm v (o + 1) p = none := by
    unfold rnm
    rw [hR]
    refine fnd_isn (fun k _ hk => ?_)
    rw [beq_eq_false_iff_ne, (hT k (by omega)).2.1]
    exact hn k (by omega)
  rw [e]
  rfl
theorem rtm_f {k0 : Nat} (hN : N ≤ 12) (h37 : v.1 3 7 (o + 1) = Int32.ofNat N) (hT : ∀ k, k < N → RTE v F (v.2.1 18 (o + 1) k) (12 * o + k)) (hO : ∀ k k', k < N → k' < N → k ≠ k' → ¬ ovl (F 30 (12 * o + k)).toInt (F 30 (12 * o + k')).toInt) (hk : k0 < N) (h0 : F 30 (12 * o + k0) = p) : fro v (o + 1) (rnm v (o + 1) p) = v.2.1 18 (o + 1) k0 := by
  have hR : rcn v (o + 1) = N := by
    show (v.1 3 7 (o + 1)).toInt.toNat = N
    rw [h37, (ofN (n := N) (by omega)).1]
    rfl
  cases e : rnm v (o + 1) p with
  | none =>
    unfold rnm at e
    rw [hR] at e
    have := fnd_none e k0 (Nat.zero_le _) (by omega)
    rw [beq_eq_false_iff_ne, (hT k0 hk).2.1] at this
    exact absurd h0 this
  | some q =>
    unfold rnm at e
    rw [hR] at e
    obtain ⟨-, c2, c3, -⟩ := fnd_some e
    rw [beq_iff_eq, (hT q (by omega)).2.1] at c3
    have : q = k0 := Classical.byContradiction (fun z => hO q k0 (by omega) hk z (Or.inl (by rw [c3, h0])))
    rw [this]
    rfl
theorem Sim.rt9 (S : Sim D v F) (i0 : ∀ K k, K ≠ 4 → (K = 3 → k ≠ 7) → ∀ j, v'.1 K k j = v.1 K k j) (r0 : ∀ K, K ≠ 4 → K ≠ 5 → K ≠ 18 → ∀ k j, v'.2.1 K k j = v.2.1 K k j) (r18 : ∀ o k : Nat, o < 3 → (k : Int) < (F 29 o).toInt → v'.2.1 18 (o + 1) k = v.2.1 18 (o + 1) k) (c6 : v'.2.2.2 6 = v.2.2.2 6) (w0 : ∀ r, r ≤ 90 → v'.2.2.1 r = v.2.2.1 r) (n : ∀ K, (K < 29 ∨ 35 < K) → ∀ i, F' K i = F K i) (n29 : ∀ o, o < 3 → (F 29 o).toInt ≤ (F' 29 o).toInt) (rt : sRT v' F') : Sim D v' F' := by
  obtain ⟨⟨⟨q1, q2, q3, q4⟩, s2, s3, s4, s5, s6, s7, s8, s9⟩, hcb, hhg⟩ := S
  have wi : ∀ c, c < 72 → v'.2.2.1 (ri c) = v.2.2.1 (ri c) := fun c hc => w0 _ (by unfold ri; omega)
  refine ⟨⟨⟨by rw [c6]; exact q1, by rw [c6, i0 7 4 (by decide) (by decide)]; exact q2, by rw [c6, n 8 (by decide)]; exact q3, fun t ht => ?_⟩, fun K i h => ?_, fun c hc => ?_, fun o ho => ?_, ⟨fun o ho => ?_, fun l hl => ?_⟩, fun o ho => ?_, rt, fun o ho => ?_, fun c hc ne => (s9 c hc ne).cg (fun k => i0 1 k (by decide) (fun z => by omega) _) (fun k => i0 2 k (by decide) (fun z => by omega) _) (fun k => r0 1 (by decide) (by decide) (by decide) k _) (r0 2 (by decide) (by decide) (by decide) _ _) (wi c hc) (fun K h => n K (by simp only [lkd, Bool.or_eq_true, Bool.and_eq_true, Nat.ble_eq, beq_iff_eq] at h; omega) _) (fun i _ => n 49 (by decide) _) (fun k hk => r18 _ k (by omega) hk) (n29 _ (by omega))⟩, fun c l hc hl => ?_, fun c hc h5 h22 => ?_⟩
  · rw [c6] at ht
    rw [r0 13 (by decide) (by decide) (by decide), i0 6 0 (by decide) (by decide), i0 6 1 (by decide) (by decide), i0 6 2 (by decide) (by decide), n 39 (by decide), n 40 (by decide), n 42 (by decide)]
    exact q4 t ht
  · rw [c6] at h ⊢
    have hK : K = 36 ∨ K = 37 ∨ K = 38 ∨ K = 41 ∨ K = 42 := by unfold slq slo at h; omega
    have e : cs v' K i = cs v K i := by
      unfold cs
      rw [r0 17 (by decide) (by decide) (by decide), r0 17 (by decide) (by decide) (by decide), r0 17 (by decide) (by decide) (by decide), r0 6 (by decide) (by decide) (by decide)]
    rw [e, n K (by omega)]
    refine ⟨fun z => ⟨((s2 K i h).1 z).1, fun c hc y => ?_⟩, (s2 K i h).2⟩
    rw [wi c hc]
    exact ((s2 K i h).1 z).2 c hc y
  · obtain ⟨⟨a1, a2⟩, a3, a4⟩ := s3 c hc
    unfold HLD LV
    rw [wi c hc, n 63 (by decide)]
    refine ⟨⟨a1, fun k y hy => (n 64 (by decide) _).trans (a2 k y hy)⟩, a3, fun y hy => ?_⟩
    obtain ⟨K', j, b1, b2, b3⟩ := a4 y hy
    exact ⟨K', j, by rw [c6]; exact b1, b2, (n K' (by unfold slo at b1; omega) _).trans b3⟩
  · obtain ⟨⟨a1, a2⟩, a3, a4, a5⟩ := s4 o ho
    unfold LV
    rw [w0 _ (by omega), n 45 (by decide)]
    refine ⟨⟨a1, fun k y hy => (n 46 (by decide) _).trans (a2 k y hy)⟩, a3, a4, fun y hy => ?_⟩
    obtain ⟨c', b1, b2, b3, b4, b5, b6⟩ := a5 y hy
    exact ⟨c', b1, b2, b3, (n 47 (by decide) _).trans b4, (n 50 (by decide) _).trans b5, by rw [n 59 (by decide)]; exact b6⟩
  · simp only [n 24 (by decide), w0 (30 * o + 1) (by omega)]
    exact s5.1 o ho
  · rw [n 24 (by decide), n 8 (by decide)]
    exact s5.2 l hl
  · refine ⟨fun h hh => ?_, fun h h' hh hh' => ?_⟩
    · rw [w0 _ (by omega)]
      obtain ⟨⟨a1, a2⟩, a3⟩ := (s6 o ho).1 h hh
      exact ⟨⟨(n 26 (by decide) _).trans a1, fun k y hy => (n 27 (by decide) _).trans (a2 k y hy)⟩, a3⟩
    · rw [w0 _ (by omega), w0 _ (by omega)]
      exact (s6 o ho).2 h h' hh hh'
  · rw [n 43 (by decide), i0 3 8 (by decide) (by decide)]
    refine ⟨(s8 o ho).1, fun x' hx => ?_⟩
    rw [n 44 (by decide), i0 15 _ (by decide) (fun z => by omega)]
    exact (s8 o ho).2 x' hx
  · rw [n 57 (by decide), n 28 (by decide)]
    exact hcb c l hc hl
  · rw [n 47 (by decide)] at h5
    rw [n 57 (by decide), n 22 (by decide)] at h22
    rw [i0 1 14 (by decide) (by decide), n 62 (by decide)]
    exact hhg c hc h5 h22
end XRW
theorem e96 {F : xF} {x y : Int32} (hx : pfx x.toInt) (hy : pfx y.toInt) : EP MR 96 [.inl x, .inl y] F (fun b => TB b (ovl x.toInt y.toInt)) := by
  have sby := szN_b y.toInt
  have osy := ofN (n := szN y.toInt) (by omega)
  have h10y : 10 ≤ y.toInt := by have h9 := hy; unfold pfx at h9; omega
  refine EC.mk (fun n0 => ?_)
  show BC _ n0 96 0 [.inl x, .inl y, rf 0 0, rf 0 0] [] _ _
  refine BC.blk c96_0 (fun m1 hm1 => ?_)
  refine c_iload rfl ?_
  refine c_istore rfl ?_
  refine c_iload rfl ?_
  refine c_istore rfl ?_
  refine c_goto ?_
  have lp4 : ∀ (n : Nat) (a : Int32), pfx a.toInt → (ovl a.toInt y.toInt ↔ ovl x.toInt y.toInt) → BC MR n 96 4 [.inl x, .inl y, .inl a, .inl y] [] F (fun o9 t => t = F ∧ ∃ x9, o9 = oi x9 ∧ TB x9 (ovl x.toInt y.toInt)) := by
    intro n4
    induction n4 using Nat.strongRecOn with
    | ind n4 ih4 =>
      intro a ha io
      have sba := szN_b a.toInt
      have osa := ofN (n := szN a.toInt) (by omega)
      have h10a : 10 ≤ a.toInt := by have h9 := ha; unfold pfx at h9; omega
      refine BC.blk c96_4 (fun m2 hm2 => ?_)
      refine c_iload rfl ?_
      refine d_call mr_rs (show ED MR 95 [.inl a] _ (oi (Int32.ofNat (szN a.toInt))) _ from by rw [← szI]; exact e95) ?_
      refine c_iload rfl ?_
      refine d_call mr_rs (show ED MR 95 [.inl y] _ (oi (Int32.ofNat (szN y.toInt))) _ from by rw [← szI]; exact e95) ?_
      refine c_icmp_le (fun d1 => ?_) (fun d1 => ?_)
      · skip
        have lp23 : ∀ (n : Nat) (b : Int32), pfx b.toInt → szN a.toInt ≤ szN b.toInt → (ovl a.toInt b.toInt ↔ ovl x.toInt y.toInt) → BC MR n 96 23 [.inl x, .inl y, .inl a, .inl b] [] F (fun o9 t => t = F ∧ ∃ x9, o9 = oi x9 ∧ TB x9 (ovl x.toInt y.toInt)) := by
          intro n23
          induction n23 using Nat.strongRecOn with
          | ind n23 ih23 =>
            intro b hb hs io
            have sbb := szN_b b.toInt
            have osb := ofN (n := szN b.toInt) (by omega)
            have h10b : 10 ≤ b.toInt := by have h9 := hb; unfold pfx at h9; omega
            refine BC.blk c96_23 (fun m3 hm3 => ?_)
            refine c_iload rfl ?_
            refine d_call mr_rs (show ED MR 95 [.inl b] _ (oi (Int32.ofNat (szN b.toInt))) _ from by rw [← szI]; exact e95) ?_
            refine c_iload rfl ?_
            refine d_call mr_rs (show ED MR 95 [.inl a] _ (oi (Int32.ofNat (szN a.toInt))) _ from by rw [← szI]; exact e95) ?_
            refine c_icmp_le (fun d2 => ?_) (fun d2 => ?_)
            · skip
              refine BC.blk c96_42 (fun m4 hm4 => ?_)
              refine c_iload rfl ?_
              refine c_iload rfl ?_
              refine c_icmp_ne (fun d3 => ?_) (fun d3 => ?_)
              · skip
                refine BC.blk c96_51 (fun m5 hm5 => ?_)
                refine c_iconst ?_
                refine c_goto ?_
                refine BC.blk c96_52 (fun m6 hm6 => ?_)
                exact c_zret ⟨rfl, 0, rfl, Or.inr ⟨rfl, fun z => d3 (i32_eq.mpr ((ovl_e ha hb (by omega)).mp (io.mpr z)))⟩⟩
              · skip
                refine c_iconst ?_
                refine c_goto ?_
                refine BC.blk c96_52 (fun m7 hm7 => ?_)
                exact c_zret ⟨rfl, 1, rfl, Or.inl ⟨rfl, io.mp ((ovl_e ha hb (by omega)).mpr (i32_eq.mp d3))⟩⟩
            · skip
              refine c_iload rfl ?_
              refine c_iconst ?_
              refine c_idiv rfl ?_
              refine c_istore rfl ?_
              refine c_goto ?_
              have e : (b / 10).toInt = b.toInt / 10 := i32_div (by omega) (by decide)
              have pd := pfx_d hb (by omega)
              exact ih23 m3 (by omega) (b / 10) (by rw [e]; exact pd.1) (by rw [e]; omega) (by rw [e, ovl_r ha hb (by omega)]; exact io)
        exact lp23 m2 y hy (by omega) io
      · skip
        refine c_iload rfl ?_
        refine c_iconst ?_
        refine c_idiv rfl ?_
        refine c_istore rfl ?_
        refine c_goto ?_
        have e : (a / 10).toInt = a.toInt / 10 := i32_div (by omega) (by decide)
        have pd := pfx_d ha (by omega)
        exact ih4 m2 (by omega) (a / 10) (by rw [e]; exact pd.1) (by rw [e, ovl_l ha hy (by omega)]; exact io)
  exact lp4 m1 x hx Iff.rfl
