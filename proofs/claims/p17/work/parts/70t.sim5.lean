/-! WAITING, AND THE END OF A CALL, on both sides -/
theorem hset_r {v : vS} {x : Int32} {y K' : Nat} (h17 : K' ≠ 17) (h6 : K' ≠ 6) : (hset v x y).2.1 K' = v.2.1 K' := by
  unfold hset
  split
  · split
    · funext a b; exact u3_ne (fun z _ => h6 z)
    · rfl
  · split
    · funext a b; exact u3_ne (fun z _ => h17 z)
    · rfl
theorem vseize_r {v : vS} {j K' : Nat} {x : Int32} (h17 : K' ≠ 17) (h6 : K' ≠ 6) : (vseize v j x).2.1 K' = v.2.1 K' := hset_r h17 h6
theorem vrel_r {v : vS} {j K' : Nat} {x : Int32} (h17 : K' ≠ 17) (h6 : K' ≠ 6) : (vrel v j x).2.1 K' = v.2.1 K' := hset_r h17 h6
theorem vclr_r {l : List Int32} : ∀ {v : vS} {K' : Nat}, K' ≠ 17 → K' ≠ 6 → (vclr v l).2.1 K' = v.2.1 K' := by
  induction l with
  | nil => exact fun _ _ => rfl
  | cons x l ih => exact fun {v K'} a b => (ih (v := hset v x 0) a b).trans (hset_r a b)
theorem rseize_k {F : xF} {c n K i : Nat} {x : Int32} (h : K < 36 ∨ (41 < K ∧ K < 63)) : rseize F c n x K i = F K i := (gset_ne (by omega)).trans ((u2_ne (by omega)).trans (u2_ne (by omega)))
theorem RE.k {F t : xF} {c K i : Nat} {x : Int32} {l : List Int32} (R : RE F c x l t) (h : K < 36 ∨ (41 < K ∧ K < 63)) : t K i = F K i := (R.1 K i (by omega) (by omega)).trans (gset_ne (by omega))
theorem PLr.cg24 {v v' : vS} {F F' : xF} {c : Nat} (h : PLr v F c) (ha : ∀ k, v'.1 1 k (c + 1) = v.1 1 k (c + 1)) (hb : ∀ k, v'.1 2 k (c + 1) = v.1 2 k (c + 1)) (hd : ∀ k, v'.2.1 1 k (c + 1) = v.2.1 1 k (c + 1)) (he : v'.2.1 2 5 (c + 1) = v.2.1 2 5 (c + 1)) (hr : v'.2.2.1 (ri c) = v.2.2.1 (ri c)) (hF : ∀ K, K ≠ 24 → K ≠ 8 → F' K c = F K c) (hg : ∀ i, i < 8 → F' 49 (8 * c + i) = F 49 (8 * c + i)) (hq : ∀ k : Nat, v'.2.1 18 (c / 24 + 1) k = v.2.1 18 (c / 24 + 1) k) (hN : F' 29 (c / 24) = F 29 (c / 24)) (hw : -1 ≤ (F' 24 c).toInt ∧ (0 ≤ (F' 24 c).toInt → F 47 c = 0 ∧ (F 28 c).toInt < 0 ∧ ¬ F 22 c = 0 ∧ F 23 c = 0)) : PLr v' F' c := by
  obtain ⟨p1, p2, p3, p4, p5, p6, p7, p8, p9, p10, p11, p12, p13, p14, p15, p16, p17, p18⟩ := h
  unfold PLr
  rw [hd 2, hd 3, hd 4, he, hb 2, hb 3, hb 4, ha 5, ha 6, ha 7, ha 8, ha 9, ha 10, ha 11, ha 12, ha 13, hr, hF 47 (by decide) (by decide), hF 22 (by decide) (by decide), hF 25 (by decide) (by decide), hF 28 (by decide) (by decide), hF 57 (by decide) (by decide), hF 60 (by decide) (by decide), hF 55 (by decide) (by decide), hF 52 (by decide) (by decide), hF 56 (by decide) (by decide), hF 61 (by decide) (by decide), hF 23 (by decide) (by decide), hF 48 (by decide) (by decide), hF 50 (by decide) (by decide), hF 51 (by decide) (by decide), hF 53 (by decide) (by decide), hF 54 (by decide) (by decide), hF 58 (by decide) (by decide), hN]
  refine ⟨p1, ?_, p3, p4, p5, p6, p7, hw, p9, p10, fun z => ⟨(p11 z).1.cg hg, (p11 z).2⟩, p12, p13, p14, p15, p16, fun z => ?_, p18⟩
  · unfold tnF
    rw [hF 47 (by decide) (by decide), hF 48 (by decide) (by decide), hF 23 (by decide) (by decide)]
    exact p2
  · obtain ⟨k, k1, k2, k3⟩ := p17 z
    exact ⟨k, k1, k2, by rw [hq k]; exact k3⟩
section XSW
variable {D : Int} {v : vS} {F : xF} {o n : Nat}
theorem Sim.nj {c : Nat} (S : Sim D v F) (hc : c < 72) (h : ¬ F 47 c = 2) : ∀ o, o < 3 → Int32.ofNat c ∉ v.2.2.1 (30 * o + 2) := by
  intro o ho z
  obtain ⟨c', b1, b2, -, b4, -⟩ := (S.1.jq o ho).2.2.2 _ z
  rw [← ofN_inj (by omega) (by omega) b2] at b4
  exact h b4
theorem Sim.wdel (S : Sim D v F) (ho : o < 3) (hn : n < 24) : Sim D (vrw v (30 * o + 1) (rdel (v.2.2.1 (30 * o + 1)) (Int32.ofNat n))) (x_u2 F 24 (24 * o + n) (-1)) := by
  have hr : ∀ r, r ≠ 30 * o + 1 → (vrw v (30 * o + 1) (rdel (v.2.2.1 (30 * o + 1)) (Int32.ofNat n))).2.2.1 r = v.2.2.1 r := fun r h => u1_ne h
  have hr0 : (vrw v (30 * o + 1) (rdel (v.2.2.1 (30 * o + 1)) (Int32.ofNat n))).2.2.1 (30 * o + 1) = rdel (v.2.2.1 (30 * o + 1)) (Int32.ofNat n) := u1_eq
  have hri : ∀ c, c < 72 → (vrw v (30 * o + 1) (rdel (v.2.2.1 (30 * o + 1)) (Int32.ofNat n))).2.2.1 (ri c) = v.2.2.1 (ri c) := fun c' hc' => hr _ (fun z => ri_no (o := o) (k := 1) hc' (by omega) z.symm)
  have p := S.pl (c := 24 * o + n) (by omega)
  have w0 : -1 ≤ (F 24 (24 * o + n)).toInt := p.2.2.2.2.2.2.2.1.1
  have wb := S.1.wq.2 (24 * o + n) (by omega)
  have m1 : ((-1 : Int32)).toInt = -1 := rfl
  have S1 : SX D (fun c => c = 24 * o + n) (fun _ => False) (vrw v (30 * o + 1) (rdel (v.2.2.1 (30 * o + 1)) (Int32.ofNat n))) (x_u2 F 24 (24 * o + n) (-1)) := by
    refine (S.1.opn (E' := fun c => c = 24 * o + n) (fun _ z => z.elim)).rows rfl rfl rfl hri (fun m hm => hr _ (by omega)) (fun K i a _ _ _ _ _ => u2_ne a) (fun c' _ ne => u2_ni ne) (fun o' ho' => ?_) ⟨fun o' ho' => ?_, fun l hl => ?_⟩ (fun o' ho' => ⟨fun h hh => ?_, fun h h' hh hh' hne => ?_⟩)
    · rw [hr _ (by omega)]
      exact S.1.jq o' ho'
    · obtain ⟨a1, a2, a3⟩ := S.1.wq.1 o' ho'
      by_cases e : o' = o
      · subst e
        rw [hr0]
        have key : ∀ x ∈ v.2.2.1 (30 * o' + 1), x ≠ Int32.ofNat n → x_u2 F 24 (24 * o' + n) (-1) 24 (24 * o' + x.toNatClampNeg) = F 24 (24 * o' + x.toNatClampNeg) := by
          intro x hx hne
          obtain ⟨n', b1, b2, -⟩ := a1 x hx
          refine u2_ni (fun z => hne ?_)
          rw [b2, (ofN (n := n') (by omega)).2] at z
          rw [b2, show n' = n by omega]
        refine ⟨fun x hx => ?_, fun n' hn' h0 => ?_, ?_⟩
        · obtain ⟨q1, q2⟩ := mem_rdel.mp hx
          obtain ⟨n', b1, b2, b3⟩ := a1 x q1
          refine ⟨n', b1, b2, ?_⟩
          have := key x q1 q2
          rw [b2, (ofN (n := n') (by omega)).2] at this
          rw [this]; exact b3
        · by_cases q : n' = n
          · rw [q, u2_eq, m1] at h0
            omega
          · rw [u2_ni (by omega)] at h0
            exact mem_rdel.mpr ⟨a2 n' hn' h0, fun z => q (ofN_inj (by omega) (by omega) z)⟩
        · refine (List.Pairwise.filter _ a3).imp_of_mem (fun {x y} hx hy hxy => ?_)
          obtain ⟨x1, x2⟩ := mem_rdel.mp hx
          obtain ⟨y1, y2⟩ := mem_rdel.mp hy
          rw [key x x1 x2, key y y1 y2]
          exact hxy
      · rw [hr _ (by omega)]
        have key : ∀ n', n' < 24 → x_u2 F 24 (24 * o + n) (-1) 24 (24 * o' + n') = F 24 (24 * o' + n') := fun n' h => u2_ni (by omega)
        refine ⟨fun x hx => ?_, fun n' hn' h0 => ?_, a3.imp_of_mem (fun {x y} hx hy hxy => ?_)⟩
        · obtain ⟨n', b1, b2, b3⟩ := a1 x hx
          exact ⟨n', b1, b2, by rw [key n' b1]; exact b3⟩
        · rw [key n' hn'] at h0
          exact a2 n' hn' h0
        · obtain ⟨x', x1, x2, -⟩ := a1 x hx
          obtain ⟨y', y1, y2, -⟩ := a1 y hy
          have ex : x.toNatClampNeg < 24 := by rw [x2, (ofN (n := x') (by omega)).2]; exact x1
          have ey : y.toNatClampNeg < 24 := by rw [y2, (ofN (n := y') (by omega)).2]; exact y1
          rw [key _ ex, key _ ey]
          exact hxy
    · rw [u2_ne (K' := 8) (by decide)]
      by_cases e : l = 24 * o + n
      · rw [e, u2_eq, m1]; omega
      · rw [u2_ni e]; exact S.1.wq.2 l hl
    · rw [hr _ (by omega)]
      exact (S.1.hu o' ho').1 h hh
    · rw [hr _ (by omega), hr _ (by omega)]
      exact (S.1.hu o' ho').2 h h' hh hh' hne
  refine ⟨S1.close (fun c hc e _ => ?_), S.2.1, S.2.2⟩
  subst e
  exact p.cg24 (fun _ => rfl) (fun _ => rfl) (fun _ => rfl) rfl (hri _ hc) (fun K h1 _ => u2_ne h1) (fun _ _ => rfl) (fun _ => rfl) rfl ⟨by rw [u2_eq]; decide, fun z => by rw [u2_eq] at z; exact absurd z (by decide)⟩
theorem Sim.wadd (S : Sim D v F) (ho : o < 3) (hn : n < 24) (h24 : (F 24 (24 * o + n)).toInt < 0) (h47 : F 47 (24 * o + n) = 0) (h28 : (F 28 (24 * o + n)).toInt < 0) (h22 : ¬ F 22 (24 * o + n) = 0) (h23 : F 23 (24 * o + n) = 0) (hst : 0 ≤ (F 8 2).toInt ∧ (F 8 2).toInt < 100000) : Sim D (vrw v (30 * o + 1) (radd (cap (30 * o + 1)) (v.2.2.1 (30 * o + 1)) (Int32.ofNat n))) (x_u2 (x_u2 F 24 (24 * o + n) (F 8 2)) 8 2 (F 8 2 + 1)) := by
  obtain ⟨a1, a2, a3⟩ := S.1.wq.1 o ho
  have hni : Int32.ofNat n ∉ v.2.2.1 (30 * o + 1) := fun z => by
    obtain ⟨n', b1, b2, b3⟩ := a1 _ z
    rw [← ofN_inj (by omega) (by omega) b2] at b3
    omega
  have hnd : (v.2.2.1 (30 * o + 1)).Nodup := a3.imp (fun {x y} h z => by rw [z] at h; omega)
  have hl : (v.2.2.1 (30 * o + 1)).length < 24 := by
    have h := nd_len (Int32.ofNat n :: v.2.2.1 (30 * o + 1)) ((List.range 24).map Int32.ofNat) (List.nodup_cons.mpr ⟨hni, hnd⟩) (fun x hx => by
      rcases List.mem_cons.mp hx with q | q
      · exact List.mem_map.mpr ⟨n, List.mem_range.mpr hn, q.symm⟩
      · obtain ⟨n', b1, b2, -⟩ := a1 x q
        exact List.mem_map.mpr ⟨n', List.mem_range.mpr b1, b2.symm⟩)
    rw [List.length_map, List.length_range] at h
    have h : (v.2.2.1 (30 * o + 1)).length + 1 ≤ 24 := h
    omega
  rw [cap_wait ho, radd, if_pos hl]
  have s1 : (F 8 2 + 1).toInt = (F 8 2).toInt + 1 := i32_add (by show _ ≤ _ + (1 : Int); omega) (by show _ + (1 : Int) < _; omega)
  have hr : ∀ r, r ≠ 30 * o + 1 → (vrw v (30 * o + 1) (v.2.2.1 (30 * o + 1) ++ [Int32.ofNat n])).2.2.1 r = v.2.2.1 r := fun r h => u1_ne h
  have hr0 : (vrw v (30 * o + 1) (v.2.2.1 (30 * o + 1) ++ [Int32.ofNat n])).2.2.1 (30 * o + 1) = v.2.2.1 (30 * o + 1) ++ [Int32.ofNat n] := u1_eq
  have hri : ∀ c, c < 72 → (vrw v (30 * o + 1) (v.2.2.1 (30 * o + 1) ++ [Int32.ofNat n])).2.2.1 (ri c) = v.2.2.1 (ri c) := fun c' hc' => hr _ (fun z => ri_no (o := o) (k := 1) hc' (by omega) z.symm)
  have gK : ∀ K i, K ≠ 24 → (K = 8 → i ≠ 2) → x_u2 (x_u2 F 24 (24 * o + n) (F 8 2)) 8 2 (F 8 2 + 1) K i = F K i := by
    intro K i h1 h2
    have : ¬ (K = 8 ∧ i = 2) := fun z => h2 z.1 z.2
    rw [show x_u2 (x_u2 F 24 (24 * o + n) (F 8 2)) 8 2 (F 8 2 + 1) K i = _ from if_neg this, u2_ne h1]
  have g24 : ∀ i, i ≠ 24 * o + n → x_u2 (x_u2 F 24 (24 * o + n) (F 8 2)) 8 2 (F 8 2 + 1) 24 i = F 24 i := fun i h => by rw [u2_ne (by decide), u2_ni h]
  have g24e : x_u2 (x_u2 F 24 (24 * o + n) (F 8 2)) 8 2 (F 8 2 + 1) 24 (24 * o + n) = F 8 2 := by rw [u2_ne (by decide), u2_eq]
  have g82 : x_u2 (x_u2 F 24 (24 * o + n) (F 8 2)) 8 2 (F 8 2 + 1) 8 2 = F 8 2 + 1 := u2_eq
  have p := S.pl (c := 24 * o + n) (by omega)
  generalize x_u2 (x_u2 F 24 (24 * o + n) (F 8 2)) 8 2 (F 8 2 + 1) = G at gK g24 g24e g82
  have S1 : SX D (fun c => c = 24 * o + n) (fun _ => False) (vrw v (30 * o + 1) (v.2.2.1 (30 * o + 1) ++ [Int32.ofNat n])) G := by
    refine (S.1.opn (E' := fun c => c = 24 * o + n) (fun _ z => z.elim)).rows rfl rfl rfl hri (fun m hm => hr _ (by omega)) (fun K i a _ _ _ _ b => gK K i a b) (fun c' _ ne => g24 c' ne) (fun o' ho' => ?_) ⟨fun o' ho' => ?_, fun l hl => ?_⟩ (fun o' ho' => ⟨fun h hh => ?_, fun h h' hh hh' hne => ?_⟩)
    · rw [hr _ (by omega)]
      obtain ⟨⟨j0, j1⟩, j2, j3, j4⟩ := S.1.jq o' ho'
      refine ⟨⟨(gK 45 o' (by decide) (by omega)).trans j0, fun k y hy => (gK 46 _ (by decide) (by omega)).trans (j1 k y hy)⟩, j2, j3, fun x hx => ?_⟩
      obtain ⟨c', b1, b2, b3, b4, b5, b6⟩ := j4 x hx
      exact ⟨c', b1, b2, b3, (gK 47 c' (by decide) (by omega)).trans b4, (gK 50 c' (by decide) (by omega)).trans b5, by rw [gK 59 c' (by decide) (by omega)]; exact b6⟩
    · by_cases e : o' = o
      · subst e
        rw [hr0]
        have key : ∀ x ∈ v.2.2.1 (30 * o' + 1), G 24 (24 * o' + x.toNatClampNeg) = F 24 (24 * o' + x.toNatClampNeg) ∧ (F 24 (24 * o' + x.toNatClampNeg)).toInt < (F 8 2).toInt := by
          intro x hx
          obtain ⟨n', b1, b2, b3⟩ := a1 x hx
          rw [b2, (ofN (n := n') (by omega)).2]
          refine ⟨g24 _ (fun z => ?_), S.1.wq.2 _ (by omega)⟩
          rw [show n' = n by omega] at b3
          omega
        refine ⟨fun x hx => ?_, fun n' hn' h0 => ?_, ?_⟩
        · rcases List.mem_append.mp hx with q | q
          · obtain ⟨n', b1, b2, b3⟩ := a1 x q
            have k := (key x q).1
            rw [b2, (ofN (n := n') (by omega)).2] at k
            exact ⟨n', b1, b2, by rw [k]; exact b3⟩
          · rw [List.mem_singleton] at q
            exact ⟨n, hn, q, by rw [g24e]; exact hst.1⟩
        · by_cases q : n' = n
          · rw [q]; exact List.mem_append_right _ (List.mem_singleton.mpr rfl)
          · rw [g24 _ (by omega)] at h0
            exact List.mem_append_left _ (a2 n' hn' h0)
        · rw [List.pairwise_append]
          refine ⟨a3.imp_of_mem (fun {x y} hx hy hxy => by rw [(key x hx).1, (key y hy).1]; exact hxy), by simp, fun x hx y hy => ?_⟩
          rw [List.mem_singleton] at hy
          rw [hy, (ofN (n := n) (by omega)).2, g24e, (key x hx).1]
          exact (key x hx).2
      · rw [hr _ (by omega)]
        obtain ⟨b1, b2, b3⟩ := S.1.wq.1 o' ho'
        have key : ∀ n', n' < 24 → G 24 (24 * o' + n') = F 24 (24 * o' + n') := fun n' h => g24 _ (by omega)
        refine ⟨fun x hx => ?_, fun n' hn' h0 => ?_, b3.imp_of_mem (fun {x y} hx hy hxy => ?_)⟩
        · obtain ⟨n', d1, d2, d3⟩ := b1 x hx
          exact ⟨n', d1, d2, by rw [key n' d1]; exact d3⟩
        · rw [key n' hn'] at h0
          exact b2 n' hn' h0
        · obtain ⟨x', x1, x2, -⟩ := b1 x hx
          obtain ⟨y', y1, y2, -⟩ := b1 y hy
          have ex : x.toNatClampNeg < 24 := by rw [x2, (ofN (n := x') (by omega)).2]; exact x1
          have ey : y.toNatClampNeg < 24 := by rw [y2, (ofN (n := y') (by omega)).2]; exact y1
          rw [key _ ex, key _ ey]
          exact hxy
    · rw [g82, s1]
      by_cases e : l = 24 * o + n
      · rw [e, g24e]; omega
      · rw [g24 l e]
        have := S.1.wq.2 l hl
        omega
    · rw [hr _ (by omega)]
      obtain ⟨⟨j1, j2⟩, j3⟩ := (S.1.hu o' ho').1 h hh
      exact ⟨⟨(gK 26 _ (by decide) (by omega)).trans j1, fun k y hy => (gK 27 _ (by decide) (by omega)).trans (j2 k y hy)⟩, j3⟩
    · rw [hr _ (by omega), hr _ (by omega)]
      exact (S.1.hu o' ho').2 h h' hh hh' hne
  refine ⟨S1.close (fun c hc e _ => ?_), fun c l h1 h2 => ?_, fun c hc h5 h6 => ?_⟩
  · subst e
    exact p.cg24 (fun _ => rfl) (fun _ => rfl) (fun _ => rfl) rfl (hri _ hc) (fun K h1 h2 => gK K _ h1 (fun z => absurd z h2)) (fun _ _ => gK 49 _ (by decide) (by omega)) (fun _ => rfl) (gK 29 _ (by decide) (by omega)) ⟨by rw [g24e]; omega, fun _ => ⟨h47, h28, h22, h23⟩⟩
  · rw [gK 57 c (by decide) (by omega), gK 28 l (by decide) (by omega)]
    exact S.2.1 c l h1 h2
  · rw [gK 47 c (by decide) (by omega)] at h5
    rw [gK 57 c (by decide) (by omega), gK 22 _ (by decide) (by omega)] at h6
    rw [gK 62 c (by decide) (by omega)]
    exact S.2.2 c hc h5 h6
end XSW
