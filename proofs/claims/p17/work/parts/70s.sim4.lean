/-! JOBS, WAITING LINES, on both sides -/
theorem nd_len : ∀ (l S : List Int32), l.Nodup → (∀ x ∈ l, x ∈ S) → l.length ≤ S.length
  | [], _, _, _ => Nat.zero_le _
  | x :: l, S, hn, hs => by
    have h1 := hs x List.mem_cons_self
    have h2 := nd_len l (S.erase x) (List.nodup_cons.mp hn).2 (fun y hy => (List.mem_erase_of_ne (fun z => (List.nodup_cons.mp hn).1 (by rw [← z]; exact hy))).mpr (hs y (List.mem_cons_of_mem _ hy)))
    rw [List.length_erase_of_mem h1] at h2
    have h3 : 0 < S.length := List.length_pos_of_mem h1
    show l.length + 1 ≤ S.length
    omega
section XSR
variable {D : Int} {E J : Nat → Prop} {v v' : vS} {F F' : xF} {c : Nat}
theorem SX.rows (S : SX D E J v F) (h1 : v'.1 = v.1) (h2 : v'.2.1 = v.2.1) (h3 : v'.2.2.2 = v.2.2.2) (h4 : ∀ c, c < 72 → v'.2.2.1 (ri c) = v.2.2.1 (ri c)) (h5 : ∀ m, 1 ≤ m → v'.2.2.1 (90 + m) = v.2.2.1 (90 + m)) (f1 : ∀ K i, K ≠ 24 → K ≠ 26 → K ≠ 27 → K ≠ 45 → K ≠ 46 → (K = 8 → i ≠ 2) → F' K i = F K i) (f24 : ∀ c, c < 72 → ¬ E c → F' 24 c = F 24 c) (jq : sJQ D J v' F') (wq : sWQ v' F') (hu : sHU v' F') : SX D E J v' F' := by
  obtain ⟨s1, s2, s3, s4, s5, s6, s7, s8, s9⟩ := S
  have n : ∀ K i, K ≠ 24 → K ≠ 26 → K ≠ 27 → K ≠ 45 → K ≠ 46 → K ≠ 8 → F' K i = F K i := fun K i a b d e f g => f1 K i a b d e f (fun z => absurd z g)
  refine ⟨?_, fun K i h => ?_, fun c' hc' => ?_, jq, wq, hu, ⟨fun o ho => ?_, fun o o' k k' q1 q2 q3 q4 q5 => ?_⟩, fun o ho => ?_, fun c' hc' ne => ?_⟩
  · unfold sTR at s1 ⊢
    rw [h1, h2, h3, f1 8 20 (by decide) (by decide) (by decide) (by decide) (by decide) (by decide)]
    refine ⟨s1.1, s1.2.1, s1.2.2.1, fun t ht => ?_⟩
    rw [n 39 t (by decide) (by decide) (by decide) (by decide) (by decide) (by decide), n 40 t (by decide) (by decide) (by decide) (by decide) (by decide) (by decide), n 42 t (by decide) (by decide) (by decide) (by decide) (by decide) (by decide)]
    exact s1.2.2.2 t ht
  · rw [h3] at h ⊢
    unfold cs
    rw [h2, n K i (by unfold slq slo at h; omega) (by unfold slq slo at h; omega) (by unfold slq slo at h; omega) (by unfold slq slo at h; omega) (by unfold slq slo at h; omega) (by unfold slq slo at h; omega)]
    refine ⟨fun hs => ⟨((s2 K i h).1 hs).1, fun c' hc' e => ?_⟩, (s2 K i h).2⟩
    rw [h4 c' hc']
    exact ((s2 K i h).1 hs).2 c' hc' e
  · obtain ⟨⟨a1, a2⟩, a3, a4⟩ := s3 c' hc'
    unfold HLD LV
    rw [h4 c' hc', h3]
    refine ⟨⟨(n 63 _ (by decide) (by decide) (by decide) (by decide) (by decide) (by decide)).trans a1, fun k y hy => (n 64 _ (by decide) (by decide) (by decide) (by decide) (by decide) (by decide)).trans (a2 k y hy)⟩, a3, fun y hy => ?_⟩
    obtain ⟨K', i, b1, b2, b3⟩ := a4 y hy
    exact ⟨K', i, b1, b2, (n K' i (by unfold slo at b1; omega) (by unfold slo at b1; omega) (by unfold slo at b1; omega) (by unfold slo at b1; omega) (by unfold slo at b1; omega) (by unfold slo at b1; omega)).trans b3⟩
  · obtain ⟨N, n1, n2, n3, n4, n5⟩ := s7.1 o ho
    have g : ∀ K, K = 29 ∨ K = 30 ∨ K = 31 ∨ K = 32 ∨ K = 33 ∨ K = 34 ∨ K = 35 → ∀ i, F' K i = F K i := fun K hK i => n K i (by omega) (by omega) (by omega) (by omega) (by omega) (by omega)
    refine ⟨N, n1, by rw [h1]; exact n2, (g 29 (by decide) o).trans n3, fun k hk => ?_, fun k k' q1 q2 q3 => by rw [g 30 (by decide), g 30 (by decide)]; exact n5 k k' q1 q2 q3⟩
    have r := n4 k hk
    rw [h2]
    have hm : 1 ≤ v.2.1 18 (o + 1) k := r.1.1
    unfold RTE LV at r ⊢
    rw [h1, h2, h3, h5 _ hm]
    simp only [g 30 (by decide), g 31 (by decide), g 32 (by decide), g 33 (by decide), g 34 (by decide), g 35 (by decide)]
    exact r
  · have g : ∀ i, F' 29 i = F 29 i := fun i => n 29 i (by decide) (by decide) (by decide) (by decide) (by decide) (by decide)
    rw [g] at q3 q4
    rw [h2] at q5
    exact s7.2 o o' k k' q1 q2 q3 q4 q5
  · rw [h1, n 43 o (by decide) (by decide) (by decide) (by decide) (by decide) (by decide)]
    refine ⟨(s8 o ho).1, fun x hx => ?_⟩
    rw [n 44 _ (by decide) (by decide) (by decide) (by decide) (by decide) (by decide)]
    exact (s8 o ho).2 x hx
  · refine (s9 c' hc' ne).cg (fun k => by rw [h1]) (fun k => by rw [h1]) (fun k => by rw [h2]) (by rw [h2]) (h4 c' hc') (fun K hK => ?_) (fun i _ => n 49 _ (by decide) (by decide) (by decide) (by decide) (by decide) (by decide)) (fun k _ => by rw [h2]) (by rw [n 29 _ (by decide) (by decide) (by decide) (by decide) (by decide) (by decide)]; exact Int.le_refl _)
    by_cases z : K = 24
    · rw [z]; exact f24 c' hc' ne
    · simp only [lkd, Bool.or_eq_true, Bool.and_eq_true, Nat.ble_eq, beq_iff_eq] at hK
      exact n K c' z (by omega) (by omega) (by omega) (by omega) (by omega)
theorem u1_ne {α : Type} {f : Nat → α} {k k' : Nat} {x : α} (h : k' ≠ k) : x_u1 f k x k' = f k' := if_neg h
theorem u1_eq {α : Type} {f : Nat → α} {k : Nat} {x : α} : x_u1 f k x k = x := if_pos rfl
theorem rdel_no {l : List Int32} {x : Int32} (h : x ∉ l) : rdel l x = l := by
  unfold rdel
  rw [List.filter_eq_self]
  intro y hy
  simp only [Bool.not_eq_true', beq_eq_false_iff_ne]
  exact fun z => h (by rw [← z]; exact hy)
/-- the jobs' lists but o's, hunts' and waiting lines' lists stay -/
theorem SX.drop {o : Nat} (S : SX D E J v F) (ho : o < 3) (hn : ∀ o', o' < 3 → o' ≠ o → Int32.ofNat c ∉ v.2.2.1 (30 * o' + 2)) (R : DJ F c (fun o => v.2.2.1 (30 * o + 2)) F') : SX D E J (vrw v (30 * o + 2) (rdel (v.2.2.1 (30 * o + 2)) (Int32.ofNat c))) F' := by
  have hr : ∀ r, r ≠ 30 * o + 2 → (vrw v (30 * o + 2) (rdel (v.2.2.1 (30 * o + 2)) (Int32.ofNat c))).2.2.1 r = v.2.2.1 r := fun r h => u1_ne h
  have hr0 : (vrw v (30 * o + 2) (rdel (v.2.2.1 (30 * o + 2)) (Int32.ofNat c))).2.2.1 (30 * o + 2) = rdel (v.2.2.1 (30 * o + 2)) (Int32.ofNat c) := u1_eq
  refine S.rows rfl rfl rfl (fun c' hc' => hr _ (fun z => ri_no (o := o) (k := 2) hc' (by omega) z.symm)) (fun m hm => hr _ (by omega)) (fun K i a b d e f _ => R.1 K i e f) (fun c' _ _ => R.1 24 c' (by decide) (by decide)) (fun o' ho' => ?_) ⟨fun o' ho' => ?_, fun l hl => ?_⟩ (fun o' ho' => ⟨fun h hh => ?_, fun h h' hh hh' hne => ?_⟩)
  · obtain ⟨a1, a2, a3, a4⟩ := S.jq o' ho'
    have g : ∀ c', F' 47 c' = F 47 c' ∧ F' 50 c' = F 50 c' ∧ F' 59 c' = F 59 c' := fun c' => ⟨R.1 47 c' (by decide) (by decide), R.1 50 c' (by decide) (by decide), R.1 59 c' (by decide) (by decide)⟩
    have rl := R.2 o' ho'
    by_cases e : o' = o
    · subst e
      rw [hr0]
      refine ⟨rl, List.Pairwise.filter _ a2, Nat.le_trans (List.length_filter_le _ _) a3, fun x hx => ?_⟩
      obtain ⟨c', b1, b2, b3, b4, b5, b6⟩ := a4 x (mem_rdel.mp hx).1
      exact ⟨c', b1, b2, b3, (g c').1.trans b4, (g c').2.1.trans b5, by rw [(g c').2.2]; exact b6⟩
    · rw [hr _ (by omega)]
      have rl : LV F' 45 46 72 o' (rdel (v.2.2.1 (30 * o' + 2)) (Int32.ofNat c)) := rl
      rw [rdel_no (hn o' ho' e)] at rl
      refine ⟨rl, a2, a3, fun x hx => ?_⟩
      obtain ⟨c', b1, b2, b3, b4, b5, b6⟩ := a4 x hx
      exact ⟨c', b1, b2, b3, (g c').1.trans b4, (g c').2.1.trans b5, by rw [(g c').2.2]; exact b6⟩
  · rw [hr _ (by omega)]
    simp only [R.1 24 _ (show 24 ≠ 45 by decide) (show 24 ≠ 46 by decide)]
    exact S.wq.1 o' ho'
  · rw [R.1 24 l (by decide) (by decide), R.1 8 2 (by decide) (by decide)]
    exact S.wq.2 l hl
  · rw [hr _ (by omega)]
    obtain ⟨⟨a1, a2⟩, a3⟩ := (S.hu o' ho').1 h hh
    exact ⟨⟨(R.1 26 _ (by decide) (by decide)).trans a1, fun k y hy => (R.1 27 _ (by decide) (by decide)).trans (a2 k y hy)⟩, a3⟩
  · rw [hr _ (by omega), hr _ (by omega)]
    exact (S.hu o' ho').2 h h' hh hh' hne
theorem cap_job {o : Nat} (ho : o < 3) : cap (30 * o + 2) = 3 := by
  unfold cap
  rw [if_neg (by omega), if_neg (by omega), if_pos (by omega)]
theorem cap_wait {o : Nat} (ho : o < 3) : cap (30 * o + 1) = 24 := by
  unfold cap
  rw [if_neg (by omega), if_pos (by omega)]
theorem cap_hunt {o h : Nat} (ho : o < 3) (hh : h < 4) : cap (30 * o + 3 + h) = 6 := by
  unfold cap
  rw [if_neg (by omega), if_neg (by omega), if_neg (by omega), if_pos (by omega)]
/-- whose register a line in dialling, waiting for its job, sending has -/
theorem PLr.reg (p : PLr v F c) (H : HLD v F c) (hT : v.2.2.2 6 ≤ 16) (h1 : 1 ≤ (F 47 c).toInt) (h3 : (F 47 c).toInt ≤ 3) : ∃ r, r < 3 ∧ F 51 c = Int32.ofNat r ∧ v.1 1 9 (c + 1) = Int32.ofNat (cdo 38 (3 * (F 50 c).toNatClampNeg + r)) ∧ v.1 1 9 (c + 1) ∈ v.2.2.1 (ri c) ∧ (F 50 c).toNatClampNeg < 3 ∧ F 50 c = Int32.ofNat (F 50 c).toNatClampNeg ∧ F 38 (3 * (F 50 c).toNatClampNeg + r) = Int32.ofNat c := by
  obtain ⟨p1, p2, p3, p4, p5, p6, p7, p8, p9, p10, p11, p12, p13, p14, p15, p16, p17, -⟩ := p
  have hne : ¬ F 47 c = 0 := fun z => by rw [z] at h1; exact absurd h1 (by decide)
  obtain ⟨-, ⟨o1, o2⟩, -⟩ := p11 hne
  obtain ⟨-, -, -, r, r1, r2, r3, r4⟩ := p12 h1 h3
  have oc := x_clamp o1
  have ho : (F 50 c).toNatClampNeg < 3 := by omega
  refine ⟨r, r1, r2, r3, r4, ho, i32_nat o1, ?_⟩
  obtain ⟨K, i, b1, b2, b3⟩ := H.2.2 _ r4
  have hs : slo (v.2.2.2 6) 38 (3 * (F 50 c).toNatClampNeg + r) := by unfold slo; omega
  have l1 := cdo_le hs hT
  have l2 := cdo_le b1 hT
  rw [r3] at b2
  obtain ⟨rfl, rfl⟩ := cdo_inj hs b1 (ofN_inj (by omega) (by omega) b2)
  exact b3
/-- there is room for one job more -/
theorem SX.room {o r : Nat} (S : SX D E J v F) (hc : c < 72) (he : J c) (hEJ : ∀ x, E x → J x) (ho : o < 3) (hr : r < 3) (hR : F 38 (3 * o + r) = Int32.ofNat c) : (v.2.2.1 (30 * o + 2)).length < 3 ∧ Int32.ofNat c ∉ v.2.2.1 (30 * o + 2) := by
  obtain ⟨a1, a2, a3, a4⟩ := S.jq o ho
  have hn : Int32.ofNat c ∉ v.2.2.1 (30 * o + 2) := fun z => by
    obtain ⟨c', b1, b2, b3, -⟩ := a4 _ z
    exact b3 (by rw [← ofN_inj (by omega) (by omega) b2]; exact he)
  refine ⟨?_, hn⟩
  have h := nd_len (Int32.ofNat c :: v.2.2.1 (30 * o + 2)) [F 38 (3 * o), F 38 (3 * o + 1), F 38 (3 * o + 2)] (List.nodup_cons.mpr ⟨hn, a2⟩) (fun x hx => ?_)
  · have h : (v.2.2.1 (30 * o + 2)).length + 1 ≤ 3 := h
    omega
  · have key : ∀ q, q < 3 → F 38 (3 * o + q) ∈ [F 38 (3 * o), F 38 (3 * o + 1), F 38 (3 * o + 2)] := by
      intro q hq
      rcases (show q = 0 ∨ q = 1 ∨ q = 2 by omega) with rfl | rfl | rfl <;> simp
    rcases List.mem_cons.mp hx with q | q
    · rw [q, ← hR]; exact key r hr
    · obtain ⟨c', b1, b2, b3, b4, b5, -⟩ := a4 x q
      have o2 := ofN (n := o) (by omega)
      obtain ⟨r', r1, -, -, -, -, -, r7⟩ := (S.pl b1 (fun z => b3 (hEJ _ z))).reg (S.hl b1) S.tr.1 (by rw [b4]; decide) (by rw [b4]; decide)
      rw [b5, o2.2] at r7
      rw [b2, ← r7]
      exact key r' r1
/-- a job more -/
theorem SX.addj {o : Nat} (S : SX D E J v F) (hc : c < 72) (he : ¬ J c) (ho : o < 3) (hl : (v.2.2.1 (30 * o + 2)).length < 3) (hn : Int32.ofNat c ∉ v.2.2.1 (30 * o + 2)) (h47 : F 47 c = 2) (h50 : F 50 c = Int32.ofNat o) (h59 : (F 59 c).toInt < D) : SX D E J (vrw v (30 * o + 2) (radd (cap (30 * o + 2)) (v.2.2.1 (30 * o + 2)) (Int32.ofNat c))) (x_u2 (x_u2 F 46 (72 * o + (v.2.2.1 (30 * o + 2)).length) (Int32.ofNat c)) 45 o (Int32.ofNat ((v.2.2.1 (30 * o + 2)).length + 1))) := by
  rw [cap_job ho, radd, if_pos hl]
  have hr : ∀ r, r ≠ 30 * o + 2 → (vrw v (30 * o + 2) (v.2.2.1 (30 * o + 2) ++ [Int32.ofNat c])).2.2.1 r = v.2.2.1 r := fun r h => u1_ne h
  have hr0 : (vrw v (30 * o + 2) (v.2.2.1 (30 * o + 2) ++ [Int32.ofNat c])).2.2.1 (30 * o + 2) = v.2.2.1 (30 * o + 2) ++ [Int32.ofNat c] := u1_eq
  have g : ∀ K i, K ≠ 45 → K ≠ 46 → x_u2 (x_u2 F 46 (72 * o + (v.2.2.1 (30 * o + 2)).length) (Int32.ofNat c)) 45 o (Int32.ofNat ((v.2.2.1 (30 * o + 2)).length + 1)) K i = F K i := fun K i a b => by rw [u2_ne a, u2_ne b]
  refine S.rows rfl rfl rfl (fun c' hc' => hr _ (fun z => ri_no (o := o) (k := 2) hc' (by omega) z.symm)) (fun m hm => hr _ (by omega)) (fun K i a b d e f _ => g K i e f) (fun c' _ _ => g 24 c' (by decide) (by decide)) (fun o' ho' => ?_) ⟨fun o' ho' => ?_, fun l hl => ?_⟩ (fun o' ho' => ⟨fun h hh => ?_, fun h h' hh hh' hne => ?_⟩)
  · obtain ⟨⟨a0, a1⟩, a2, a3, a4⟩ := S.jq o' ho'
    by_cases e : o' = o
    · subst e
      rw [hr0]
      generalize v.2.2.1 (30 * o' + 2) = l at hl hn a0 a1 a2 a3 a4
      refine ⟨⟨?_, fun k y hy => ?_⟩, ?_, by rw [List.length_append]; show l.length + 1 ≤ 3; omega, fun x hx => ?_⟩
      · rw [u2_eq, List.length_append]; rfl
      · rw [u2_ne (by decide)]
        by_cases q : k < l.length
        · rw [List.getElem?_append_left q] at hy
          rw [u2_ni (by omega)]
          exact a1 k y hy
        · have hk : k = l.length := by
            have := (List.getElem?_eq_some_iff.mp hy).1
            rw [List.length_append] at this
            have : k < l.length + 1 := this
            omega
          subst hk
          rw [List.getElem?_append_right (Nat.le_refl _), Nat.sub_self] at hy
          rw [u2_eq]
          simpa using hy
      · rw [List.nodup_append]
        refine ⟨a2, by simp, fun x hx y hy z => hn ?_⟩
        rw [List.mem_singleton] at hy
        rw [← hy, ← z]; exact hx
      · rcases List.mem_append.mp hx with q | q
        · obtain ⟨c', b1, b2, b3, b4, b5, b6⟩ := a4 x q
          exact ⟨c', b1, b2, b3, (g 47 c' (by decide) (by decide)).trans b4, (g 50 c' (by decide) (by decide)).trans b5, by rw [u2_ne (by decide), u2_ne (by decide)]; exact b6⟩
        · rw [List.mem_singleton] at q
          exact ⟨c, hc, q, he, (g 47 c (by decide) (by decide)).trans h47, (g 50 c (by decide) (by decide)).trans h50, by rw [u2_ne (by decide), u2_ne (by decide)]; exact h59⟩
    · rw [hr _ (by omega)]
      refine ⟨⟨by rw [u2_ni e, u2_ne (by decide)]; exact a0, fun k y hy => ?_⟩, a2, a3, fun x hx => ?_⟩
      · have := (List.getElem?_eq_some_iff.mp hy).1
        rw [u2_ne (by decide), u2_ni (by omega)]
        exact a1 k y hy
      · obtain ⟨c', b1, b2, b3, b4, b5, b6⟩ := a4 x hx
        exact ⟨c', b1, b2, b3, (g 47 c' (by decide) (by decide)).trans b4, (g 50 c' (by decide) (by decide)).trans b5, by rw [g 59 c' (by decide) (by decide)]; exact b6⟩
  · rw [hr _ (by omega)]
    simp only [g 24 _ (show 24 ≠ 45 by decide) (show 24 ≠ 46 by decide)]
    exact S.wq.1 o' ho'
  · rw [g 24 l (by decide) (by decide), g 8 2 (by decide) (by decide)]
    exact S.wq.2 l hl
  · rw [hr _ (by omega)]
    obtain ⟨⟨a1, a2⟩, a3⟩ := (S.hu o' ho').1 h hh
    exact ⟨⟨(g 26 _ (by decide) (by decide)).trans a1, fun k y hy => (g 27 _ (by decide) (by decide)).trans (a2 k y hy)⟩, a3⟩
  · rw [hr _ (by omega), hr _ (by omega)]
    exact (S.hu o' ho').2 h h' hh hh' hne
end XSR
