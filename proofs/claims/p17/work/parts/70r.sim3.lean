/-! SEIZING AND RELEASING, on both sides -/
theorem ri_inj {c c' : Nat} (hc : c < 72) (hc' : c' < 72) (h : ri c = ri c') : c = c' := by
  unfold ri at h
  omega
theorem ri_no {c o k : Nat} (hc : c < 72) (hk : 1 ≤ k ∧ k < 7) : 30 * o + k ≠ ri c := by
  unfold ri
  omega
theorem ri_90 {c m : Nat} (hc : c < 72) (hm : 1 ≤ m) : 90 + m ≠ ri c := by
  unfold ri
  omega
theorem csu_n {v : vS} {K i y : Nat} : (csu v K i y).2.2.2 = v.2.2.2 := congrArg Prod.snd (csu_i (v := v) (K := K) (i := i) (y := y)).2
section XSH
variable {D : Int} {E J : Nat → Prop} {v v' : vS} {F F' : xF} {c : Nat}
theorem SX.hold (S : SX D E J v F) (hc : c < 72) (he : E c) (h1 : v'.1 = v.1) (h2 : v'.2.2.2 = v.2.2.2) (h3 : ∀ K', K' ≠ 17 → K' ≠ 6 → v'.2.1 K' = v.2.1 K') (h4 : ∀ r, r ≠ ri c → v'.2.2.1 r = v.2.2.1 r) (f1 : ∀ K' i', (K' < 36 ∨ (38 < K' ∧ K' < 41) ∨ (41 < K' ∧ K' < 63)) → F' K' i' = F K' i') (f2 : ∀ i, i ≠ c → F' 63 i = F 63 i) (f3 : ∀ i, i < 16 * c ∨ 16 * c + 16 ≤ i → F' 64 i = F 64 i) (hd : sHD v' F') (hl : HLD v' F' c) (ho : ∀ c' K' i', c' < 72 → c' ≠ c → slo (v.2.2.2 6) K' i' → F K' i' = Int32.ofNat c' → F' K' i' = Int32.ofNat c') : SX D E J v' F' := by
  obtain ⟨s1, s2, s3, s4, s5, s6, s7, s8, s9⟩ := S
  refine ⟨?_, hd, fun c' hc' => ?_, fun o ho' => ?_, ⟨fun o ho' => ?_, fun l hl' => ?_⟩, fun o ho' => ?_, ?_, fun o ho' => ?_, fun c' hc' ne => ?_⟩
  · unfold sTR at s1 ⊢
    rw [h1, h2, h3 13 (by decide) (by decide), f1 8 20 (by omega)]
    refine ⟨s1.1, s1.2.1, s1.2.2.1, fun t ht => ?_⟩
    rw [f1 39 t (by omega), f1 40 t (by omega), f1 42 t (by omega)]
    exact s1.2.2.2 t ht
  · by_cases e : c' = c
    · rw [e]; exact hl
    · obtain ⟨⟨a1, a2⟩, a3, a4⟩ := s3 c' hc'
      have er : v'.2.2.1 (ri c') = v.2.2.1 (ri c') := h4 _ (fun z => e (ri_inj hc' hc z))
      unfold HLD LV
      rw [er, h2]
      refine ⟨⟨(f2 c' e).trans a1, fun k y hy => (f3 _ ?_).trans (a2 k y hy)⟩, a3, fun y hy => ?_⟩
      · have := (List.getElem?_eq_some_iff.mp hy).1
        omega
      · obtain ⟨K', i, b1, b2, b3⟩ := a4 y hy
        exact ⟨K', i, b1, b2, ho c' K' i hc' e b1 b3⟩
  · rw [h4 _ (ri_no hc (by omega))]
    obtain ⟨⟨a1, a2⟩, a3, a4, a5⟩ := s4 o ho'
    refine ⟨⟨(f1 45 o (by omega)).trans a1, fun k y hy => (f1 46 _ (by omega)).trans (a2 k y hy)⟩, a3, a4, fun y hy => ?_⟩
    obtain ⟨c', b1, b2, b3, b4, b5, b6⟩ := a5 y hy
    exact ⟨c', b1, b2, b3, (f1 47 c' (by omega)).trans b4, (f1 50 c' (by omega)).trans b5, by rw [f1 59 c' (by omega)]; exact b6⟩
  · rw [h4 _ (ri_no hc (by omega))]
    simp only [f1 24 _ (Or.inl (by decide))]
    exact s5.1 o ho'
  · rw [f1 24 l (by omega), f1 8 2 (by omega)]
    exact s5.2 l hl'
  · refine ⟨fun h hh => ?_, fun h h' hh hh' hne => ?_⟩
    · rw [show 30 * o + 3 + h = 30 * o + (3 + h) by omega, h4 _ (ri_no hc (by omega)), show 30 * o + (3 + h) = 30 * o + 3 + h by omega]
      obtain ⟨⟨a1, a2⟩, a3⟩ := (s6 o ho').1 h hh
      exact ⟨⟨(f1 26 _ (by omega)).trans a1, fun k y hy => (f1 27 _ (by omega)).trans (a2 k y hy)⟩, a3⟩
    · rw [show 30 * o + 3 + h = 30 * o + (3 + h) by omega, show 30 * o + 3 + h' = 30 * o + (3 + h') by omega, h4 _ (ri_no hc (by omega)), h4 _ (ri_no hc (by omega)), show 30 * o + (3 + h) = 30 * o + 3 + h by omega, show 30 * o + (3 + h') = 30 * o + 3 + h' by omega]
      exact (s6 o ho').2 h h' hh hh' hne
  · refine ⟨fun o ho' => ?_, fun o o' k k' q1 q2 q3 q4 q5 => ?_⟩
    · obtain ⟨N, n1, n2, n3, n4, n5⟩ := s7.1 o ho'
      refine ⟨N, n1, by rw [h1]; exact n2, (f1 29 o (by omega)).trans n3, fun k hk => ?_, fun k k' q1 q2 q3 => by rw [f1 30 _ (by omega), f1 30 _ (by omega)]; exact n5 k k' q1 q2 q3⟩
      have r := n4 k hk
      rw [h3 18 (by decide) (by decide)]
      have hm : 1 ≤ v.2.1 18 (o + 1) k := r.1.1
      unfold RTE LV at r ⊢
      rw [h1, h2, h3 4 (by decide) (by decide), h4 _ (ri_90 hc hm), f1 30 _ (by omega), f1 34 _ (by omega), f1 31 _ (by omega), f1 32 _ (by omega), f1 33 _ (by omega)]
      simp only [f1 35 _ (Or.inl (by decide))]
      exact r
    · rw [f1 29 o (by omega)] at q3
      rw [f1 29 o' (by omega)] at q4
      rw [h3 18 (by decide) (by decide)] at q5
      exact s7.2 o o' k k' q1 q2 q3 q4 q5
  · rw [h1, f1 43 o (by omega)]
    refine ⟨(s8 o ho').1, fun x hx => ?_⟩
    rw [f1 44 _ (by omega)]
    exact (s8 o ho').2 x hx
  · have e : c' ≠ c := fun z => ne (by rw [z]; exact he)
    refine (s9 c' hc' ne).cg (fun k => by rw [h1]) (fun k => by rw [h1]) (fun k => by rw [h3 1 (by decide) (by decide)]) (by rw [h3 2 (by decide) (by decide)]) (h4 _ (fun z => e (ri_inj hc' hc z))) (fun K hK => f1 K c' ?_) (fun i _ => f1 49 _ (by omega)) (fun k _ => by rw [h3 18 (by decide) (by decide)]) (by rw [f1 29 _ (by omega)]; exact Int.le_refl _)
    simp only [lkd, Bool.or_eq_true, Bool.and_eq_true, Nat.ble_eq, beq_iff_eq] at hK
    omega
theorem rseize_c {F : xF} {c n T K i : Nat} (h : slo T K i) (hT : T ≤ 16) : rseize F c n (Int32.ofNat (cdo K i)) = x_u2 (x_u2 (x_u2 F 64 (16 * c + n) (Int32.ofNat (cdo K i))) 63 c (Int32.ofNat (n + 1))) K i (Int32.ofNat c) := by
  unfold rseize gset
  rw [gp_cdo h hT]
theorem vseize_c {v : vS} {F : xF} {c K i : Nat} (tr : sTR v F) (h : slo (v.2.2.2 6) K i) (hl : (v.2.2.1 (ri c)).length < 8) : vseize v (c + 1) (Int32.ofNat (cdo K i)) = vrw (csu v K i (c + 1)) (ri c) (v.2.2.1 (ri c) ++ [Int32.ofNat (cdo K i)]) := by
  unfold vseize radd
  rw [hset_cdo tr h, show c + 1 - 1 = c from rfl, if_pos hl]
theorem ofN_inj {a b : Nat} (ha : a ≤ 100000) (hb : b ≤ 100000) (h : Int32.ofNat a = Int32.ofNat b) : a = b := by
  have := congrArg Int32.toNatClampNeg h
  rw [(ofN ha).2, (ofN hb).2] at this
  exact this
theorem SX.seize {K i : Nat} (S : SX D E J v F) (hc : c < 72) (he : E c) (hs : slo (v.2.2.2 6) K i) (hid : (F K i).toInt < 0) (hlen : (v.2.2.1 (ri c)).length < 8) : SX D E J (vseize v (c + 1) (Int32.ofNat (cdo K i))) (rseize F c (v.2.2.1 (ri c)).length (Int32.ofNat (cdo K i))) := by
  have hT := S.tr.1
  rw [vseize_c S.tr hs hlen, rseize_c hs hT]
  have hK : K = 36 ∨ K = 37 ∨ K = 38 ∨ K = 41 := by unfold slo at hs; omega
  have oc := ofN (n := c) (by omega)
  refine S.hold hc he csu_i.1 (csu_n) (fun K' a b => csu_r a b) (fun r hr => ?_) (fun K' i' h => ?_) (fun j hj => ?_) (fun j hj => ?_) (fun K' i' h => ?_) ?_ (fun c' K' i' h1 h2 h3 h4 => ?_)
  · show x_u1 (csu v K i (c + 1)).2.2.1 (ri c) _ r = _
    unfold x_u1
    rw [if_neg hr, csu_i.2]
  · rw [u2_ne (by omega), u2_ne (by omega), u2_ne (by omega)]
  · rw [u2_ne (by omega), u2_ni hj, u2_ne (by decide)]
  · rw [u2_ne (by omega), u2_ne (by decide), u2_ni (by omega)]
  · have e6 : (vrw (csu v K i (c + 1)) (ri c) (v.2.2.1 (ri c) ++ [Int32.ofNat (cdo K i)])).2.2.2 = v.2.2.2 := csu_n
    rw [e6] at h ⊢
    refine ⟨fun h => ?_, fun h9 => ?_⟩
    rotate_left
    · rw [show x_u2 _ K i (Int32.ofNat c) K' i' = _ from if_neg (fun z => h9 (by rw [z.1, z.2]; exact hs)), u2_ne (by unfold slq slo at h; omega), u2_ne (by unfold slq slo at h; omega)]; exact (S.2.1 K' i' h).2 h9
    refine ⟨?_, fun c' hc' e' => ?_⟩
    · show (cs (csu v K i (c + 1)) K' i' : Int) = _ ∧ _
      rw [cs_csu hs h]
      by_cases e : K' = K ∧ i' = i
      · rw [if_pos e, e.1, e.2, u2_eq]
        omega
      · rw [if_neg e, show x_u2 _ K i (Int32.ofNat c) K' i' = _ from if_neg e, u2_ne (by unfold slo at h; omega), u2_ne (by unfold slo at h; omega)]
        exact S.hd K' i' h
    · show _ ∈ x_u1 (csu v K i (c + 1)).2.2.1 (ri c) (v.2.2.1 (ri c) ++ [Int32.ofNat (cdo K i)]) (ri c')
      unfold x_u1
      by_cases e : K' = K ∧ i' = i
      · rw [e.1, e.2, u2_eq] at e'
        rw [ofN_inj (by omega) (by omega) e', if_pos rfl, e.1, e.2]
        exact List.mem_append_right _ (List.mem_singleton.mpr rfl)
      · rw [show x_u2 _ K i (Int32.ofNat c) K' i' = _ from if_neg e, u2_ne (by unfold slo at h; omega), u2_ne (by unfold slo at h; omega)] at e'
        have hm := S.hc h hc' e'
        by_cases q : c' = c
        · rw [q, if_pos rfl]
          rw [q] at hm
          exact List.mem_append_left _ hm
        · rw [if_neg (fun z => q (ri_inj hc' hc z)), csu_i.2]
          exact hm
  · obtain ⟨⟨a1, a2⟩, a3, a4⟩ := S.hl hc
    have er : (vrw (csu v K i (c + 1)) (ri c) (v.2.2.1 (ri c) ++ [Int32.ofNat (cdo K i)])).2.2.1 (ri c) = v.2.2.1 (ri c) ++ [Int32.ofNat (cdo K i)] := if_pos rfl
    have e6 : (vrw (csu v K i (c + 1)) (ri c) (v.2.2.1 (ri c) ++ [Int32.ofNat (cdo K i)])).2.2.2 = v.2.2.2 := csu_n
    unfold HLD LV
    rw [er, e6]
    generalize v.2.2.1 (ri c) = l at a1 a2 a3 a4 hlen
    refine ⟨⟨?_, fun k y hy => ?_⟩, by rw [List.length_append]; show l.length + 1 ≤ 8; omega, fun y hy => ?_⟩
    · rw [u2_ne (by omega), u2_eq, List.length_append]
      rfl
    · rw [u2_ne (by omega), u2_ne (by decide)]
      by_cases q : k < l.length
      · rw [List.getElem?_append_left q] at hy
        rw [u2_ni (by omega)]
        exact a2 k y hy
      · have hk : k = l.length := by
          have := (List.getElem?_eq_some_iff.mp hy).1
          rw [List.length_append] at this
          have : k < l.length + 1 := this
          omega
        subst hk
        rw [List.getElem?_append_right (Nat.le_refl _), Nat.sub_self] at hy
        rw [u2_eq]
        simpa using hy
    · rcases List.mem_append.mp hy with q | q
      · obtain ⟨K', i', b1, b2, b3⟩ := a4 y q
        refine ⟨K', i', b1, b2, ?_⟩
        have ne : ¬ (K' = K ∧ i' = i) := by
          rintro ⟨rfl, rfl⟩
          rw [b3, oc.1] at hid
          omega
        rw [show x_u2 _ K i (Int32.ofNat c) K' i' = _ from if_neg ne, u2_ne (by unfold slo at b1; omega), u2_ne (by unfold slo at b1; omega)]
        exact b3
      · rw [List.mem_singleton] at q
        exact ⟨K, i, hs, q, u2_eq⟩
  · have ne : ¬ (K' = K ∧ i' = i) := by
      rintro ⟨rfl, rfl⟩
      rw [h4, (ofN (n := c') (by omega)).1] at hid
      omega
    rw [show x_u2 _ K i (Int32.ofNat c) K' i' = _ from if_neg ne, u2_ne (by unfold slo at h3; omega), u2_ne (by unfold slo at h3; omega)]
    exact h4
/-- releasing what is held -/
theorem SX.rel {K i : Nat} (S : SX D E J v F) (hc : c < 72) (he : E c) (hs : slo (v.2.2.2 6) K i) (hm : Int32.ofNat (cdo K i) ∈ v.2.2.1 (ri c)) (R : RE F c (Int32.ofNat (cdo K i)) (v.2.2.1 (ri c)) F') : SX D E J (vrel v (c + 1) (Int32.ofNat (cdo K i))) F' := by
  have hT := S.tr.1
  have ev : vrel v (c + 1) (Int32.ofNat (cdo K i)) = vrw (csu v K i 0) (ri c) (rdel (v.2.2.1 (ri c)) (Int32.ofNat (cdo K i))) := by
    unfold vrel
    rw [hset_cdo S.tr hs]
    rfl
  obtain ⟨r1, r2, r3, r4⟩ := R
  have hK : K = 36 ∨ K = 37 ∨ K = 38 ∨ K = 41 := by unfold slo at hs; omega
  have hF : ∀ K' i', K' ≠ 63 → K' ≠ 64 → F' K' i' = if K' = K ∧ i' = i then -1 else F K' i' := by
    intro K' i' h1 h2
    rw [r1 K' i' h1 h2]
    unfold gset
    rw [gp_cdo hs hT]
    rfl
  have hold : F K i = Int32.ofNat c := by
    obtain ⟨K', i', b1, b2, b3⟩ := (S.hl hc).2.2 _ hm
    have l1 := cdo_le hs hT
    have l2 := cdo_le b1 hT
    obtain ⟨rfl, rfl⟩ := cdo_inj hs b1 (ofN_inj (by omega) (by omega) b2)
    exact b3
  rw [ev]
  refine S.hold hc he csu_i.1 (csu_n) (fun K' a b => csu_r a b) (fun r hr => ?_) (fun K' i' h => ?_) (fun j hj => r2 j hj) (fun j hj => r3 j hj) (fun K' i' h => ?_) ?_ (fun c' K' i' h1 h2 h3 h4 => ?_)
  · show x_u1 (csu v K i 0).2.2.1 (ri c) _ r = _
    unfold x_u1
    rw [if_neg hr, csu_i.2]
  · rw [hF K' i' (by omega) (by omega), if_neg (by omega)]
  · have e6 : (vrw (csu v K i 0) (ri c) (rdel (v.2.2.1 (ri c)) (Int32.ofNat (cdo K i)))).2.2.2 = v.2.2.2 := csu_n
    rw [e6] at h ⊢
    refine ⟨fun h => ?_, fun h9 => ?_⟩
    rotate_left
    · rw [hF K' i' (by unfold slq slo at h; omega) (by unfold slq slo at h; omega), if_neg (fun z => h9 (by rw [z.1, z.2]; exact hs))]; exact (S.2.1 K' i' h).2 h9
    refine ⟨?_, fun c' hc' e' => ?_⟩
    · show (cs (csu v K i 0) K' i' : Int) = _ ∧ _
      rw [cs_csu hs h, hF K' i' (by unfold slo at h; omega) (by unfold slo at h; omega)]
      by_cases e : K' = K ∧ i' = i
      · rw [if_pos e, if_pos e]
        decide
      · rw [if_neg e, if_neg e]
        exact S.hd K' i' h
    · rw [hF K' i' (by unfold slo at h; omega) (by unfold slo at h; omega)] at e'
      show _ ∈ x_u1 (csu v K i 0).2.2.1 (ri c) (rdel (v.2.2.1 (ri c)) (Int32.ofNat (cdo K i))) (ri c')
      unfold x_u1
      by_cases e : K' = K ∧ i' = i
      · rw [if_pos e] at e'
        have := congrArg Int32.toInt e'
        rw [(ofN (n := c') (by omega)).1] at this
        exact absurd (show (-1 : Int) = c' from this) (by omega)
      · rw [if_neg e] at e'
        have hm := S.hc h hc' e'
        by_cases q : c' = c
        · rw [q, if_pos rfl]
          rw [q] at hm
          have l1 := cdo_le hs hT
          have l2 := cdo_le h hT
          exact mem_rdel.mpr ⟨hm, fun z => e (cdo_inj h hs (ofN_inj (by omega) (by omega) z))⟩
        · rw [if_neg (fun z => q (ri_inj hc' hc z)), csu_i.2]
          exact hm
  · obtain ⟨⟨a1, a2⟩, a3, a4⟩ := S.hl hc
    have er : (vrw (csu v K i 0) (ri c) (rdel (v.2.2.1 (ri c)) (Int32.ofNat (cdo K i)))).2.2.1 (ri c) = rdel (v.2.2.1 (ri c)) (Int32.ofNat (cdo K i)) := if_pos rfl
    have e6 : (vrw (csu v K i 0) (ri c) (rdel (v.2.2.1 (ri c)) (Int32.ofNat (cdo K i)))).2.2.2 = v.2.2.2 := csu_n
    unfold HLD
    rw [er, e6]
    refine ⟨r4, Nat.le_trans (List.length_filter_le _ _) a3, fun y hy => ?_⟩
    obtain ⟨q1, q2⟩ := mem_rdel.mp hy
    obtain ⟨K', i', b1, b2, b3⟩ := a4 y q1
    refine ⟨K', i', b1, b2, ?_⟩
    rw [hF K' i' (by unfold slo at b1; omega) (by unfold slo at b1; omega), if_neg]
    · exact b3
    · rintro ⟨rfl, rfl⟩
      exact q2 b2
  · rw [hF K' i' (by unfold slo at h3; omega) (by unfold slo at h3; omega), if_neg]
    · exact h4
    · rintro ⟨rfl, rfl⟩
      rw [hold] at h4
      exact h2 (ofN_inj (by omega) (by omega) h4).symm
/-- all that a call holds -/
theorem vclr_c {v : vS} {F : xF} (tr : sTR v F) : ∀ (l : List Int32) (w : vS), w.1 = v.1 → w.2.2 = v.2.2 → (∀ K9, K9 ≠ 17 → K9 ≠ 6 → w.2.1 K9 = v.2.1 K9) → (∀ x ∈ l, ∃ K i, slo (v.2.2.2 6) K i ∧ x = Int32.ofNat (cdo K i)) → (∀ K' i', slo (v.2.2.2 6) K' i' → cs (vclr w l) K' i' = if Int32.ofNat (cdo K' i') ∈ l then 0 else cs w K' i') ∧ (∀ K9, K9 ≠ 17 → K9 ≠ 6 → (vclr w l).2.1 K9 = v.2.1 K9)
  | [], w, _, _, h3, _ => ⟨fun K' i' _ => by rw [if_neg (by simp)]; rfl, h3⟩
  | x :: l, w, h1, h2, h3, h => by
    obtain ⟨K, i, hs, rfl⟩ := h x List.mem_cons_self
    have e6 : w.2.2.2 = v.2.2.2 := congrArg Prod.snd h2
    have trw : sTR w F := by
      unfold sTR at tr ⊢
      rw [h1, e6, h3 13 (by decide) (by decide)]
      exact tr
    have eh : hset w (Int32.ofNat (cdo K i)) 0 = csu w K i 0 := hset_cdo trw (by rw [e6]; exact hs)
    have ih := vclr_c tr l (csu w K i 0) (csu_i.1.trans h1) (csu_i.2.trans h2) (fun K9 a b => (csu_r a b).trans (h3 K9 a b)) (fun y hy => h y (List.mem_cons_of_mem _ hy))
    show (∀ K' i', slo (v.2.2.2 6) K' i' → cs (vclr (hset w (Int32.ofNat (cdo K i)) 0) l) K' i' = _) ∧ ∀ K9, K9 ≠ 17 → K9 ≠ 6 → (vclr (hset w (Int32.ofNat (cdo K i)) 0) l).2.1 K9 = v.2.1 K9
    rw [eh]
    refine ⟨fun K' i' hs' => ?_, ih.2⟩
    rw [ih.1 K' i' hs', cs_csu hs hs']
    have hT := tr.1
    have l1 := cdo_le hs hT
    have l2 := cdo_le hs' hT
    by_cases e : K' = K ∧ i' = i
    · rw [if_pos e, e.1, e.2, ite_self, if_pos List.mem_cons_self]
    · rw [if_neg e]
      have ne : ¬ Int32.ofNat (cdo K' i') = Int32.ofNat (cdo K i) := fun z => e (cdo_inj hs' hs (ofN_inj (by omega) (by omega) z))
      by_cases q : Int32.ofNat (cdo K' i') ∈ l
      · rw [if_pos q, if_pos (List.mem_cons_of_mem _ q)]
      · rw [if_neg q, if_neg (fun z => (List.mem_cons.mp z).elim ne q)]
theorem SX.clr (S : SX D E J v F) (hc : c < 72) (he : E c) (R : EL F c (v.2.2.1 (ri c)) F') : SX D E J (vend0 v (c + 1)) F' := by
  have hT := S.tr.1
  obtain ⟨a1, a3, a4⟩ := S.hl hc
  have hv := vclr_c S.tr (v.2.2.1 (ri c)) v rfl rfl (fun _ _ _ => rfl) (fun x hx => by obtain ⟨K, i, b1, b2, -⟩ := a4 x hx; exact ⟨K, i, b1, b2⟩)
  have hi := vclr_i (v := v) (l := v.2.2.1 (ri c))
  have hn : (vclr v (v.2.2.1 (ri c))).2.2.2 = v.2.2.2 := congrArg Prod.snd hi.2
  obtain ⟨r1, r2, r3, r4, r5⟩ := R
  have hF : ∀ K' i', slo (v.2.2.2 6) K' i' → F' K' i' = if Int32.ofNat (cdo K' i') ∈ v.2.2.1 (ri c) then -1 else F K' i' := by
    intro K' i' hs
    have g := gp_cdo hs hT
    by_cases q : Int32.ofNat (cdo K' i') ∈ v.2.2.1 (ri c)
    · rw [if_pos q]
      have := r1 _ q
      rw [g] at this
      exact this
    · rw [if_neg q]
      refine r2 K' i' (by unfold slo at hs; omega) (by unfold slo at hs; omega) (fun x hx z => q ?_)
      obtain ⟨K, i, b1, b2, -⟩ := a4 x hx
      rw [b2, gp_cdo b1 hT] at z
      obtain ⟨rfl, rfl⟩ := Prod.mk.inj z
      rw [← b2]; exact hx
  have er : (vend0 v (c + 1)).2.2.1 (ri c) = [] := if_pos rfl
  refine S.hold hc he hi.1 hn hv.2 (fun r hr => ?_) (fun K' i' h => ?_) r3 r4 (fun K' i' h => ?_) ?_ (fun c' K' i' h1 h2 h3 h4 => ?_)
  · show x_u1 (vclr v (v.2.2.1 (ri c))).2.2.1 (ri c) _ r = _
    unfold x_u1
    rw [if_neg hr, hi.2]
  · refine r2 K' i' (by omega) (by omega) (fun x hx z => ?_)
    have := gp_k (x := x)
    obtain ⟨K, i, b1, b2, -⟩ := a4 x hx
    rw [b2, gp_cdo b1 hT] at z
    obtain ⟨rfl, rfl⟩ := Prod.mk.inj z
    unfold slo at b1
    omega
  · have e6 : (vend0 v (c + 1)).2.2.2 = v.2.2.2 := hn
    rw [e6] at h ⊢
    refine ⟨fun h => ?_, fun h9 => ?_⟩
    rotate_left
    · rw [r2 K' i' (by unfold slq slo at h; omega) (by unfold slq slo at h; omega) (fun x hx z => by obtain ⟨K, i, b1, b2, -⟩ := a4 x hx; rw [b2, gp_cdo b1 hT] at z; obtain ⟨rfl, rfl⟩ := Prod.mk.inj z; exact h9 b1)]; exact (S.2.1 K' i' h).2 h9
    refine ⟨?_, fun c' hc' e' => ?_⟩
    · show (cs (vclr v (v.2.2.1 (ri c))) K' i' : Int) = _ ∧ _
      rw [hv.1 K' i' h, hF K' i' h]
      by_cases q : Int32.ofNat (cdo K' i') ∈ v.2.2.1 (ri c)
      · rw [if_pos q, if_pos q]; decide
      · rw [if_neg q, if_neg q]; exact S.hd K' i' h
    · rw [hF K' i' h] at e'
      by_cases q : Int32.ofNat (cdo K' i') ∈ v.2.2.1 (ri c)
      · rw [if_pos q] at e'
        have := congrArg Int32.toInt e'
        rw [(ofN (n := c') (by omega)).1] at this
        exact absurd (show (-1 : Int) = c' from this) (by omega)
      · rw [if_neg q] at e'
        have hm := S.hc h hc' e'
        show _ ∈ x_u1 (vclr v (v.2.2.1 (ri c))).2.2.1 (ri c) [] (ri c')
        unfold x_u1
        rw [if_neg (fun z => q (by rw [← ri_inj hc' hc z]; exact hm)), hi.2]
        exact hm
  · unfold HLD LV
    rw [er]
    exact ⟨⟨r5, fun k x hx => by simp at hx⟩, Nat.zero_le _, fun x hx => by simp at hx⟩
  · rw [hF K' i' h3, if_neg]
    · exact h4
    · intro q
      obtain ⟨K, i, b1, b2, b3⟩ := a4 _ q
      have l1 := cdo_le h3 hT
      have l2 := cdo_le b1 hT
      obtain ⟨rfl, rfl⟩ := cdo_inj h3 b1 (ofN_inj (by omega) (by omega) b2)
      rw [b3] at h4
      exact h2 (ofN_inj (by omega) (by omega) h4).symm
end XSH
