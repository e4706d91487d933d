/-! BOTH SIDES AT THE START -/
def v0 (h : xH) : vS := (x_vi h, x_vr h, fun _ => [], x_cn h)
section XST
variable {h : xH} {F : xF}
theorem row9 (n1 : ∀ o', o' < 3 → OC h o') (n2 : ∀ i, i < 72 → CC h i) {r : Nat} (h1 : 1 ≤ r) (h2 : r ≤ 90) : RW h r r (cap r) := by
  by_cases e : (r - 1) % 30 < 6
  · have q := (n1 ((r - 1) / 30) (by omega)).2.2.2.2.1 ((r - 1) % 30) e
    rw [show 30 * ((r - 1) / 30) + 1 + (r - 1) % 30 = r by omega] at q
    have ec : cap r = rz ((r - 1) % 30) := by
      unfold cap rz
      rw [if_neg (by omega)]
      split
      · rfl
      · split
        · rfl
        · rfl
    rw [ec]
    exact q
  · have q := (n2 (24 * ((r - 1) / 30) + ((r - 1) % 30 - 6)) (by omega)).2.2.2.2.2.2.2
    rw [show ri (24 * ((r - 1) / 30) + ((r - 1) % 30 - 6)) = r by unfold ri; omega] at q
    have ec : cap r = 8 := by
      unfold cap
      rw [if_neg (by omega), if_neg (by omega), if_neg (by omega), if_neg e]
    rw [ec]
    exact q
theorem CR.start (hC : CI h) (hni : NS 3 72 h) (hct : ∀ K, ck K → x_cn h K = ct_c K 3 72) : CR (v0 h) h := by
  obtain ⟨n1, n2, n3⟩ := hni
  have c5 : x_cn h 5 = 90 := hct 5 (by unfold ck; omega)
  have rw9 : ∀ r, x_live h 5 r → RW h r r (cap r) := fun r l => row9 n1 n2 l.1 (by rw [← c5]; exact l.2)
  refine ⟨⟨fun _ _ => rfl, fun _ _ _ _ => rfl, fun _ _ _ _ => rfl, hC.2.2.2.1, fun r l => ⟨(rw9 r l).1, (rw9 r l).2.2.2⟩, ⟨hct 1 (by unfold ck; omega), hct 2 (by unfold ck; omega), hct 3 (by unfold ck; omega), hct 7 (by unfold ck; omega), fun K q1 q2 => ?_, fun K q1 q2 => ?_⟩, fun o ho => ?_, fun c hc => ?_, fun k hk => ?_⟩, fun r l => ⟨(rw9 r l).2.1, Nat.zero_le _, fun i x hx => by cases hx⟩⟩
  · rw [show (v0 h).2.2.2 K = _ from hct K (by unfold ck; omega)]
    unfold ct_c
    rw [if_neg (by omega), if_neg (by omega), if_neg (by omega), if_neg (by omega), if_neg (by omega), if_neg (by omega), if_pos (by omega)]
  · rw [show (v0 h).2.2.2 K = _ from hct K (by unfold ck; omega)]
    unfold ct_c
    rw [if_neg (by omega), if_neg (by omega), if_neg (by omega), if_neg (by omega), if_neg (by omega), if_neg (by omega), if_neg (by omega)]
    split
    · rfl
    · rw [if_pos (by omega)]
  · obtain ⟨a1, ⟨b1, b2, b3, b4, b5, b6, b7, b8, b9⟩, a3, a4, a5, a6, a7⟩ := n1 o ho
    refine ⟨a1, fun k k1 k2 => ?_, b5, b6, b7, fun n hn => (a7 n hn).1, a6, (n3.2 o ho).1⟩
    rcases (show k = 1 ∨ k = 2 ∨ k = 3 ∨ k = 4 by omega) with rfl | rfl | rfl | rfl
    · exact b1
    · exact b2
    · exact b3
    · exact b4
  · obtain ⟨a1, a2, a3, -⟩ := n2 c hc
    have q := ((n1 (c / 24) (by omega)).2.2.2.2.2.2 (c % 24) (by omega)).2
    rw [show 24 * (c / 24) + c % 24 + 1 = c + 1 by omega] at q
    exact ⟨a1, a2, a3, q.1, q.2.1⟩
  · have l7 : x_live h 7 1 := ⟨Nat.le_refl _, by rw [hct 7 (by unfold ck; omega)]; decide⟩
    have q : ∀ k, (7, k) ∈ x_nnl → x_ft 7 k = 11 + k → k < 4 → x_vr h 7 k 1 = 1 := fun k hm he hk => by
      have w := hC.1 7 k 1 hm l7
      rw [he] at w
      have e : x_cn h (11 + k) = 1 := by
        rw [hct (11 + k) (by unfold ck; omega)]
        unfold ct_c
        rw [if_neg (by omega), if_neg (by omega), if_neg (by omega), if_neg (by omega), if_neg (by omega), if_neg (by omega), if_pos (by omega)]
      have w1 := w.1
      have w2 := w.2
      rw [e] at w2
      omega
    rcases (show k = 0 ∨ k = 1 ∨ k = 2 ∨ k = 3 by omega) with rfl | rfl | rfl | rfl
    · exact q 0 (by decide) (by decide) hk
    · exact q 1 (by decide) (by decide) hk
    · exact q 2 (by decide) (by decide) hk
    · exact q 3 (by decide) (by decide) hk
theorem Sim.start {D : Int} (hC : CI h) (hni : NS 3 72 h) (hct : ∀ K, ck K → x_cn h K = ct_c K 3 72) (z : ZG (bz 72 36 15 9 16) F) : Sim D (v0 h) F := by
  obtain ⟨n1, n2, n3⟩ := hni
  have c6 : (v0 h).2.2.2 6 = 0 := hct 6 (by unfold ck; omega)
  have z0 : ∀ K i, ¬ zk K → F K i = 0 := fun K i hK => i32_eq.mpr (z.1.z hK)
  have zl : ∀ K, K = 24 ∨ K = 28 ∨ K = 57 → ∀ c, c < 72 → F K c = -1 := fun K hK c hc => z.2 K c (by unfold zk; omega) (by unfold bz; rw [if_neg (by omega), if_neg (by omega), if_neg (by omega), if_neg (by omega)]; omega)
  have m1 : (-1 : Int32).toInt = -1 := rfl
  have no : ∀ n, n < 100 → ¬ (-1 : Int32) = Int32.ofNat n := fun n hn e => by
    have := (ofN (n := n) (by omega)).1
    rw [← e, m1] at this
    omega
  have h74 : x_vi h 7 4 1 = 0 := by
    have l7 : x_live h 7 1 := ⟨Nat.le_refl _, by rw [hct 7 (by unfold ck; omega)]; decide⟩
    have q := hC.2.2.1 7 4 0 16 1 (by decide) l7
    refine i32_eq.mpr ?_
    rw [i32_0]
    refine Classical.byContradiction fun hne => ?_
    have w := (hC.2.2.2.2.2.2.2.1 1 0 l7 (by omega)).2
    rw [hct 6 (by unfold ck; omega), show ct_c 6 3 72 = 0 from rfl] at w
    have w1 := (hC.2.2.2.2.2.2.2.1 1 0 l7 (by omega)).1
    omega
  refine ⟨⟨⟨by omega, by rw [c6]; exact h74, by rw [c6]; exact z0 8 20 (by unfold zk; omega), fun t ht => absurd ht (by omega)⟩, fun K i hq => ?_, fun c hc => ⟨⟨z0 63 c (by unfold zk; omega), fun k x hx => by cases hx⟩, Nat.zero_le _, fun x hx => by cases hx⟩, fun o ho => ⟨⟨z0 45 o (by unfold zk; omega), fun k x hx => by cases hx⟩, List.nodup_nil, Nat.zero_le _, fun x hx => by cases hx⟩, ⟨fun o ho => ⟨fun x hx => (by cases hx), fun n hn hp => ?_, List.Pairwise.nil⟩, fun l hl => ?_⟩, fun o ho => ⟨fun k hk => ⟨⟨z0 26 _ (by unfold zk; omega), fun k x hx => by cases hx⟩, Nat.zero_le _, fun x hx => by cases hx⟩, fun k k' _ _ _ x hx => by cases hx⟩, ⟨fun o ho => ⟨0, Nat.zero_le _, ?_, z0 29 o (by unfold zk; omega), fun k hk => absurd hk (by omega), fun k k' hk => absurd hk (by omega)⟩, fun o o' k k' ho ho' hk => absurd hk (by rw [z0 29 o (by unfold zk; omega), i32_0]; omega)⟩, fun o ho => ?_, fun c hc _ => ?_⟩, fun c l hc hl => ?_, fun c hc h5 => absurd h5 (by rw [z0 47 c (by unfold zk; omega)]; decide)⟩
  · rw [c6] at hq ⊢
    have hK : K = 36 ∨ K = 37 ∨ K = 38 ∨ K = 41 ∨ K = 42 := by unfold slq slo at hq; omega
    refine ⟨fun hs => ?_, fun hs => ?_⟩
    · have e : F K i = -1 := z.2 K i (by unfold zk slo at *; omega) (by
        unfold slo at hs
        rcases hs with ⟨rfl, hs⟩ | ⟨rfl, hs⟩ | ⟨rfl, hs⟩ | ⟨rfl, hs⟩
        · show (i : Int) < 36; omega
        · show (i : Int) < 15; omega
        · show (i : Int) < 9; omega
        · omega)
      rw [e]
      refine ⟨⟨?_, by decide⟩, fun c hc y => absurd y (no c (by omega))⟩
      have ec : cs (v0 h) K i = 0 := by
        unfold cs
        unfold slo at hs
        rcases hs with ⟨rfl, hs⟩ | ⟨rfl, hs⟩ | ⟨rfl, hs⟩ | ⟨rfl, hs⟩
        · rw [if_pos rfl]; exact (n1 (i / 12) (by omega)).2.2.1 _
        · rw [if_neg (by decide), if_pos rfl]; exact (n1 (i / 5) (by omega)).2.2.1 _
        · rw [if_neg (by decide), if_neg (by decide), if_pos rfl]; exact (n1 (i / 3) (by omega)).2.2.1 _
        · omega
      rw [ec]
      rfl
    · have h4 : (K = 41 ∨ K = 42) ∧ i < 16 := by unfold slq at hq; rcases hq with w | w; exact absurd w hs; omega
      rcases h4 with ⟨rfl | rfl, hi⟩
      · rw [if_pos rfl]
        exact z.2 41 i (by unfold zk; omega) (by show (i : Int) < 16; omega)
      · rw [if_neg (by decide)]
        exact z0 42 i (by unfold zk; omega)
  · rw [zl 24 (by omega) _ (by omega), m1] at hp
    omega
  · rw [zl 24 (by omega) l hl, z0 8 2 (by unfold zk; omega), m1, i32_0]
    decide
  · exact (n1 o ho).2.1.2.2.2.2.2.2.2.1
  · refine ⟨⟨?_, ?_⟩, fun x hx => ?_⟩
    · rw [z0 43 o (by unfold zk; omega)]
      exact (n1 o ho).2.1.2.2.2.2.2.2.2.2
    · rw [z0 43 o (by unfold zk; omega)]
      decide
    · rw [z0 44 _ (by unfold zk; omega)]
      exact (n3.2 o ho).2 x
  · obtain ⟨a1, a2, a3, a4, a5, a6, a7, -⟩ := n2 c hc
    have q := ((n1 (c / 24) (by omega)).2.2.2.2.2.2 (c % 24) (by omega)).2
    rw [show 24 * (c / 24) + c % 24 + 1 = c + 1 by omega] at q
    obtain ⟨-, -, q3, q4, q5, q6⟩ := q
    have f : ∀ K, ¬ zk K → F K c = 0 := fun K hK => z0 K c hK
    have f47 := f 47 (by unfold zk; omega)
    have f23 := f 23 (by unfold zk; omega)
    have f22 := f 22 (by unfold zk; omega)
    have f24 := zl 24 (by omega) c hc
    have f28 := zl 28 (by omega) c hc
    have f57 := zl 57 (by omega) c hc
    have ai : ∀ k, (v0 h).1 1 k (c + 1) = 0 := a7
    unfold PLr
    rw [f47, f22, f23, f24, f28, f57, f 25 (by unfold zk; omega), f 55 (by unfold zk; omega), f 52 (by unfold zk; omega), f 56 (by unfold zk; omega), f 61 (by unfold zk; omega), ai 5, ai 8, ai 11, ai 12, ai 13, show (v0 h).2.1 1 2 (c + 1) = 1 from a4, show (v0 h).1 2 2 (c + 1) = 0 from q3, show (v0 h).1 2 3 (c + 1) = 0 from q4, show (v0 h).1 2 4 (c + 1) = 0 from q5, show (v0 h).2.1 2 5 (c + 1) = 0 from q6, show (v0 h).2.1 1 3 (c + 1) = 0 from a5]
    have t0 : tnF F c = 0 := by
      unfold tnF
      rw [f47, f23, if_neg (fun w => absurd w.1 (by decide)), if_neg (by decide)]
    rw [t0]
    refine ⟨⟨rfl, by decide, by decide⟩, ⟨rfl, rfl, rfl⟩, ⟨rfl, by decide, by decide⟩, ⟨rfl, by decide⟩, rfl, ⟨rfl, rfl, rfl, rfl⟩, fun _ => ⟨by decide, rfl⟩, ⟨by decide, fun w => absurd w (by decide)⟩, fun w => absurd rfl w, fun w => absurd w (by decide), fun w => absurd rfl w, fun w => absurd w (by decide), fun w => absurd w (by decide), fun w => absurd w (by decide), fun w => absurd w (by decide), fun w => absurd w (by decide), fun w => absurd w (by decide), fun w => absurd w (by decide)⟩
  · rw [zl 57 (by omega) c hc, zl 28 (by omega) l hl]
    exact ⟨fun w => absurd w (no l (by omega)), fun w => absurd w (no c (by omega))⟩
end XST
