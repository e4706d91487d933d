/-! A CALL SENT ON -/
theorem bit_all : ∀ x : Fin 8, ∀ n : Fin 3, ((Int32.ofNat x.1 >>> (Int32.ofNat n.1 &&& 31)) &&& 1 = 1 ↔ hbit (Int32.ofNat x.1) n.1) ∧ (¬ (Int32.ofNat x.1 >>> (Int32.ofNat n.1 &&& 31)) &&& 1 = 0 ↔ hbit (Int32.ofNat x.1) n.1) ∧ (¬ hbit (Int32.ofNat x.1) n.1 → mpop (Int32.ofNat x.1 ||| (1 <<< (Int32.ofNat n.1 &&& 31))).toInt = mpop (Int32.ofNat x.1).toInt + 1) ∧ 0 ≤ (Int32.ofNat x.1 ||| (1 <<< (Int32.ofNat n.1 &&& 31))).toInt ∧ (Int32.ofNat x.1 ||| (1 <<< (Int32.ofNat n.1 &&& 31))).toInt ≤ 7 ∧ hbit (Int32.ofNat x.1 ||| (1 <<< (Int32.ofNat n.1 &&& 31))) n.1 ∧ ∀ m : Fin 3, hbit (Int32.ofNat x.1) m.1 → hbit (Int32.ofNat x.1 ||| (1 <<< (Int32.ofNat n.1 &&& 31))) m.1 := by
  unfold hbit
  decide
theorem bits {A : Int32} {n : Nat} (h : 0 ≤ A.toInt ∧ A.toInt ≤ 7) (hn : n < 3) : ((A >>> (Int32.ofNat n &&& 31)) &&& 1 = 1 ↔ hbit A n) ∧ (¬ (A >>> (Int32.ofNat n &&& 31)) &&& 1 = 0 ↔ hbit A n) ∧ (¬ hbit A n → mpop (A ||| (1 <<< (Int32.ofNat n &&& 31))).toInt = mpop A.toInt + 1) ∧ 0 ≤ (A ||| (1 <<< (Int32.ofNat n &&& 31))).toInt ∧ (A ||| (1 <<< (Int32.ofNat n &&& 31))).toInt ≤ 7 ∧ hbit (A ||| (1 <<< (Int32.ofNat n &&& 31))) n ∧ ∀ m, m < 3 → hbit A m → hbit (A ||| (1 <<< (Int32.ofNat n &&& 31))) m := by
  obtain ⟨x, hx, rfl⟩ : ∃ x, x < 8 ∧ A = Int32.ofNat x := ⟨A.toInt.toNat, by omega, i32_eq.mpr (by rw [(ofN (n := A.toInt.toNat) (by omega)).1]; omega)⟩
  obtain ⟨a1, a2, a3, a4, a5, a6, a7⟩ := bit_all ⟨x, hx⟩ ⟨n, hn⟩
  exact ⟨a1, a2, a3, a4, a5, a6, fun m hm => a7 ⟨m, hm⟩⟩
theorem vseize_q {v : vS} {j k j' : Nat} {x y : Int32} : vseize (vpi v 1 k j' y) j x = vpi (vseize v j x) 1 k j' y := by
  unfold vseize hset
  split
  · rename_i h1
    rw [show ((vpi v 1 k j' y).1 7 4 1) = v.1 7 4 1 from (show x_u3 v.1 1 k j' y 7 4 1 = v.1 7 4 1 from u3_ne (fun z _ => absurd z (by decide)))]
    split <;> rfl
  · split <;> rfl
section XST
variable {D : Int} {v w : vS} {F G : xF} {c n q : Nat}
theorem KP.sent (S0 : Sim D v F) (S : SX D (fun y => y = c) (fun y => y = c) w G) (K : KP v F w G) (hc : c < 72) (h47 : F 47 c = 2) (hn : n < 3) (hnb : ¬ hbit (F 55 c) n) (hq : q < 3) (h48 : 1 ≤ (F 48 c).toInt) (hrow : ∃ L, w.2.2.1 (ri c) = v.2.2.1 (ri c) ++ L ∧ L.length ≤ 3) (hm : Int32.ofNat (cdo 38 (3 * n + q)) ∈ w.2.2.1 (ri c)) : Sim D (vpr (vpi (vpi (vpi (vpi w 1 10 (c + 1) (Int32.ofNat (cdo 38 (3 * n + q)))) 1 7 (c + 1) (Int32.ofNat n)) 1 8 (c + 1) (F 55 c ||| (1 <<< (Int32.ofNat n &&& 31)))) 1 11 (c + 1) (F 48 c)) 1 2 (c + 1) 4) (x_u2 (x_u2 (x_u2 (x_u2 (x_u2 G 55 c (F 55 c ||| (1 <<< (Int32.ofNat n &&& 31)))) 47 c 3) 52 c (F 48 c)) 53 c (Int32.ofNat n)) 54 c (Int32.ofNat q)) := by
  have k0 := K.2.2.2
  have he : c = c := rfl
  have S2 := (((((((((S.vi1 he (k := 10) (x := Int32.ofNat (cdo 38 (3 * n + q)))).vi1 he (k := 7) (x := Int32.ofNat n)).vi1 he (k := 8) (x := F 55 c ||| (1 <<< (Int32.ofNat n &&& 31)))).vi1 he (k := 11) (x := F 48 c)).vr1 he (k := 2) (y := 4)).f he he (K := 55) (x := F 55 c ||| (1 <<< (Int32.ofNat n &&& 31))) rfl).f he he (K := 47) (x := 3) rfl).f he he (K := 52) (x := F 48 c) rfl).f he he (K := 53) (x := Int32.ofNat n) rfl).f he he (K := 54) (x := Int32.ofNat q) rfl
  obtain ⟨p1, p2, p3, p4, p5, p6, p7, p8, p9, p10, p11, p12, p13, p14, p15, p16, p17, p18⟩ := S0.pl hc
  obtain ⟨c1, ⟨c2, c3⟩, c4, c5, c6, c7⟩ := p11 (by rw [h47]; decide)
  obtain ⟨d1, d2, d3, r, d4, d5, d6, d7⟩ := p12 (by rw [h47]; decide) (by rw [h47]; decide)
  obtain ⟨k, k1, k2, k3⟩ := p17 (by rw [h47]; decide)
  have p18 := p18 (by rw [h47]; decide) (by rw [h47]; decide)
  obtain ⟨b1, b2, b3, b4, b5, b6, b7⟩ := bits c5 hn
  have b3 := b3 hnb
  have n0 : ¬ F 47 c = 0 := by rw [h47]; decide
  have f24 : (F 24 c).toInt < 0 := Int.not_le.mp (fun z => n0 (p8.2 z).1)
  have f23 : F 23 c = 0 := Classical.byContradiction (fun z => n0 (p9 z).1)
  have f28 : (F 28 c).toInt < 0 := Int.not_le.mp (fun z => n0 (p10 z))
  clear p11 p12 p13 p14 p15 p16 p17
  have e47 : x_u2 (x_u2 (x_u2 (x_u2 (x_u2 G 55 c (F 55 c ||| (1 <<< (Int32.ofNat n &&& 31)))) 47 c 3) 52 c (F 48 c)) 53 c (Int32.ofNat n)) 54 c (Int32.ofNat q) 47 c = 3 := by rw [u2_ne (by decide), u2_ne (by decide), u2_ne (by decide), u2_eq]
  have e52 : x_u2 (x_u2 (x_u2 (x_u2 (x_u2 G 55 c (F 55 c ||| (1 <<< (Int32.ofNat n &&& 31)))) 47 c 3) 52 c (F 48 c)) 53 c (Int32.ofNat n)) 54 c (Int32.ofNat q) 52 c = F 48 c := by rw [u2_ne (by decide), u2_ne (by decide), u2_eq]
  have e53 : x_u2 (x_u2 (x_u2 (x_u2 (x_u2 G 55 c (F 55 c ||| (1 <<< (Int32.ofNat n &&& 31)))) 47 c 3) 52 c (F 48 c)) 53 c (Int32.ofNat n)) 54 c (Int32.ofNat q) 53 c = Int32.ofNat n := by rw [u2_ne (by decide), u2_eq]
  have e54 : x_u2 (x_u2 (x_u2 (x_u2 (x_u2 G 55 c (F 55 c ||| (1 <<< (Int32.ofNat n &&& 31)))) 47 c 3) 52 c (F 48 c)) 53 c (Int32.ofNat n)) 54 c (Int32.ofNat q) 54 c = Int32.ofNat q := u2_eq
  have e55 : x_u2 (x_u2 (x_u2 (x_u2 (x_u2 G 55 c (F 55 c ||| (1 <<< (Int32.ofNat n &&& 31)))) 47 c 3) 52 c (F 48 c)) 53 c (Int32.ofNat n)) 54 c (Int32.ofNat q) 55 c = F 55 c ||| (1 <<< (Int32.ofNat n &&& 31)) := by rw [u2_ne (by decide), u2_ne (by decide), u2_ne (by decide), u2_ne (by decide), u2_eq]
  have hk : ∀ K i, (K < 36 ∨ (44 < K ∧ K < 63)) → K ≠ 8 → ((K ≠ 47 ∧ (K < 52 ∨ 55 < K)) ∨ i ≠ c) → x_u2 (x_u2 (x_u2 (x_u2 (x_u2 G 55 c (F 55 c ||| (1 <<< (Int32.ofNat n &&& 31)))) 47 c 3) 52 c (F 48 c)) 53 c (Int32.ofNat n)) 54 c (Int32.ofNat q) K i = F K i := by
    intro K i a1 a2 a3
    rw [← k0 K i a1 a2]
    unfold x_u2
    rw [if_neg (by omega), if_neg (by omega), if_neg (by omega), if_neg (by omega), if_neg (by omega)]
  generalize x_u2 (x_u2 (x_u2 (x_u2 (x_u2 G 55 c (F 55 c ||| (1 <<< (Int32.ofNat n &&& 31)))) 47 c 3) 52 c (F 48 c)) 53 c (Int32.ofNat n)) 54 c (Int32.ofNat q) = H at S2 e47 e52 e53 e54 e55 hk ⊢
  have w7 : (vpr (vpi (vpi (vpi (vpi w 1 10 (c + 1) (Int32.ofNat (cdo 38 (3 * n + q)))) 1 7 (c + 1) (Int32.ofNat n)) 1 8 (c + 1) (F 55 c ||| (1 <<< (Int32.ofNat n &&& 31)))) 1 11 (c + 1) (F 48 c)) 1 2 (c + 1) 4).1 1 7 (c + 1) = Int32.ofNat n := by
    show x_u3 (x_u3 (x_u3 (x_u3 w.1 1 10 (c + 1) (Int32.ofNat (cdo 38 (3 * n + q)))) 1 7 (c + 1) (Int32.ofNat n)) 1 8 (c + 1) (F 55 c ||| (1 <<< (Int32.ofNat n &&& 31)))) 1 11 (c + 1) (F 48 c) 1 7 (c + 1) = _
    unfold x_u3
    rw [if_neg (by omega), if_neg (by omega), if_pos ⟨rfl, rfl, rfl⟩]
  have w8 : (vpr (vpi (vpi (vpi (vpi w 1 10 (c + 1) (Int32.ofNat (cdo 38 (3 * n + q)))) 1 7 (c + 1) (Int32.ofNat n)) 1 8 (c + 1) (F 55 c ||| (1 <<< (Int32.ofNat n &&& 31)))) 1 11 (c + 1) (F 48 c)) 1 2 (c + 1) 4).1 1 8 (c + 1) = F 55 c ||| (1 <<< (Int32.ofNat n &&& 31)) := by
    show x_u3 (x_u3 (x_u3 (x_u3 w.1 1 10 (c + 1) (Int32.ofNat (cdo 38 (3 * n + q)))) 1 7 (c + 1) (Int32.ofNat n)) 1 8 (c + 1) (F 55 c ||| (1 <<< (Int32.ofNat n &&& 31)))) 1 11 (c + 1) (F 48 c) 1 8 (c + 1) = _
    unfold x_u3
    rw [if_neg (by omega), if_pos ⟨rfl, rfl, rfl⟩]
  have w10 : (vpr (vpi (vpi (vpi (vpi w 1 10 (c + 1) (Int32.ofNat (cdo 38 (3 * n + q)))) 1 7 (c + 1) (Int32.ofNat n)) 1 8 (c + 1) (F 55 c ||| (1 <<< (Int32.ofNat n &&& 31)))) 1 11 (c + 1) (F 48 c)) 1 2 (c + 1) 4).1 1 10 (c + 1) = Int32.ofNat (cdo 38 (3 * n + q)) := by
    show x_u3 (x_u3 (x_u3 (x_u3 w.1 1 10 (c + 1) (Int32.ofNat (cdo 38 (3 * n + q)))) 1 7 (c + 1) (Int32.ofNat n)) 1 8 (c + 1) (F 55 c ||| (1 <<< (Int32.ofNat n &&& 31)))) 1 11 (c + 1) (F 48 c) 1 10 (c + 1) = _
    unfold x_u3
    rw [if_neg (by omega), if_neg (by omega), if_neg (by omega), if_pos ⟨rfl, rfl, rfl⟩]
  have w11 : (vpr (vpi (vpi (vpi (vpi w 1 10 (c + 1) (Int32.ofNat (cdo 38 (3 * n + q)))) 1 7 (c + 1) (Int32.ofNat n)) 1 8 (c + 1) (F 55 c ||| (1 <<< (Int32.ofNat n &&& 31)))) 1 11 (c + 1) (F 48 c)) 1 2 (c + 1) 4).1 1 11 (c + 1) = F 48 c := if_pos ⟨rfl, rfl, rfl⟩
  have wi1 : ∀ k j, (k < 7 ∨ k = 9 ∨ 11 < k) → (vpr (vpi (vpi (vpi (vpi w 1 10 (c + 1) (Int32.ofNat (cdo 38 (3 * n + q)))) 1 7 (c + 1) (Int32.ofNat n)) 1 8 (c + 1) (F 55 c ||| (1 <<< (Int32.ofNat n &&& 31)))) 1 11 (c + 1) (F 48 c)) 1 2 (c + 1) 4).1 1 k j = v.1 1 k j := fun k j h => by
    rw [← K.1 k]
    show x_u3 (x_u3 (x_u3 (x_u3 w.1 1 10 (c + 1) (Int32.ofNat (cdo 38 (3 * n + q)))) 1 7 (c + 1) (Int32.ofNat n)) 1 8 (c + 1) (F 55 c ||| (1 <<< (Int32.ofNat n &&& 31)))) 1 11 (c + 1) (F 48 c) 1 k j = _
    unfold x_u3
    rw [if_neg (by omega), if_neg (by omega), if_neg (by omega), if_neg (by omega)]
  have wi2 : ∀ k, (vpr (vpi (vpi (vpi (vpi w 1 10 (c + 1) (Int32.ofNat (cdo 38 (3 * n + q)))) 1 7 (c + 1) (Int32.ofNat n)) 1 8 (c + 1) (F 55 c ||| (1 <<< (Int32.ofNat n &&& 31)))) 1 11 (c + 1) (F 48 c)) 1 2 (c + 1) 4).1 2 k = v.1 2 k := K.2.1
  have w12 : (vpr (vpi (vpi (vpi (vpi w 1 10 (c + 1) (Int32.ofNat (cdo 38 (3 * n + q)))) 1 7 (c + 1) (Int32.ofNat n)) 1 8 (c + 1) (F 55 c ||| (1 <<< (Int32.ofNat n &&& 31)))) 1 11 (c + 1) (F 48 c)) 1 2 (c + 1) 4).2.1 1 2 (c + 1) = 4 := if_pos ⟨rfl, rfl, rfl⟩
  have wr1 : ∀ k, k ≠ 2 → (vpr (vpi (vpi (vpi (vpi w 1 10 (c + 1) (Int32.ofNat (cdo 38 (3 * n + q)))) 1 7 (c + 1) (Int32.ofNat n)) 1 8 (c + 1) (F 55 c ||| (1 <<< (Int32.ofNat n &&& 31)))) 1 11 (c + 1) (F 48 c)) 1 2 (c + 1) 4).2.1 1 k (c + 1) = v.2.1 1 k (c + 1) := fun k h => by
    rw [← K.2.2.1 1 (by decide) (by decide)]
    exact if_neg (by omega)
  have w25 : (vpr (vpi (vpi (vpi (vpi w 1 10 (c + 1) (Int32.ofNat (cdo 38 (3 * n + q)))) 1 7 (c + 1) (Int32.ofNat n)) 1 8 (c + 1) (F 55 c ||| (1 <<< (Int32.ofNat n &&& 31)))) 1 11 (c + 1) (F 48 c)) 1 2 (c + 1) 4).2.1 2 = v.2.1 2 := K.2.2.1 2 (by decide) (by decide)
  have w18 : (vpr (vpi (vpi (vpi (vpi w 1 10 (c + 1) (Int32.ofNat (cdo 38 (3 * n + q)))) 1 7 (c + 1) (Int32.ofNat n)) 1 8 (c + 1) (F 55 c ||| (1 <<< (Int32.ofNat n &&& 31)))) 1 11 (c + 1) (F 48 c)) 1 2 (c + 1) 4).2.1 18 = v.2.1 18 := K.2.2.1 18 (by decide) (by decide)
  have wrw : (vpr (vpi (vpi (vpi (vpi w 1 10 (c + 1) (Int32.ofNat (cdo 38 (3 * n + q)))) 1 7 (c + 1) (Int32.ofNat n)) 1 8 (c + 1) (F 55 c ||| (1 <<< (Int32.ofNat n &&& 31)))) 1 11 (c + 1) (F 48 c)) 1 2 (c + 1) 4).2.2.1 = w.2.2.1 := rfl
  generalize vpr (vpi (vpi (vpi (vpi w 1 10 (c + 1) (Int32.ofNat (cdo 38 (3 * n + q)))) 1 7 (c + 1) (Int32.ofNat n)) 1 8 (c + 1) (F 55 c ||| (1 <<< (Int32.ofNat n &&& 31)))) 1 11 (c + 1) (F 48 c)) 1 2 (c + 1) 4 = W at S2 w7 w8 w10 w11 wi1 wi2 w12 wr1 w25 w18 wrw ⊢
  have z3 : (3 : Int32).toInt = 3 := rfl
  have on := ofN (n := n) (by omega)
  have hnc : ¬ n = c / 24 := fun z => hnb (z ▸ c6)
  refine ⟨(S2.close (E' := fun _ => False) (fun y hy e _ => ?_)).jw (fun _ z => z.elim), fun c' l' h1 h2 => ?_, fun c' h1 h5 h6 => ?_⟩
  · subst e
    refine ⟨⟨by rw [w12, e47]; decide, by rw [e47]; decide, by rw [e47]; decide⟩, ⟨?_, ?_, ?_⟩, ⟨?_, ?_, ?_⟩, ⟨?_, ?_⟩, ?_, ⟨?_, ?_, ?_, ?_⟩, fun z => absurd (e47.symm.trans z) (by decide), ⟨?_, fun z => ?_⟩, fun z => ?_, fun z => ?_, fun _ => ⟨?_, ?_, ?_, ?_, ?_, ?_⟩, fun _ _ => ⟨?_, ?_, ?_, r, d4, ?_, ?_, ?_⟩, fun z => absurd (e47.symm.trans z) (by decide), fun z => absurd (e47.symm.trans z) (by decide), fun _ => ⟨?_, ?_, ?_, ?_, ?_, ?_, q, hq, e54, ?_, ?_⟩, fun z => ?_, fun _ => ⟨k, ?_, ?_, ?_⟩, fun _ _ => ?_⟩
    · rw [wi2, hk 22 y (by omega) (by omega) (by omega)]; exact p2.1
    · rw [wi2, hk 25 y (by omega) (by omega) (by omega)]; exact p2.2.1
    · have := p2.2.2
      unfold tnF at this ⊢
      rw [wi2, e47, hk 23 y (by omega) (by omega) (by omega), if_neg (fun z => absurd z.1 (by decide)), if_neg (by decide), this, h47, if_neg (fun z => absurd z.1 (by decide)), if_neg (by decide)]
    · rw [w25, e47, if_neg (by decide)]
      have := p3.1
      rw [if_neg n0] at this
      exact this
    · rw [hk 28 y (by omega) (by omega) (by omega)]; exact p3.2.1
    · rw [hk 28 y (by omega) (by omega) (by omega)]; exact p3.2.2
    · rw [wr1 3 (by decide), hk 57 y (by omega) (by omega) (by omega)]; exact p4.1
    · rw [hk 57 y (by omega) (by omega) (by omega)]; exact p4.2
    · rw [wi1 5 _ (by omega), e47, if_neg (by decide), p5, if_neg (by rw [h47]; decide)]
    · rw [w8, e55]
    · rw [w11, e52]
    · rw [wi1 12 _ (by omega), hk 56 y (by omega) (by omega) (by omega)]; exact p6.2.2.1
    · rw [wi1 13 _ (by omega), hk 61 y (by omega) (by omega) (by omega)]; exact p6.2.2.2
    · rw [hk 24 y (by omega) (by omega) (by omega)]; exact p8.1
    · rw [hk 24 y (by omega) (by omega) (by omega)] at z; omega
    · rw [hk 23 y (by omega) (by omega) (by omega)] at z; exact absurd f23 z
    · rw [hk 28 y (by omega) (by omega) (by omega)] at z; omega
    · rw [wi1 6 _ (by omega), hk 48 y (by omega) (by omega) (by omega)]
      exact c1.cg (fun i hi => hk 49 _ (by omega) (by omega) (by omega))
    · rw [hk 50 y (by omega) (by omega) (by omega)]; exact ⟨c2, c3⟩
    · rw [w7]; omega
    · rw [e55]; exact ⟨b4, b5⟩
    · rw [e55]; exact b7 _ (by omega) c6
    · rw [e55, hk 50 y (by omega) (by omega) (by omega)]
      refine b7 _ ?_ c7
      show (F 50 y).toInt.toNat < 3
      omega
    · rw [hk 22 y (by omega) (by omega) (by omega)]; exact d1
    · rw [hk 57 y (by omega) (by omega) (by omega)]; exact d2
    · obtain ⟨L, hL, hL3⟩ := hrow
      rw [wrw, hL, List.length_append, e55, b3]
      omega
    · rw [hk 51 y (by omega) (by omega) (by omega)]; exact d5
    · rw [wi1 9 _ (by omega), hk 50 y (by omega) (by omega) (by omega)]; exact d6
    · obtain ⟨L, hL, hL3⟩ := hrow
      rw [wrw, wi1 9 _ (by omega), hL]
      exact List.mem_append_left _ d7
    · rw [w7, e53]
    · rw [e53]; omega
    · rw [e53]; exact fun z => hnc (ofN_inj (by omega) (by omega) z)
    · rw [e53, hk 50 y (by omega) (by omega) (by omega)]
      exact fun z => hnb (by rw [← z, on.2] at c7; exact c7)
    · rw [e55, e53, on.2]; exact b6
    · rw [e52]; exact h48
    · rw [w10, e53, on.2]
    · rw [wrw, w10]; exact hm
    · rw [e47] at z; exact absurd z (by decide)
    · rw [hk 29 _ (by omega) (by omega) (by omega)]; exact k1
    · rw [hk 58 y (by omega) (by omega) (by omega)]; exact k2
    · rw [wr1 4 (by decide), w18]; exact k3
    · rw [hk 60 y (by omega) (by omega) (by omega)]; exact p18
  · rw [hk 57 c' (by omega) (by omega) (by omega), hk 28 l' (by omega) (by omega) (by omega)]
    exact S0.2.1 c' l' h1 h2
  · have z : c' ≠ c := fun z => by rw [z, e47] at h5; exact absurd h5 (by decide)
    rw [hk 47 c' (by omega) (by omega) (by omega)] at h5
    rw [hk 57 c' (by omega) (by omega) (by omega), hk 22 _ (by omega) (by omega) (by omega)] at h6
    rw [wi1 14 _ (by omega), hk 62 c' (by omega) (by omega) (by omega)]
    exact S0.2.2 c' h1 h5 h6
end XST
