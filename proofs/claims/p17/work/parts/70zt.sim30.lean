/-! FORWARD: both sides -/
section XFW
variable {D : Int} {E J : Nat → Prop} {v : vS} {F : xF} {c o n q k : Nat}
theorem cod_t : Int32.ofNat (5000 + k) = Int32.ofNat (cdo 41 k) := by
  unfold cdo
  rw [if_neg (by decide), if_neg (by decide), if_neg (by decide)]
theorem SX.way2 {K1 i1 K2 i2 : Nat} (S : SX D (fun y => y = c) J v F) (hc : c < 72) (s1 : slo (v.2.2.2 6) K1 i1) (h1 : (F K1 i1).toInt < 0) (s2 : slo (v.2.2.2 6) K2 i2) (h2 : (F K2 i2).toInt < 0) (hne : K2 ≠ K1) (hl : (v.2.2.1 (ri c)).length < 7) : SX D (fun y => y = c) J (vseize (vseize v (c + 1) (Int32.ofNat (cdo K1 i1))) (c + 1) (Int32.ofNat (cdo K2 i2))) (rseize (rseize F c (v.2.2.1 (ri c)).length (Int32.ofNat (cdo K1 i1))) c ((v.2.2.1 (ri c)).length + 1) (Int32.ofNat (cdo K2 i2))) ∧ KP v F (vseize (vseize v (c + 1) (Int32.ofNat (cdo K1 i1))) (c + 1) (Int32.ofNat (cdo K2 i2))) (rseize (rseize F c (v.2.2.1 (ri c)).length (Int32.ofNat (cdo K1 i1))) c ((v.2.2.1 (ri c)).length + 1) (Int32.ofNat (cdo K2 i2))) ∧ (vseize (vseize v (c + 1) (Int32.ofNat (cdo K1 i1))) (c + 1) (Int32.ofNat (cdo K2 i2))).2.2.1 (ri c) = v.2.2.1 (ri c) ++ [Int32.ofNat (cdo K1 i1)] ++ [Int32.ofNat (cdo K2 i2)] := by
  have hT : v.2.2.2 6 ≤ 16 := S.tr.1
  have A1 := S.seize hc rfl s1 h1 (by omega)
  have r1 : (vseize v (c + 1) (Int32.ofNat (cdo K1 i1))).2.2.1 (ri c) = v.2.2.1 (ri c) ++ [Int32.ofNat (cdo K1 i1)] := vseize_row (by omega)
  have n1 : (vseize v (c + 1) (Int32.ofNat (cdo K1 i1))).2.2.2 = v.2.2.2 := by
    unfold vseize
    show (hset v _ _).2.2.2 = _
    rw [hset_i.2]
  have l1 : ((vseize v (c + 1) (Int32.ofNat (cdo K1 i1))).2.2.1 (ri c)).length = (v.2.2.1 (ri c)).length + 1 := by rw [r1, List.length_append]; rfl
  have A2 := A1.seize (K := K2) (i := i2) hc rfl (by rw [n1]; exact s2) (by rw [rseize_v s1 hT (by unfold slo at s2; omega) (Or.inl hne)]; exact h2) (by omega)
  rw [l1] at A2
  exact ⟨A2, KP.seize.tr KP.seize, by rw [vseize_row (by omega), r1]⟩
theorem von_t (hn : n < 3) (ht : fitr v (Int32.ofNat o) (Int32.ofNat n) = -1) {j : Nat} : von v (o + 1) j (n + 1) = (0, vpi v 15 (o + 1) n (v.1 15 (o + 1) n + 1)) := by
  unfold von
  rw [if_pos (show fitr v (Int32.ofNat (o + 1 - 1)) (Int32.ofNat (n + 1 - 1)) = -1 from ht)]
  unfold vof
  rw [show n + 1 - 1 = n from rfl, (ofN (n := n) (by omega)).2]
theorem von_r (hk : k ≤ 100000) (ht : fitr v (Int32.ofNat o) (Int32.ofNat n) = Int32.ofNat k) (hr : fidl v (n + 1) 30 33 = -1) {j : Nat} : von v (o + 1) j (n + 1) = (0, v) := by
  unfold von
  rw [if_neg (show ¬ fitr v (Int32.ofNat (o + 1 - 1)) (Int32.ofNat (n + 1 - 1)) = -1 from fun z => ofN_m1 hk (ht.symm.trans z)), if_pos hr]
theorem von_l (hk : k ≤ 100000) (hq : q ≤ 100) (ht : fitr v (Int32.ofNat o) (Int32.ofNat n) = Int32.ofNat k) (hr : fidl v (n + 1) 30 33 = Int32.ofNat (30 + q)) {j : Nat} (hw : own j (o + 1)) (hi : ilk v (o + 1) j 0 (-1) = -1) : von v (o + 1) j (n + 1) = (0, v) := by
  unfold von
  rw [if_neg (show ¬ fitr v (Int32.ofNat (o + 1 - 1)) (Int32.ofNat (n + 1 - 1)) = -1 from fun z => ofN_m1 hk (ht.symm.trans z)), if_neg (show ¬ fidl v (n + 1) 30 33 = -1 from fun z => ofN_m1 (by omega) (hr.symm.trans z)), if_pos ⟨hw, hi⟩]
theorem von_s {W : vS} (hv : vo1 v (o + 1) (c + 1) = W) (hk : k ≤ 100000) (hq : q < 3) (ht : fitr v (Int32.ofNat o) (Int32.ofNat n) = Int32.ofNat k) (hr : fidl v (n + 1) 30 33 = Int32.ofNat (30 + q)) (hl : ¬ (own (c + 1) (o + 1) ∧ ilk v (o + 1) (c + 1) 0 (-1) = -1)) : von v (o + 1) (c + 1) (n + 1) = (1, vgo (vpi (vseize (vseize W (c + 1) (Int32.ofNat (cdo 41 k))) (c + 1) (Int32.ofNat (cdo 38 (3 * n + q)))) 1 10 (c + 1) (Int32.ofNat (cdo 38 (3 * n + q)))) (c + 1) (Int32.ofNat n)) := by
  unfold von
  rw [if_neg (show ¬ fitr v (Int32.ofNat (o + 1 - 1)) (Int32.ofNat (n + 1 - 1)) = -1 from fun z => ofN_m1 hk (ht.symm.trans z)), if_neg (show ¬ fidl v (n + 1) 30 33 = -1 from fun z => ofN_m1 (by omega) (hr.symm.trans z)), if_neg hl]
  unfold vo3 vo2
  rw [hr, show fitr v (Int32.ofNat (o + 1 - 1)) (Int32.ofNat (n + 1 - 1)) = Int32.ofNat k from ht, hv, show ocd (n + 1) (Int32.ofNat (30 + q)) = Int32.ofNat (cdo 38 (3 * n + q)) from cod_reg hq, vseize_q, show n + 1 - 1 = n from rfl, show (5000 : Int32) + Int32.ofNat k = Int32.ofNat (5000 + k) from ofN_add 5000 k, cod_t]
theorem vsent_e {W : vS} {R A B X : Int32} (w8 : W.1 1 8 (c + 1) = A) (w6 : W.1 1 6 (c + 1) = X) (hX : Int32.ofNat (cdg X.toInt) = B) : vsent (vgo (vpi W 1 10 (c + 1) R) (c + 1) (Int32.ofNat n)) (c + 1) = vpr (vpi (vpi (vpi (vpi W 1 10 (c + 1) R) 1 7 (c + 1) (Int32.ofNat n)) 1 8 (c + 1) (A ||| (1 <<< (Int32.ofNat n &&& 31)))) 1 11 (c + 1) B) 1 2 (c + 1) 4 := by
  have e6 : (vgo (vpi W 1 10 (c + 1) R) (c + 1) (Int32.ofNat n)).1 1 6 (c + 1) = X := by
    rw [← w6]
    rfl
  have e8 : (vpi W 1 10 (c + 1) R).1 1 8 (c + 1) = A := by
    rw [← w8]
    rfl
  unfold vsent
  rw [e6, hX]
  unfold vgo
  rw [e8]
theorem Sim.c48 (S : Sim D v F) (hc : c < 72) (h : ¬ F 47 c = 0) : Int32.ofNat (cdg (v.1 1 6 (c + 1)).toInt) = F 48 c := by
  obtain ⟨q, hq, hx⟩ := S.nr hc h
  rw [hx, cdg_v hq.1 hq.2.2, hq.2.1]
/-- a target: its number, and whether it was visited -/
theorem RTE.it {m i N : Nat} (R : RTE v F m (12 * o + k)) (hk : k < 12) (hN : (v.2.2.1 (90 + m)).length = N) (hi : i < N) : ∃ n, n < 3 ∧ n ≠ o ∧ F 35 (3 * (12 * o + k) + i) = Int32.ofNat n ∧ rat (v.2.2.1 (v.2.1 4 2 m)) (Int32.ofNat i) = Int32.ofNat n := by
  obtain ⟨-, -, -, -, -, -, r1, ⟨-, r2⟩, r3, r4⟩ := R
  have hy := List.getElem?_eq_getElem (l := v.2.2.1 (90 + m)) (i := i) (by omega)
  obtain ⟨n, n1, n2, n3⟩ := r4 _ (List.mem_iff_getElem?.mpr ⟨i, hy⟩)
  refine ⟨n, n1, by omega, (r2 i _ hy).trans n2, ?_⟩
  rw [r1, rat_n (by omega), hy]
  exact n2
theorem Sim.vis (S : Sim D v F) (hc : c < 72) (h47 : F 47 c = 2) (hn : n < 3) : (iso (Int32.ofNat n) && !hbb v (c + 1) (Int32.ofNat n)) = true ↔ ¬ hbit (F 55 c) n := by
  obtain ⟨-, -, -, -, -, p6, -, -, -, -, p11, -⟩ := S.pl hc
  have c5 := (p11 (by rw [h47]; decide)).2.2.2.1
  have on := ofN (n := n) (by omega)
  have b := (bits c5 hn).2.1
  unfold iso hbb
  rw [p6.1, decide_eq_true (by omega), Bool.true_and, Bool.not_eq_true', decide_eq_false_iff_not, b]
end XFW
