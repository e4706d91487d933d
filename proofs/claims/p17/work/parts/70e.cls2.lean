/-- who holds the thing with this code -/
def hset (v : vS) (x : Int32) (y : Nat) : vS :=
  if 5000 ≤ x.toInt then (if (x - 5000).toInt < (v.1 7 4 1).toInt then vpr v 6 3 (v.2.1 13 1 (x - 5000).toNatClampNeg) y else v)
  else if 0 ≤ x.toInt ∧ (x / 1000).toInt < 3 ∧ (x - x / 1000 * 1000).toInt < 33 then vpr v 17 ((x / 1000).toNatClampNeg + 1) (x - x / 1000 * 1000).toNatClampNeg y else v
theorem hset_i {v : vS} {x : Int32} {y : Nat} : (hset v x y).1 = v.1 ∧ (hset v x y).2.2 = v.2.2 := by
  unfold hset
  split
  · split <;> exact ⟨rfl, rfl⟩
  · split <;> exact ⟨rfl, rfl⟩
theorem vpi_same {v : vS} {K k j : Nat} {x : Int32} : (vpi v K k j x).1 K k j = x := if_pos ⟨rfl, rfl, rfl⟩
theorem b2i0 {p : Prop} [Decidable p] : b2i p = 0 ↔ ¬ p := by
  unfold b2i
  split
  · exact ⟨fun z => absurd z (by decide), fun z => absurd ‹p› z⟩
  · exact ⟨fun _ => ‹¬ p›, fun _ => rfl⟩
theorem b2i1 {p : Prop} [Decidable p] : ¬ b2i p = 0 ↔ p := ⟨fun z => Classical.byContradiction (fun y => z (b2i0.mpr y)), fun z y => b2i0.mp y z⟩
def vseize (v : vS) (j : Nat) (x : Int32) : vS := vrw (hset v x j) (ri (j - 1)) (radd 8 (v.2.2.1 (ri (j - 1))) x)
def vrel (v : vS) (j : Nat) (x : Int32) : vS := vrw (hset v x 0) (ri (j - 1)) (rdel (v.2.2.1 (ri (j - 1))) x)
theorem vnew_9 {v : vS} {j : Nat} {x : Int32} : (vnew v j x).1 1 9 j = x := by
  show (vpi (vgo (vpi (vpi (vpr (vpr v 1 2 j 2) 1 4 j 0) 1 6 j 1) 1 8 j 0) j (Int32.ofNat ((j - 1) / 24))) 1 9 j x).1 1 9 j = x
  exact vpi_same
theorem vrel_1 {v : vS} {j : Nat} {x : Int32} : (vrel v j x).1 = v.1 := hset_i.1
theorem vseize_1 {v : vS} {j : Nat} {x : Int32} : (vseize v j x).1 = v.1 := hset_i.1
def vclr (v : vS) (l : List Int32) : vS := l.foldl (fun v x => hset v x 0) v
theorem vclr_i {l : List Int32} : ∀ {v : vS}, (vclr v l).1 = v.1 ∧ (vclr v l).2.2 = v.2.2 := by
  induction l with
  | nil => exact ⟨rfl, rfl⟩
  | cons x l ih =>
    intro v
    have a := ih (v := hset v x 0)
    have b := hset_i (v := v) (x := x) (y := 0)
    exact ⟨a.1.trans b.1, a.2.trans b.2⟩
theorem vclr_s {v : vS} {l : List Int32} {x : Int32} : vclr v (l ++ [x]) = hset (vclr v l) x 0 := by
  unfold vclr
  rw [List.foldl_append]
  rfl
/-- behind the clearing of what a call holds -/
def vend0 (v : vS) (j : Nat) : vS := vrw (vclr v (v.2.2.1 (ri (j - 1)))) (ri (j - 1)) []
def vend1 (v : vS) (j : Nat) : vS := vrw (vend0 v j) (30 * ((vend0 v j).1 1 7 j).toNatClampNeg + 2) (rdel ((vend0 v j).2.2.1 (30 * ((vend0 v j).1 1 7 j).toNatClampNeg + 2)) (Int32.ofNat (j - 1)))
def vend2 (v : vS) (j : Nat) (x : Int32) : vS := vlv (vend1 v j) j x
def vend (v : vS) (j : Nat) (x : Int32) : vS := vpr (vpi (vpr (if (vend2 v j x).2.1 1 3 j = 0 then vend2 v j x else vlv (vend2 v j x) ((vend2 v j x).2.1 1 3 j) 3) 1 3 j 0) 1 5 j 0) 1 2 j 1
def vchg (v : vS) (j : Nat) : vS := vpi (vpi v 2 4 j (v.1 2 4 j + (if v.2.1 1 4 j = 0 then 0 else v.1 4 3 (v.2.1 1 4 j)))) 1 13 j 0
def vans (v : vS) (j : Nat) : vS := if v.2.1 1 2 j = 5 then vchg (vpi (vpr v 1 2 j 6) 2 3 j 0) j else v
def vjob (v : vS) (jo j : Nat) : vS := vrw (vpr v 1 2 j 3) (30 * (jo - 1) + 2) (radd (cap (30 * (jo - 1) + 2)) (v.2.2.1 (30 * (jo - 1) + 2)) (Int32.ofNat (j - 1)))
def vbeg (v : vS) (jo l : Nat) (x : Int32) : vS := vseize (vpi (vpr (vnew v l (Int32.ofNat (1000 * (jo - 1)) + x)) 2 5 l l) 2 3 l 1) l (Int32.ofNat (1000 * (jo - 1)) + x)
def vlink (v : vS) (jo j : Nat) (x : Int32) : vS := vpi (vseize v j (Int32.ofNat (1000 * (jo - 1)) + x)) 3 8 jo (x + 1 - (x + 1) / 4 * 4)
def vsend (v : vS) (j : Nat) : vS := if 0 < (v.1 1 11 j - 1).toInt then vpi v 1 11 j (v.1 1 11 j - 1) else vjob (vpi (vrel (vpi v 1 11 j (v.1 1 11 j - 1)) j (v.1 1 9 j)) 1 9 j (v.1 1 10 j)) ((v.1 1 7 j).toNatClampNeg + 1) j
def vwait (v : vS) (j : Nat) : vS := if (v.1 1 12 j + 1).toInt < 20 then vpi v 1 12 j (v.1 1 12 j + 1) else vend (vpi v 1 12 j (v.1 1 12 j + 1)) j 3
def vper (v : vS) (j : Nat) : Int32 := if v.2.1 1 4 j = 0 then 0 else v.1 4 4 (v.2.1 1 4 j)
def vtalk (v : vS) (j : Nat) : vS :=
  if ¬ v.2.1 1 3 j = 0 ∧ ¬ v.1 2 2 (v.2.1 1 3 j) = 0 then (if 0 < (vper v j).toInt ∧ (vper v j).toInt ≤ (v.1 1 13 j + 1).toInt then vchg (vpi v 1 13 j (v.1 1 13 j + 1)) j else vpi v 1 13 j (v.1 1 13 j + 1))
  else if v.1 1 5 j = 0 then (if (v.1 1 14 j + 1).toInt < 12 then vpi v 1 14 j (v.1 1 14 j + 1) else vend (vpi v 1 14 j (v.1 1 14 j + 1)) j 3) else v
/-- office and line are there; the line's number -/
abbrev lnok (x y : Int32) : Prop := (0 ≤ x.toInt ∧ x.toInt ≤ 2) ∧ (0 ≤ y.toInt ∧ y.toInt ≤ 23)
def lno (x y : Int32) : Nat := 24 * x.toNatClampNeg + y.toNatClampNeg + 1
/-- the first idle part from x on, below y -/
def FI (v : vS) (j : Nat) (x y r : Int32) : Prop := (r = -1 ∧ ∀ p : Nat, x.toInt ≤ p → (p : Int) < y.toInt → ¬ v.2.1 17 j p = 0) ∨ (x.toInt ≤ r.toInt ∧ r.toInt < y.toInt ∧ v.2.1 17 j r.toNatClampNeg = 0 ∧ ∀ p : Nat, x.toInt ≤ p → (p : Int) < r.toInt → ¬ v.2.1 17 j p = 0)
section XP
variable {σ : Type} {R : σ → xH → Prop} {m μ nx : Nat} {r : List (Nat × xI)} {ls st : List xV} {s : σ} {G : xO → σ → Prop}
/-- a call that gives an int with a property and leaves the state -/
abbrev EP (R : σ → xH → Prop) (μ : Nat) (a : List xV) (s : σ) (P : Int32 → Prop) : Prop := EC R μ a s (fun o t => t = s ∧ ∃ x, o = oi x ∧ P x)
theorem p_callv {K y n mc ms bc bs : Nat} {P : Int32 → Prop} (hR : RS R) (he : EP R y (st.take n).reverse s P) (kk : ∀ x, P x → TC R m μ r ls (.inl x :: st.drop n) s G) : TC R m μ ((nx, x_callv K y n mc ms bc bs) :: r) ls st s G :=
  c_callv hR he (fun w t p => by obtain ⟨rfl, x, e, q⟩ := p; cases e; exact kk x q) (fun k t p => by obtain ⟨-, x, e, -⟩ := p; cases e)
theorem p_call {y n mc ms bc bs : Nat} {P : Int32 → Prop} (hR : RS R) (he : EP R y (st.take n).reverse s P) (kk : ∀ x, P x → TC R m μ r ls (.inl x :: st.drop n) s G) : TC R m μ ((nx, x_call y n mc ms bc bs) :: r) ls st s G :=
  c_call hR he (fun w t p => by obtain ⟨rfl, x, e, q⟩ := p; cases e; exact kk x q) (fun k t p => by obtain ⟨-, x, e, -⟩ := p; cases e)
end XP
theorem e52 {v : vS} {x : Int32} {y : Nat} : ED CR 52 [rf 7 1, .inl x, rf 1 y] v (ov) (hset v x y) := by
  refine EC.mk (fun n0 => ?_)
  show BC _ n0 52 0 [rf 7 1, .inl x, rf 1 y, rf 0 0, rf 0 0] [] _ _
  refine BC.blk c52_0 (fun m1 hm1 => ?_)
  refine c_iload rfl ?_
  refine c_iconst ?_
  refine c_idiv rfl ?_
  refine c_istore rfl ?_
  refine c_iload rfl ?_
  refine c_iconst ?_
  refine c_irem rfl ?_
  refine c_istore rfl ?_
  refine c_iload rfl ?_
  have l5 : (5000 : Int32).toInt = 5000 := rfl
  have l0 : (3 : Int32).toInt = 3 := rfl
  have l33 : (33 : Int32).toInt = 33 := rfl
  refine c_iconst ?_
  refine c_icmpk_lt (k := 5000) rfl (fun d1 => ?_) (fun d1 => ?_)
  · skip
    refine BC.blk c52_49 (fun m2 hm2 => ?_)
    refine c_iload rfl ?_
    refine c_if_lt (fun d2 => ?_) (fun d2 => ?_)
    · skip
      refine BC.blk c52_78 (fun m3 hm3 => ?_)
      exact c_ret ⟨rfl, by rw [hset, if_neg (by omega), if_neg (fun z => by omega)]⟩
    · skip
      refine c_iload rfl ?_
      refine c_iconst ?_
      refine c_icmpk_ge (k := 3) rfl (fun d3 => ?_) (fun d3 => ?_)
      · skip
        refine BC.blk c52_78 (fun m4 hm4 => ?_)
        exact c_ret ⟨rfl, by rw [hset, if_neg (by omega), if_neg (fun z => by omega)]⟩
      · skip
        refine c_iload rfl ?_
        refine c_iconst ?_
        refine c_icmpk_ge (k := 33) rfl (fun d4 => ?_) (fun d4 => ?_)
        · skip
          refine BC.blk c52_78 (fun m5 hm5 => ?_)
          exact c_ret ⟨rfl, by rw [hset, if_neg (by omega), if_neg (fun z => by omega)]⟩
        · skip
          refine c_aload rfl ?_
          refine c_gfr (fun _ C l => C.r7 (k := 0) (by decide) l) ?_
          refine c_iload rfl ?_
          refine c_aald (fun _ C l i => C.a11 l i) (fun p1 => ?_)
          refine c_gfr (fun _ C l => C.r3 (k := 2) rfl l) ?_
          refine c_iload rfl ?_
          refine c_aload rfl ?_
          refine c_aast (fun _ C l i => C.s17 l i) (fun p2 => ?_)
          refine c_goto ?_
          refine BC.blk c52_78 (fun m6 hm6 => ?_)
          exact c_ret ⟨rfl, by rw [hset, if_neg (by omega), if_pos ⟨by omega, by omega, by omega⟩]⟩
  · skip
    refine c_iload rfl ?_
    refine c_iconst ?_
    refine c_bin rfl ?_
    refine c_aload rfl ?_
    refine c_gfi (fun _ C _ => C.i rfl) ?_
    refine c_icmp_ge (fun d5 => ?_) (fun d5 => ?_)
    · skip
      refine BC.blk c52_78 (fun m7 hm7 => ?_)
      exact c_ret ⟨rfl, by rw [hset, if_pos (by omega), if_neg (by omega)]⟩
    · skip
      refine c_aload rfl ?_
      refine c_gfr (fun _ C l => C.r7 (k := 2) (by decide) l) ?_
      refine c_iload rfl ?_
      refine c_iconst ?_
      refine c_bin rfl ?_
      refine c_aald (fun _ C l i => C.a13 l i) (fun p3 => ?_)
      refine c_aload rfl ?_
      refine c_pfr (fun _ C _ => C.pr rfl) ?_
      refine c_goto ?_
      refine BC.blk c52_78 (fun m8 hm8 => ?_)
      exact c_ret ⟨rfl, by rw [hset, if_pos (by omega), if_pos (by omega)]⟩
theorem e53 {v : vS} {j : Nat} {x : Int32} : ED CR 53 [rf 7 1, rf 1 j, .inl x] v (ov) (vseize v j x) := by
  refine EC.mk (fun n0 => ?_)
  show BC _ n0 53 0 [rf 7 1, rf 1 j, .inl x] [] _ _
  refine BC.blk c53_0 (fun m1 hm1 => ?_)
  refine c_aload rfl ?_
  refine c_iload rfl ?_
  refine c_aload rfl ?_
  refine d_callv cr_rs (e52) ?_
  refine c_aload rfl ?_
  refine c_gfrP (fun _ C l => ⟨C.1.lv1 l, C.r11 l⟩) fun hj => ?_
  refine c_iload rfl ?_
  refine d_callvP cr_rs rfl (fun _ C l => C.rl l) (fun hr => e37 hr) (fun hr => ?_)
  exact c_ret ⟨rfl, by obtain ⟨c, hc, rfl⟩ := hj; rw [vseize, hset_i.2, show c + 1 - 1 = c from rfl, cap_ri hc]⟩
theorem e66 {v : vS} {j : Nat} {x : Int32} : ED CR 66 [rf 7 1, rf 1 j, .inl x] v (ov) (vrel v j x) := by
  refine EC.mk (fun n0 => ?_)
  show BC _ n0 66 0 [rf 7 1, rf 1 j, .inl x] [] _ _
  refine BC.blk c66_0 (fun m1 hm1 => ?_)
  refine c_aload rfl ?_
  refine c_iload rfl ?_
  refine c_null ?_
  refine d_callv cr_rs (e52) ?_
  refine c_aload rfl ?_
  refine c_gfr (fun _ C l => C.r11 l) ?_
  refine c_iload rfl ?_
  refine d_callvP cr_rs rfl (fun _ C l => C.rl l) (fun hr => e38 hr) (fun hr => ?_)
  exact c_ret ⟨rfl, by rw [vrel, hset_i.2]⟩
theorem e56 {v : vS} {j : Nat} : ED CR 56 [rf 7 1, rf 1 j] v (ov) (vchg v j) := by
  refine EC.mk (fun n0 => ?_)
  show BC _ n0 56 0 [rf 7 1, rf 1 j] [] _ _
  refine BC.blk c56_0 (fun m1 hm1 => ?_)
  refine c_aload rfl ?_
  refine c_gfr (fun _ C l => C.r10 l) ?_
  refine c_dup ?_
  refine c_gfi (fun _ C _ => C.i rfl) ?_
  refine c_aload rfl ?_
  refine d_callv cr_rs (e6) ?_
  refine c_bin rfl ?_
  refine c_pfi (fun _ C _ => C.pi rfl) ?_
  refine c_aload rfl ?_
  refine c_iconst ?_
  refine c_pfi (fun _ C _ => C.pi rfl) ?_
  exact c_ret ⟨rfl, rfl⟩
theorem e57 {v : vS} {j : Nat} : ED CR 57 [rf 7 1, rf 1 j] v (ov) (vans v j) := by
  refine EC.mk (fun n0 => ?_)
  show BC _ n0 57 0 [rf 7 1, rf 1 j] [] _ _
  refine BC.blk c57_0 (fun m1 hm1 => ?_)
  refine c_aload rfl ?_
  refine c_gfr (fun _ C _ => C.r rfl) ?_
  refine c_stage ?_
  refine c_ane (fun d1 => ?_) (fun d1 => ?_)
  · skip
    refine BC.blk c57_30 (fun m2 hm2 => ?_)
    exact c_ret ⟨rfl, by rw [vans, if_neg d1]⟩
  · skip
    refine c_aload rfl ?_
    refine c_stage ?_
    refine c_pfr (fun _ C _ => C.pr rfl) ?_
    refine c_aload rfl ?_
    refine c_gfr (fun _ C l => C.r10 l) ?_
    refine c_iconst ?_
    refine c_pfi (fun _ C _ => C.pi rfl) ?_
    refine c_aload rfl ?_
    refine c_aload rfl ?_
    refine d_callv cr_rs (e56) ?_
    refine c_goto ?_
    refine BC.blk c57_30 (fun m3 hm3 => ?_)
    exact c_ret ⟨rfl, by rw [vans, if_pos d1]⟩
theorem e61 {v : vS} {jo j : Nat} : ED CR 61 [rf 7 1, rf 3 jo, rf 1 j] v (ov) (vjob v jo j) := by
  refine EC.mk (fun n0 => ?_)
  show BC _ n0 61 0 [rf 7 1, rf 3 jo, rf 1 j] [] _ _
  refine BC.blk c61_0 (fun m1 hm1 => ?_)
  refine c_aload rfl ?_
  refine c_stage ?_
  refine c_pfr (fun _ C _ => C.pr rfl) ?_
  refine c_aload rfl ?_
  refine c_gfr (fun _ C l => C.r36 l) ?_
  refine c_aload rfl ?_
  refine c_gfr (fun _ C l => C.r10 l) ?_
  refine d_callv cr_rs (e9) ?_
  refine d_callvP cr_rs rfl (fun _ C l => C.rl l) (fun hr => e37 hr) (fun hr => ?_)
  exact c_ret ⟨rfl, rfl⟩
theorem e54 {v : vS} {jo l : Nat} {x : Int32} (hl : 1 ≤ l ∧ l ≤ 72) : ED CR 54 [rf 7 1, rf 3 jo, rf 2 l, .inl x] v (ov) (vbeg v jo l x) := by
  refine EC.mk (fun n0 => ?_)
  show BC _ n0 54 0 [rf 7 1, rf 3 jo, rf 2 l, .inl x, rf 0 0] [] _ _
  refine BC.blk c54_0 (fun m1 hm1 => ?_)
  refine c_aload rfl ?_
  refine c_gfr (fun _ C l => C.r7 (k := 1) (by decide) l) ?_
  refine c_aload rfl ?_
  refine d_callv cr_rs (e9) ?_
  refine c_aald (fun _ C l9 i => ⟨(C.a12 l9 i).1, (C.a12 l9 i).2.trans (show _ = l by rw [(ofN (n := l - 1) (by omega)).2]; omega)⟩) (fun p1 => ?_)
  refine c_astore rfl ?_
  refine c_aload rfl ?_
  refine c_aload rfl ?_
  refine c_iload rfl ?_
  refine d_callv cr_rs (e14) ?_
  refine d_callv cr_rs (e3) ?_
  refine c_aload rfl ?_
  refine c_aload rfl ?_
  refine c_pfr (fun _ C _ => C.pr rfl) ?_
  refine c_aload rfl ?_
  refine c_iconst ?_
  refine c_pfi (fun _ C _ => C.pi rfl) ?_
  refine c_aload rfl ?_
  refine c_aload rfl ?_
  refine c_aload rfl ?_
  refine c_gfi (fun _ C _ => (C.i rfl).trans (show (vnew v l (Int32.ofNat (1000 * (jo - 1)) + x)).1 1 9 l = _ from vnew_9)) ?_
  refine d_callv cr_rs (e53) ?_
  exact c_ret ⟨rfl, rfl⟩
theorem e72 {v : vS} {j : Nat} : ED CR 72 [rf 7 1, rf 1 j] v (ov) (vsend v j) := by
  refine EC.mk (fun n0 => ?_)
  show BC _ n0 72 0 [rf 7 1, rf 1 j] [] _ _
  refine BC.blk c72_0 (fun m1 hm1 => ?_)
  refine c_aload rfl ?_
  refine c_dup ?_
  refine c_gfi (fun _ C _ => C.i rfl) ?_
  refine c_iconst ?_
  refine c_bin rfl ?_
  refine c_pfi (fun _ C _ => C.pi rfl) ?_
  refine c_aload rfl ?_
  refine c_gfi (fun _ C _ => (C.i rfl).trans vpi_same) ?_
  refine c_if_gt (fun d1 => ?_) (fun d1 => ?_)
  · skip
    refine BC.blk c72_48 (fun m2 hm2 => ?_)
    exact c_ret ⟨rfl, by rw [vsend, if_pos d1]⟩
  · skip
    refine c_aload rfl ?_
    refine c_aload rfl ?_
    refine c_aload rfl ?_
    refine c_gfi (fun _ C _ => C.i rfl) ?_
    refine d_callv cr_rs (e66) ?_
    refine c_aload rfl ?_
    refine c_aload rfl ?_
    refine c_gfi (fun _ C _ => (C.i rfl).trans (show (vrel (vpi v 1 11 j (v.1 1 11 j - 1)) j (v.1 1 9 j)).1 1 10 j = v.1 1 10 j by rw [vrel_1]; rfl)) ?_
    refine c_pfi (fun _ C _ => C.pi rfl) ?_
    refine c_aload rfl ?_
    refine c_aload rfl ?_
    refine c_gfr (fun _ C l => C.r7 (k := 0) (by decide) l) ?_
    refine c_aload rfl ?_
    refine c_gfi (fun _ C _ => (C.i rfl).trans (show (vrel (vpi v 1 11 j (v.1 1 11 j - 1)) j (v.1 1 9 j)).1 1 7 j = v.1 1 7 j by rw [vrel_1]; rfl)) ?_
    refine c_aald (fun _ C l i => C.a11 l i) (fun p1 => ?_)
    refine c_aload rfl ?_
    refine d_callv cr_rs (e61) ?_
    refine c_goto ?_
    refine BC.blk c72_48 (fun m3 hm3 => ?_)
    exact c_ret ⟨rfl, by rw [vsend, if_neg d1]; rfl⟩
theorem e59 {v : vS} {j : Nat} {x : Int32} : ED CR 59 [rf 7 1, rf 1 j, .inl x] v (ov) (vend v j x) := by
  refine EC.mk (fun n0 => ?_)
  show BC _ n0 59 0 [rf 7 1, rf 1 j, .inl x, rf 0 0] [] _ _
  refine BC.blk c59_0 (fun m1 hm1 => ?_)
  refine c_iconst ?_
  refine c_istore rfl ?_
  refine c_goto ?_
  have lp2 : ∀ (n : Nat) (i : Int32), 0 ≤ i.toInt → i.toInt ≤ (v.2.2.1 (ri (j - 1))).length → BC CR n 59 2 [rf 7 1, rf 1 j, .inl x, .inl i] [] (vclr v ((v.2.2.1 (ri (j - 1))).take i.toNatClampNeg)) (fun o t => o = ov ∧ t = vend v j x) := by
    intro n2
    induction n2 using Nat.strongRecOn with
    | ind n2 ih2 =>
      intro i hi hil
      have ci := x_clamp hi
      refine BC.blk c59_2 (fun m2 hm2 => ?_)
      refine c_iload rfl ?_
      refine c_aload rfl ?_
      refine c_gfrP (fun _ C l => ⟨C.1.lv1 l, C.r11 l⟩) fun hj => ?_
      refine d_callvP cr_rs rfl (fun _ C l => And.intro (C.rl l) (C.rlen l)) (fun hr => e24) (fun hr => ?_)
      rw [vclr_i.2] at hr ⊢
      have o1 := ofN (n := (v.2.2.1 (ri (j - 1))).length) (by omega)
      refine c_icmp_ge (fun d1 => ?_) (fun d1 => ?_)
      · skip
        refine BC.blk c59_32 (fun m3 hm3 => ?_)
        rw [List.take_of_length_le (show (v.2.2.1 (ri (j - 1))).length ≤ i.toNatClampNeg by omega)]
        refine c_aload rfl ?_
        refine c_gfr (fun _ C l => C.r11 l) ?_
        refine d_callvP cr_rs rfl (fun _ C l => C.rl l) (fun hr => e39 hr) (fun hr => ?_)
        refine c_aload rfl ?_
        refine c_gfr (fun _ C l => C.r7 (k := 0) (by decide) l) ?_
        refine c_aload rfl ?_
        refine c_gfi (fun _ C _ => C.i rfl) ?_
        refine c_aald (fun _ C l i => C.a11 l i) (fun p1 => ?_)
        refine c_gfr (fun _ C l => C.r36 l) ?_
        refine c_aload rfl ?_
        refine c_gfr (fun _ C l => C.r10 l) ?_
        refine d_callv cr_rs (e9) ?_
        refine d_callvP cr_rs rfl (fun _ C l => C.rl l) (fun hr => e38 hr) (fun hr => ?_)
        refine c_aload rfl ?_
        refine c_gfr (fun _ C l => C.r10 l) ?_
        refine c_iload rfl ?_
        refine d_callv cr_rs (e12) ?_
        refine c_aload rfl ?_
        refine c_gfr (fun _ C _ => C.r rfl) ?_
        refine c_ifnull (fun d2 => ?_) (fun d2 => ?_)
        · skip
          refine BC.blk c59_84 (fun m4 hm4 => ?_)
          refine c_aload rfl ?_
          refine c_null ?_
          refine c_pfr (fun _ C _ => C.pr rfl) ?_
          refine c_aload rfl ?_
          refine c_iconst ?_
          refine c_pfz (fun _ C _ => C.pi rfl) ?_
          refine c_aload rfl ?_
          refine c_stage ?_
          refine c_pfr (fun _ C _ => C.pr rfl) ?_
          exact c_ret ⟨rfl, by rw [vend, if_pos (show (vend2 v j x).2.1 1 3 j = 0 from d2)]; rfl⟩
        · skip
          refine c_aload rfl ?_
          refine c_gfr (fun _ C _ => C.r rfl) ?_
          refine c_iconst ?_
          refine d_callv cr_rs (e12) ?_
          refine c_goto ?_
          refine BC.blk c59_84 (fun m5 hm5 => ?_)
          refine c_aload rfl ?_
          refine c_null ?_
          refine c_pfr (fun _ C _ => C.pr rfl) ?_
          refine c_aload rfl ?_
          refine c_iconst ?_
          refine c_pfz (fun _ C _ => C.pi rfl) ?_
          refine c_aload rfl ?_
          refine c_stage ?_
          refine c_pfr (fun _ C _ => C.pr rfl) ?_
          exact c_ret ⟨rfl, by rw [vend, if_neg (show ¬ (vend2 v j x).2.1 1 3 j = 0 from d2)]; rfl⟩
      · skip
        have hy := List.getElem?_eq_getElem (show i.toNatClampNeg < (v.2.2.1 (ri (j - 1))).length by omega)
        generalize (v.2.2.1 (ri (j - 1)))[i.toNatClampNeg] = y at hy
        refine c_aload rfl ?_
        refine c_aload rfl ?_
        refine c_gfr (fun _ C l => C.r11 l) ?_
        refine c_iload rfl ?_
        refine d_callv cr_rs (e23) ?_
        rw [vclr_i.2, rat, if_pos hi, hy]
        refine c_null ?_
        refine d_callv cr_rs (e52) ?_
        refine c_iinc rfl rfl ?_
        refine c_goto ?_
        have i1 : (i + 1).toInt = i.toInt + 1 := i32_add (by show _ ≤ _ + 1; omega) (by show _ + 1 < _; omega)
        have ci1 := x_clamp (n := i + 1) (by omega)
        have e9 := ih2 m2 (by omega) (i + 1) (by omega) (by omega)
        rw [show (i + 1).toNatClampNeg = i.toNatClampNeg + 1 by omega, take_s hy, vclr_s] at e9
        exact e9
  exact lp2 _ 0 (by decide) (by show (0 : Int) ≤ _; omega)
theorem e74 {v : vS} {j : Nat} : ED CR 74 [rf 7 1, rf 1 j] v (ov) (vwait v j) := by
  refine EC.mk (fun n0 => ?_)
  show BC _ n0 74 0 [rf 7 1, rf 1 j] [] _ _
  refine BC.blk c74_0 (fun m1 hm1 => ?_)
  refine c_aload rfl ?_
  refine c_dup ?_
  refine c_gfi (fun _ C _ => C.i rfl) ?_
  refine c_iconst ?_
  refine c_bin rfl ?_
  refine c_pfi (fun _ C _ => C.pi rfl) ?_
  refine c_aload rfl ?_
  refine c_gfi (fun _ C _ => (C.i rfl).trans vpi_same) ?_
  refine c_iconst ?_
  refine c_icmpk_lt (k := 20) rfl (fun d1 => ?_) (fun d1 => ?_)
  · skip
    refine BC.blk c74_25 (fun m2 hm2 => ?_)
    exact c_ret ⟨rfl, by rw [vwait, if_pos (show (v.1 1 12 j + 1).toInt < 20 from d1)]⟩
  · skip
    refine c_aload rfl ?_
    refine c_aload rfl ?_
    refine c_iconst ?_
    refine d_callv cr_rs (e59) ?_
    refine c_goto ?_
    refine BC.blk c74_25 (fun m3 hm3 => ?_)
    exact c_ret ⟨rfl, by rw [vwait, if_neg (show ¬ (v.1 1 12 j + 1).toInt < 20 from d1)]⟩
theorem e75 {v : vS} {j : Nat} : ED CR 75 [rf 7 1, rf 1 j] v (ov) (vtalk v j) := by
  refine EC.mk (fun n0 => ?_)
  show BC _ n0 75 0 [rf 7 1, rf 1 j, rf 0 0] [] _ _
  refine BC.blk c75_0 (fun m1 hm1 => ?_)
  refine c_aload rfl ?_
  refine d_callv cr_rs (e5) ?_
  refine c_if_eq (fun d1 => ?_) (fun d1 => ?_)
  · skip
    refine BC.blk c75_42 (fun m2 hm2 => ?_)
    refine c_aload rfl ?_
    refine c_gfi (fun _ C _ => C.i rfl) ?_
    refine c_if_ne (fun d2 => ?_) (fun d2 => ?_)
    · skip
      refine BC.blk c75_74 (fun m3 hm3 => ?_)
      exact c_ret ⟨rfl, by rw [vtalk, if_neg (b2i0.mp d1), if_neg d2]⟩
    · skip
      refine c_aload rfl ?_
      refine c_dup ?_
      refine c_gfi (fun _ C _ => C.i rfl) ?_
      refine c_iconst ?_
      refine c_bin rfl ?_
      refine c_pfi (fun _ C _ => C.pi rfl) ?_
      refine c_aload rfl ?_
      refine c_gfi (fun _ C _ => (C.i rfl).trans vpi_same) ?_
      refine c_iconst ?_
      refine c_icmpk_lt (k := 12) rfl (fun d3 => ?_) (fun d3 => ?_)
      · skip
        refine BC.blk c75_74 (fun m4 hm4 => ?_)
        exact c_ret ⟨rfl, by rw [vtalk, if_neg (b2i0.mp d1), if_pos d2, if_pos (show (v.1 1 14 j + 1).toInt < 12 from d3)]⟩
      · skip
        refine c_aload rfl ?_
        refine c_aload rfl ?_
        refine c_iconst ?_
        refine d_callv cr_rs (e59) ?_
        refine c_goto ?_
        refine BC.blk c75_74 (fun m5 hm5 => ?_)
        exact c_ret ⟨rfl, by rw [vtalk, if_neg (b2i0.mp d1), if_pos d2, if_neg (show ¬ (v.1 1 14 j + 1).toInt < 12 from d3)]⟩
  · skip
    refine c_aload rfl ?_
    refine c_dup ?_
    refine c_gfi (fun _ C _ => C.i rfl) ?_
    refine c_iconst ?_
    refine c_bin rfl ?_
    refine c_pfi (fun _ C _ => C.pi rfl) ?_
    refine c_aload rfl ?_
    refine d_callv cr_rs (e7) ?_
    refine c_istore rfl ?_
    refine c_iload rfl ?_
    refine c_if_le (fun d4 => ?_) (fun d4 => ?_)
    · skip
      refine BC.blk c75_39 (fun m6 hm6 => ?_)
      refine c_goto ?_
      refine BC.blk c75_74 (fun m7 hm7 => ?_)
      exact c_ret ⟨rfl, by rw [vtalk, if_pos (b2i1.mp d1), if_neg (fun z => absurd z.1 (by show ¬ 0 < (vper v j).toInt; exact Int.not_lt.mpr d4))]⟩
    · skip
      refine c_aload rfl ?_
      refine c_gfi (fun _ C _ => (C.i rfl).trans vpi_same) ?_
      refine c_iload rfl ?_
      refine c_icmp_lt (fun d5 => ?_) (fun d5 => ?_)
      · skip
        refine BC.blk c75_39 (fun m8 hm8 => ?_)
        refine c_goto ?_
        refine BC.blk c75_74 (fun m9 hm9 => ?_)
        exact c_ret ⟨rfl, by rw [vtalk, if_pos (b2i1.mp d1), if_neg (fun z => absurd z.2 (by show ¬ (vper v j).toInt ≤ (v.1 1 13 j + 1).toInt; exact Int.not_le.mpr d5))]⟩
      · skip
        refine c_aload rfl ?_
        refine c_aload rfl ?_
        refine d_callv cr_rs (e56) ?_
        refine c_goto ?_
        refine BC.blk c75_39 (fun m10 hm10 => ?_)
        refine c_goto ?_
        refine BC.blk c75_74 (fun m11 hm11 => ?_)
        exact c_ret ⟨rfl, by rw [vtalk, if_pos (b2i1.mp d1), if_pos ⟨show 0 < (vper v j).toInt from Int.not_le.mp d4, show (vper v j).toInt ≤ (v.1 1 13 j + 1).toInt from Int.not_lt.mp d5⟩]⟩
theorem e51 {v : vS} {x y : Int32} : EC CR 51 [rf 7 1, .inl x, .inl y] v (fun o t => t = v ∧ ((lnok x y ∧ o = oa 2 (lno x y)) ∨ (¬ lnok x y ∧ o = .inr 1))) := by
  refine EC.mk (fun n0 => ?_)
  show BC _ n0 51 0 [rf 7 1, .inl x, .inl y] [] _ _
  refine BC.blk c51_0 (fun m1 hm1 => ?_)
  refine c_iload rfl ?_
  refine d_call cr_rs (e44) ?_
  refine c_if_eq (fun d1 => ?_) (fun d1 => ?_)
  · skip
    refine BC.blk c51_18 (fun m2 hm2 => ?_)
    refine c_iconst ?_
    refine c_goto ?_
    refine BC.blk c51_19 (fun m3 hm3 => ?_)
    refine n_need (fun d2 => ?_) (fun d2 => ?_)
    · skip
      exact id ⟨rfl, Or.inr ⟨fun z => b2i0.mp d1 z.1, rfl⟩⟩
    · exact absurd rfl d2
  · skip
    refine c_iload rfl ?_
    refine d_call cr_rs (e26) ?_
    refine c_if_eq (fun d3 => ?_) (fun d3 => ?_)
    · skip
      refine BC.blk c51_18 (fun m4 hm4 => ?_)
      refine c_iconst ?_
      refine c_goto ?_
      refine BC.blk c51_19 (fun m5 hm5 => ?_)
      refine n_need (fun d4 => ?_) (fun d4 => ?_)
      · skip
        exact id ⟨rfl, Or.inr ⟨fun z => b2i0.mp d3 z.2, rfl⟩⟩
      · exact absurd rfl d4
    · skip
      refine c_iconst ?_
      refine c_goto ?_
      refine BC.blk c51_19 (fun m6 hm6 => ?_)
      refine n_need (fun d5 => ?_) (fun d5 => ?_)
      · exact absurd d5 (by decide)
      · skip
        refine c_aload rfl ?_
        refine c_gfr (fun _ C l => C.r7 (k := 0) (by decide) l) ?_
        refine c_iload rfl ?_
        refine c_aald (fun _ C l i => C.a11 l i) (fun p1 => ?_)
        refine c_gfr (fun _ C l => C.r3 (k := 1) rfl l) ?_
        refine c_iload rfl ?_
        refine c_aald (fun _ C l i => C.a16 l i) (fun p2 => ?_)
        exact c_aret ⟨rfl, Or.inl ⟨⟨b2i1.mp d1, b2i1.mp d3⟩, rfl⟩⟩
