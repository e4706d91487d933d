abbrev oi (x : Int32) : xO := .inl (some (.inl x))
abbrev ov : xO := .inl none
abbrev oa (T j : Nat) : xO := .inl (some (.inr (.inr (T, j))))
abbrev rf (T j : Nat) : xV := .inr (.inr (T, j))
theorem cap_ri {c : Nat} (hc : c < 72) : cap (ri c) = 8 := by
  unfold cap ri
  rw [if_neg (by omega), if_neg (by omega), if_neg (by omega), if_neg (by omega)]
theorem CR.n30 {v : vS} {h : xH} {j : Nat} (C : CR v h) (l : x_live h 3 j) : (1 ≤ j ∧ j ≤ 3) ∧ x_vi h 3 0 j = Int32.ofNat (j - 1) := by
  obtain ⟨o, ho, rfl⟩ := C.1.lv3 l
  refine ⟨⟨by omega, by omega⟩, ?_⟩
  rw [C.i rfl]
  refine i32_eq.mpr ?_
  rw [(C.1.2.2.2.2.2.2.1 o ho).2.2.2.2.1, show o + 1 - 1 = o by omega, (ofN (n := o) (by omega)).1]
theorem CR0.lv2 {v : vS} {h : xH} {j : Nat} (C : CR0 v h) (l : x_live h 2 j) : ∃ c, c < 72 ∧ j = c + 1 := by
  have a := l.2
  rw [C.cn (by unfold ck; omega), C.2.2.2.2.2.1.2.1] at a
  exact ⟨j - 1, by have := l.1; omega, by have := l.1; omega⟩
theorem CR.n20 {v : vS} {h : xH} {j : Nat} (C : CR v h) (l : x_live h 2 j) : (1 ≤ j ∧ j ≤ 72) ∧ x_vi h 2 0 j = Int32.ofNat ((j - 1) / 24) := by
  obtain ⟨o, ho, rfl⟩ := C.1.lv2 l
  refine ⟨⟨by omega, by omega⟩, ?_⟩
  rw [C.i rfl]
  refine i32_eq.mpr ?_
  rw [(C.1.2.2.2.2.2.2.2.1 o ho).2.2.2.1, show o + 1 - 1 = o by omega, (ofN (n := o / 24) (by omega)).1]
theorem CR.n21 {v : vS} {h : xH} {j : Nat} (C : CR v h) (l : x_live h 2 j) : (1 ≤ j ∧ j ≤ 72) ∧ x_vi h 2 1 j = Int32.ofNat ((j - 1) % 24) := by
  obtain ⟨o, ho, rfl⟩ := C.1.lv2 l
  refine ⟨⟨by omega, by omega⟩, ?_⟩
  rw [C.i rfl]
  refine i32_eq.mpr ?_
  rw [(C.1.2.2.2.2.2.2.2.1 o ho).2.2.2.2, show o + 1 - 1 = o by omega, (ofN (n := o % 24) (by omega)).1]
theorem ofN_mul (a b : Nat) : Int32.ofNat a * Int32.ofNat b = Int32.ofNat (a * b) := (Int32.ofNat_mul a b).symm
theorem ofN_add (a b : Nat) : Int32.ofNat a + Int32.ofNat b = Int32.ofNat (a + b) := (Int32.ofNat_add a b).symm
theorem ofN_div {a b : Nat} (ha : a ≤ 100000) (hb : b ≤ 100000) (hb0 : 0 < b) : Int32.ofNat a / Int32.ofNat b = Int32.ofNat (a / b) := by
  have h1 := ofN ha
  have h2 := ofN hb
  have h3 := ofN (n := a / b) (Nat.le_trans (Nat.div_le_self a b) ha)
  refine i32_eq.mpr ?_
  rw [i32_div (by omega) (by omega), h1.1, h2.1, h3.1]
  exact (Int.natCast_ediv a b).symm ▸ rfl
theorem ofN_lit {k : Nat} : (OfNat.ofNat k : Int32) = Int32.ofNat k := rfl
/-- the code of a part of an office -/
theorem lcd_e {j : Nat} {x : Int32} : (1000 : Int32) * Int32.ofNat (j - 1) + x = Int32.ofNat (1000 * (j - 1)) + x := by
  rw [show (1000 : Int32) = Int32.ofNat 1000 from rfl, ofN_mul]
theorem lnm_e {j : Nat} (hj : 1 ≤ j ∧ j ≤ 72) : Int32.ofNat ((j - 1) / 24) * 24 + Int32.ofNat ((j - 1) % 24) = Int32.ofNat (j - 1) := by
  rw [show (24 : Int32) = Int32.ofNat 24 from rfl, ofN_mul, ofN_add]
  congr 1
  omega
theorem lfl_e {j : Nat} (hj : 1 ≤ j ∧ j ≤ 72) : Int32.ofNat ((j - 1) % 24) / 8 * 4 = Int32.ofNat ((j - 1) % 24 / 8 * 4) := by
  rw [show (8 : Int32) = Int32.ofNat 8 from rfl, show (4 : Int32) = Int32.ofNat 4 from rfl, ofN_div (by omega) (by omega) (by omega), ofN_mul]
/-- a line leaves its call -/
def vlv (v : vS) (j : Nat) (x : Int32) : vS := vpi (vpr v 2 5 j 0) 2 3 j (if v.1 2 2 j = 0 then 0 else x)
/-- a call goes to an office -/
def vgo (v : vS) (j : Nat) (x : Int32) : vS := vpi (vpi v 1 7 j x) 1 8 j (v.1 1 8 j ||| (1 <<< (x &&& 31)))
/-- a call starts anew -/
def vnew (v : vS) (j : Nat) (x : Int32) : vS := vpi (vpi (vgo (vpi (vpi (vpr (vpr v 1 2 j 2) 1 4 j 0) 1 6 j 1) 1 8 j 0) j (Int32.ofNat ((j - 1) / 24))) 1 9 j x) 1 12 j 0
theorem e45 {v : vS} {x : Int32} : EC CR 45 [.inl x] v (fun o t => t = v ∧ ((x = 0 ∧ o = .inr 1) ∨ (¬ x = 0 ∧ o = ov))) := by
  refine EC.mk (fun n0 => ?_)
  show BC _ n0 45 0 [.inl x] [] _ _
  refine BC.blk c45_0 (fun m1 hm1 => ?_)
  refine c_iload rfl ?_
  refine c_if_ne (fun d1 => ?_) (fun d1 => ?_)
  · skip
    refine BC.blk c45_12 (fun m2 hm2 => ?_)
    exact c_ret ⟨rfl, Or.inr ⟨d1, rfl⟩⟩
  · skip
    exact c_throw cr_rs ⟨rfl, Or.inl ⟨d1, rfl⟩⟩
theorem e46 {v : vS} {x : Int32} : EC CR 46 [.inl x] v (fun o t => t = v ∧ ((x = 0 ∧ o = .inr 2) ∨ (¬ x = 0 ∧ o = ov))) := by
  refine EC.mk (fun n0 => ?_)
  show BC _ n0 46 0 [.inl x] [] _ _
  refine BC.blk c46_0 (fun m1 hm1 => ?_)
  refine c_iload rfl ?_
  refine c_if_ne (fun d1 => ?_) (fun d1 => ?_)
  · skip
    refine BC.blk c46_12 (fun m2 hm2 => ?_)
    exact c_ret ⟨rfl, Or.inr ⟨d1, rfl⟩⟩
  · skip
    exact c_throw cr_rs ⟨rfl, Or.inl ⟨d1, rfl⟩⟩
section XNA
variable {m μ nx mc ms bc bs : Nat} {r : List (Nat × xI)} {ls st : List xV} {v : vS} {G : xO → vS → Prop}
theorem n_need {x : Int32} (kx : x = 0 → G (.inr 1) v) (kk : ¬ x = 0 → TC CR m μ r ls st v G) : TC CR m μ ((nx, x_call 45 1 mc ms bc bs) :: r) ls (.inl x :: st) v G := by
  refine c_call cr_rs (e45 (x := x)) (fun w t p => ?_) (fun k t p => ?_)
  · obtain ⟨rfl, ⟨_, e⟩ | ⟨h, e⟩⟩ := p
    · cases e
    · cases e; exact kk h
  · obtain ⟨rfl, ⟨h, e⟩ | ⟨_, e⟩⟩ := p
    · cases e; exact kx h
    · cases e
theorem n_allow {x : Int32} (kx : x = 0 → G (.inr 2) v) (kk : ¬ x = 0 → TC CR m μ r ls st v G) : TC CR m μ ((nx, x_call 46 1 mc ms bc bs) :: r) ls (.inl x :: st) v G := by
  refine c_call cr_rs (e46 (x := x)) (fun w t p => ?_) (fun k t p => ?_)
  · obtain ⟨rfl, ⟨_, e⟩ | ⟨h, e⟩⟩ := p
    · cases e
    · cases e; exact kk h
  · obtain ⟨rfl, ⟨h, e⟩ | ⟨_, e⟩⟩ := p
    · cases e; exact kx h
    · cases e
end XNA
theorem e25 {v : vS} {x y z : Int32} : ED CR 25 [.inl x, .inl y, .inl z] v (oi (b2i (y.toInt ≤ x.toInt ∧ x.toInt ≤ z.toInt))) (v) := by
  refine EC.mk (fun n0 => ?_)
  show BC _ n0 25 0 [.inl x, .inl y, .inl z] [] _ _
  refine BC.blk c25_0 (fun m1 hm1 => ?_)
  refine c_iload rfl ?_
  refine c_iload rfl ?_
  refine c_icmp_lt (fun d1 => ?_) (fun d1 => ?_)
  · skip
    refine BC.blk c25_14 (fun m2 hm2 => ?_)
    refine c_iconst ?_
    refine c_goto ?_
    refine BC.blk c25_15 (fun m3 hm3 => ?_)
    exact c_zret ⟨by rw [b2i_neg (by omega)], rfl⟩
  · skip
    refine c_iload rfl ?_
    refine c_iload rfl ?_
    refine c_icmp_gt (fun d2 => ?_) (fun d2 => ?_)
    · skip
      refine BC.blk c25_14 (fun m4 hm4 => ?_)
      refine c_iconst ?_
      refine c_goto ?_
      refine BC.blk c25_15 (fun m5 hm5 => ?_)
      exact c_zret ⟨by rw [b2i_neg (by omega)], rfl⟩
    · skip
      refine c_iconst ?_
      refine c_goto ?_
      refine BC.blk c25_15 (fun m6 hm6 => ?_)
      exact c_zret ⟨by rw [b2i_pos (by omega)], rfl⟩
theorem e44 {v : vS} {x : Int32} : ED CR 44 [.inl x] v (oi (b2i (0 ≤ x.toInt ∧ x.toInt ≤ 2))) (v) := by
  refine EC.mk (fun n0 => ?_)
  show BC _ n0 44 0 [.inl x] [] _ _
  refine BC.blk c44_0 (fun m1 hm1 => ?_)
  refine c_iload rfl ?_
  refine c_iconst ?_
  refine c_iconst ?_
  refine d_call cr_rs (e25) ?_
  exact c_zret ⟨rfl, rfl⟩
theorem e26 {v : vS} {x : Int32} : ED CR 26 [.inl x] v (oi (b2i (0 ≤ x.toInt ∧ x.toInt ≤ 23))) (v) := by
  refine EC.mk (fun n0 => ?_)
  show BC _ n0 26 0 [.inl x] [] _ _
  refine BC.blk c26_0 (fun m1 hm1 => ?_)
  refine c_iload rfl ?_
  refine c_iconst ?_
  refine c_iconst ?_
  refine d_call cr_rs (e25) ?_
  exact c_zret ⟨rfl, rfl⟩
theorem e24 {v : vS} {r : Nat} : ED CR 24 [rf 5 r] v (oi (Int32.ofNat (v.2.2.1 r).length)) (v) := by
  refine EC.mk (fun n0 => ?_)
  show BC _ n0 24 0 [rf 5 r] [] _ _
  refine BC.blk c24_0 (fun m1 hm1 => ?_)
  refine c_aload rfl ?_
  refine c_gfi (fun _ C l => C.sz l) ?_
  exact c_iret ⟨rfl, rfl⟩
theorem e23 {v : vS} {r : Nat} {x : Int32} : ED CR 23 [rf 5 r, .inl x] v (oi (rat (v.2.2.1 r) x)) (v) := by
  refine EC.mk (fun n0 => ?_)
  show BC _ n0 23 0 [rf 5 r, .inl x] [] _ _
  refine BC.blk c23_0 (fun m1 hm1 => ?_)
  refine c_iload rfl ?_
  refine c_if_lt (fun d1 => ?_) (fun d1 => ?_)
  · skip
    refine BC.blk c23_21 (fun m2 hm2 => ?_)
    refine c_iconst ?_
    refine c_goto ?_
    refine BC.blk c23_22 (fun m3 hm3 => ?_)
    exact c_iret ⟨by rw [rat, if_neg (by omega)], rfl⟩
  · skip
    refine c_iload rfl ?_
    refine c_aload rfl ?_
    refine c_gfiP (fun _ C l => ⟨And.intro (C.rl l) (C.rlen l), C.sz l⟩) fun hr => ?_
    refine c_icmp_ge (fun d2 => ?_) (fun d2 => ?_)
    · skip
      refine BC.blk c23_21 (fun m4 hm4 => ?_)
      refine c_iconst ?_
      refine c_goto ?_
      refine BC.blk c23_22 (fun m5 hm5 => ?_)
      exact c_iret ⟨by rw [rat, if_pos (by omega), List.getElem?_eq_none (by have := (ofN (n := (v.2.2.1 r).length) (by omega)).1; have := x_clamp (n := x) (by omega); omega)]; rfl, rfl⟩
    · skip
      refine c_aload rfl ?_
      refine c_gfr (fun _ C l => C.r50 l) ?_
      refine c_iload rfl ?_
      refine c_ald (P := True) (fun _ C l i => ⟨trivial, C.it (C.1.lr hr.1) (by omega) (by have := (ofN (n := (v.2.2.1 r).length) (by omega)).1; omega)⟩) (fun p1 => ?_)
      refine c_goto ?_
      refine BC.blk c23_22 (fun m6 hm6 => ?_)
      exact c_iret ⟨by rw [rat, if_pos (by omega)], rfl⟩
theorem e21 {v : vS} {r : Nat} {x : Int32} : ED CR 21 [rf 5 r, .inl x] v (oi (b2i (x ∈ v.2.2.1 r))) (v) := by
  refine EC.mk (fun n0 => ?_)
  show BC _ n0 21 0 [rf 5 r, .inl x, rf 0 0] [] _ _
  refine BC.blk c21_0 (fun m1 hm1 => ?_)
  refine c_iconst ?_
  refine c_istore rfl ?_
  refine c_goto ?_
  have lp2 : ∀ (n : Nat) (i : Int32), 0 ≤ i.toInt → (∀ t : Nat, (t : Int) < i.toInt → (v.2.2.1 r)[t]? ≠ some x) → BC CR n 21 2 [rf 5 r, .inl x, .inl i] [] v (fun o t => o = oi (b2i (x ∈ v.2.2.1 r)) ∧ t = v) := by
    intro n2
    induction n2 using Nat.strongRecOn with
    | ind n2 ih2 =>
      intro i hi hn
      have ci := x_clamp hi
      refine BC.blk c21_2 (fun m2 hm2 => ?_)
      refine c_iload rfl ?_
      refine c_aload rfl ?_
      refine c_gfiP (fun _ C l => ⟨And.intro (C.rl l) (C.rlen l), C.sz l⟩) fun hr => ?_
      have o1 := ofN (n := (v.2.2.1 r).length) (by omega)
      refine c_icmp_ge (fun d1 => ?_) (fun d1 => ?_)
      · skip
        refine BC.blk c21_28 (fun m3 hm3 => ?_)
        refine c_iconst ?_
        have hx9 : ¬ x ∈ v.2.2.1 r := fun hx => by
          obtain ⟨t, ht⟩ := List.mem_iff_getElem?.mp hx
          have := (List.getElem?_eq_some_iff.mp ht).1
          exact hn t (by omega) ht
        exact c_zret ⟨by rw [b2i_neg hx9], rfl⟩
      · skip
        have hlt : i.toNatClampNeg < (v.2.2.1 r).length := by omega
        have hy := List.getElem?_eq_getElem hlt
        generalize (v.2.2.1 r)[i.toNatClampNeg] = y at hy
        refine c_aload rfl ?_
        refine c_gfr (fun _ C l => C.r50 l) ?_
        refine c_iload rfl ?_
        refine c_ald (x := y) (P := True) (fun _ C l _ => ⟨trivial, by rw [C.it (C.1.lr hr.1) hi (by omega), hy]; rfl⟩) (fun p1 => ?_)
        refine c_iload rfl ?_
        refine c_icmp_ne (fun d2 => ?_) (fun d2 => ?_)
        · skip
          refine BC.blk c21_22 (fun m4 hm4 => ?_)
          refine c_iinc rfl rfl ?_
          refine c_goto ?_
          have i1 : (i + 1).toInt = i.toInt + 1 := i32_add (by show _ ≤ _ + 1; omega) (by show _ + 1 < _; omega)
          refine ih2 m4 (by omega) (i + 1) (by omega) (fun t ht => ?_)
          by_cases q : t = i.toNatClampNeg
          · rw [q, hy]
            exact fun z => d2 (Option.some.inj z)
          · exact hn t (by omega)
        · skip
          refine c_iconst ?_
          exact c_zret ⟨by rw [b2i_pos (List.mem_iff_getElem?.mpr ⟨_, by rw [hy, d2]⟩)], rfl⟩
  exact lp2 _ 0 (by decide) (fun t ht => absurd ht (by show ¬ (t : Int) < 0; omega))
theorem e9 {v : vS} {j : Nat} : ED CR 9 [rf 2 j] v (oi (Int32.ofNat (j - 1))) (v) := by
  refine EC.mk (fun n0 => ?_)
  show BC _ n0 9 0 [rf 2 j] [] _ _
  refine BC.blk c9_0 (fun m1 hm1 => ?_)
  refine c_aload rfl ?_
  refine c_gfiP (fun _ C l => C.n20 l) fun hj => ?_
  refine c_iconst ?_
  refine c_bin rfl ?_
  refine c_aload rfl ?_
  refine c_gfi (fun _ C l => (C.n21 l).2) ?_
  refine c_bin rfl ?_
  exact c_iret ⟨by rw [lnm_e hj], rfl⟩
theorem e10 {v : vS} {j : Nat} : ED CR 10 [rf 2 j] v (oi (Int32.ofNat ((j - 1) % 24 / 8 * 4))) (v) := by
  refine EC.mk (fun n0 => ?_)
  show BC _ n0 10 0 [rf 2 j] [] _ _
  refine BC.blk c10_0 (fun m1 hm1 => ?_)
  refine c_aload rfl ?_
  refine c_gfiP (fun _ C l => C.n21 l) fun hj => ?_
  refine c_iconst ?_
  refine c_idiv rfl ?_
  refine c_iconst ?_
  refine c_bin rfl ?_
  exact c_iret ⟨by rw [lfl_e hj], rfl⟩
theorem e11 {v : vS} {j : Nat} : ED CR 11 [rf 2 j] v (oi (b2i (v.1 2 2 j = 0 ∧ v.2.1 2 5 j = 0))) (v) := by
  refine EC.mk (fun n0 => ?_)
  show BC _ n0 11 0 [rf 2 j] [] _ _
  refine BC.blk c11_0 (fun m1 hm1 => ?_)
  refine c_aload rfl ?_
  refine c_gfi (fun _ C _ => C.i rfl) ?_
  refine c_if_ne (fun d1 => ?_) (fun d1 => ?_)
  · skip
    refine BC.blk c11_18 (fun m2 hm2 => ?_)
    refine c_iconst ?_
    refine c_goto ?_
    refine BC.blk c11_19 (fun m3 hm3 => ?_)
    exact c_zret ⟨by rw [b2i_neg (fun z => d1 z.1)], rfl⟩
  · skip
    refine c_aload rfl ?_
    refine c_gfr (fun _ C _ => C.r rfl) ?_
    refine c_ifnonnull (fun d2 => ?_) (fun d2 => ?_)
    · skip
      refine BC.blk c11_18 (fun m4 hm4 => ?_)
      refine c_iconst ?_
      refine c_goto ?_
      refine BC.blk c11_19 (fun m5 hm5 => ?_)
      exact c_zret ⟨by rw [b2i_neg (fun z => d2 z.2)], rfl⟩
    · skip
      refine c_iconst ?_
      refine c_goto ?_
      refine BC.blk c11_19 (fun m6 hm6 => ?_)
      exact c_zret ⟨by rw [b2i_pos ⟨d1, d2⟩], rfl⟩
theorem e12 {v : vS} {j : Nat} {x : Int32} : ED CR 12 [rf 2 j, .inl x] v (ov) (vlv v j x) := by
  refine EC.mk (fun n0 => ?_)
  show BC _ n0 12 0 [rf 2 j, .inl x] [] _ _
  refine BC.blk c12_0 (fun m1 hm1 => ?_)
  refine c_aload rfl ?_
  refine c_null ?_
  refine c_pfr (fun _ C _ => C.pr rfl) ?_
  refine c_aload rfl ?_
  refine c_aload rfl ?_
  refine c_gfi (fun _ C _ => C.i rfl) ?_
  refine c_if_eq (fun d1 => ?_) (fun d1 => ?_)
  · skip
    refine BC.blk c12_17 (fun m2 hm2 => ?_)
    refine c_iconst ?_
    refine c_goto ?_
    refine BC.blk c12_18 (fun m3 hm3 => ?_)
    refine c_pfi (fun _ C _ => C.pi rfl) ?_
    exact c_ret ⟨rfl, by rw [vlv, if_pos (show v.1 2 2 j = 0 from d1)]⟩
  · skip
    refine c_iload rfl ?_
    refine c_goto ?_
    refine BC.blk c12_18 (fun m4 hm4 => ?_)
    refine c_pfi (fun _ C _ => C.pi rfl) ?_
    exact c_ret ⟨rfl, by rw [vlv, if_neg (show ¬ v.1 2 2 j = 0 from d1)]⟩
theorem e14 {v : vS} {j : Nat} {x : Int32} : ED CR 14 [rf 3 j, .inl x] v (oi (Int32.ofNat (1000 * (j - 1)) + x)) (v) := by
  refine EC.mk (fun n0 => ?_)
  show BC _ n0 14 0 [rf 3 j, .inl x] [] _ _
  refine BC.blk c14_0 (fun m1 hm1 => ?_)
  refine c_iconst ?_
  refine c_aload rfl ?_
  refine c_gfiP (fun _ C l => C.n30 l) fun hj => ?_
  refine c_bin rfl ?_
  refine c_iload rfl ?_
  refine c_bin rfl ?_
  exact c_iret ⟨by rw [lcd_e], rfl⟩
theorem e2 {v : vS} {j : Nat} {x : Int32} : ED CR 2 [rf 1 j, .inl x] v (ov) (vgo v j x) := by
  refine EC.mk (fun n0 => ?_)
  show BC _ n0 2 0 [rf 1 j, .inl x] [] _ _
  refine BC.blk c2_0 (fun m1 hm1 => ?_)
  refine c_aload rfl ?_
  refine c_iload rfl ?_
  refine c_pfi (fun _ C _ => C.pi rfl) ?_
  refine c_aload rfl ?_
  refine c_dup ?_
  refine c_gfi (fun _ C _ => C.i rfl) ?_
  refine c_iconst ?_
  refine c_iload rfl ?_
  refine c_bin rfl ?_
  refine c_bin rfl ?_
  refine c_pfi (fun _ C _ => C.pi rfl) ?_
  exact c_ret ⟨rfl, rfl⟩
theorem e3 {v : vS} {j : Nat} {x : Int32} : ED CR 3 [rf 1 j, .inl x] v (ov) (vnew v j x) := by
  refine EC.mk (fun n0 => ?_)
  show BC _ n0 3 0 [rf 1 j, .inl x] [] _ _
  refine BC.blk c3_0 (fun m1 hm1 => ?_)
  refine c_aload rfl ?_
  refine c_stage ?_
  refine c_pfr (fun _ C _ => C.pr rfl) ?_
  refine c_aload rfl ?_
  refine c_null ?_
  refine c_pfr (fun _ C _ => C.pr rfl) ?_
  refine c_aload rfl ?_
  refine c_iconst ?_
  refine c_pfi (fun _ C _ => C.pi rfl) ?_
  refine c_aload rfl ?_
  refine c_iconst ?_
  refine c_pfi (fun _ C _ => C.pi rfl) ?_
  refine c_aload rfl ?_
  refine c_aload rfl ?_
  refine c_gfrP (fun _ C l => ⟨C.1.lv1 l, C.r10 l⟩) fun hj => ?_
  refine c_gfi (fun _ C l => (C.n20 l).2) ?_
  refine d_callv cr_rs (e2) ?_
  refine c_aload rfl ?_
  refine c_iload rfl ?_
  refine c_pfi (fun _ C _ => C.pi rfl) ?_
  refine c_aload rfl ?_
  refine c_iconst ?_
  refine c_pfi (fun _ C _ => C.pi rfl) ?_
  exact c_ret ⟨rfl, rfl⟩
theorem e4 {v : vS} {j : Nat} {x : Int32} : ED CR 4 [rf 1 j, .inl x] v (oi (b2i (¬ (v.1 1 8 j >>> (x &&& 31)) &&& 1 = 0))) (v) := by
  refine EC.mk (fun n0 => ?_)
  show BC _ n0 4 0 [rf 1 j, .inl x] [] _ _
  refine BC.blk c4_0 (fun m1 hm1 => ?_)
  refine c_aload rfl ?_
  refine c_gfi (fun _ C _ => C.i rfl) ?_
  refine c_iload rfl ?_
  refine c_bin rfl ?_
  refine c_iconst ?_
  refine c_bin rfl ?_
  refine c_if_eq (fun d1 => ?_) (fun d1 => ?_)
  · skip
    refine BC.blk c4_15 (fun m2 hm2 => ?_)
    refine c_iconst ?_
    refine c_goto ?_
    refine BC.blk c4_16 (fun m3 hm3 => ?_)
    exact c_zret ⟨by rw [b2i_neg (fun z => z d1)], rfl⟩
  · skip
    refine c_iconst ?_
    refine c_goto ?_
    refine BC.blk c4_16 (fun m4 hm4 => ?_)
    exact c_zret ⟨by rw [b2i_pos d1], rfl⟩
theorem e5 {v : vS} {j : Nat} : ED CR 5 [rf 1 j] v (oi (b2i (¬ v.2.1 1 3 j = 0 ∧ ¬ v.1 2 2 (v.2.1 1 3 j) = 0))) (v) := by
  refine EC.mk (fun n0 => ?_)
  show BC _ n0 5 0 [rf 1 j] [] _ _
  refine BC.blk c5_0 (fun m1 hm1 => ?_)
  refine c_aload rfl ?_
  refine c_gfr (fun _ C _ => C.r rfl) ?_
  refine c_ifnull (fun d1 => ?_) (fun d1 => ?_)
  · skip
    refine BC.blk c5_21 (fun m2 hm2 => ?_)
    refine c_iconst ?_
    refine c_goto ?_
    refine BC.blk c5_22 (fun m3 hm3 => ?_)
    exact c_zret ⟨by rw [b2i_neg (fun z => z.1 d1)], rfl⟩
  · skip
    refine c_aload rfl ?_
    refine c_gfr (fun _ C _ => C.r rfl) ?_
    refine c_gfi (fun _ C _ => C.i rfl) ?_
    refine c_if_eq (fun d2 => ?_) (fun d2 => ?_)
    · skip
      refine BC.blk c5_21 (fun m4 hm4 => ?_)
      refine c_iconst ?_
      refine c_goto ?_
      refine BC.blk c5_22 (fun m5 hm5 => ?_)
      exact c_zret ⟨by rw [b2i_neg (fun z => z.2 d2)], rfl⟩
    · skip
      refine c_iconst ?_
      refine c_goto ?_
      refine BC.blk c5_22 (fun m6 hm6 => ?_)
      exact c_zret ⟨by rw [b2i_pos ⟨d1, d2⟩], rfl⟩
theorem e6 {v : vS} {j : Nat} : ED CR 6 [rf 1 j] v (oi (if v.2.1 1 4 j = 0 then 0 else v.1 4 3 (v.2.1 1 4 j))) (v) := by
  refine EC.mk (fun n0 => ?_)
  show BC _ n0 6 0 [rf 1 j] [] _ _
  refine BC.blk c6_0 (fun m1 hm1 => ?_)
  refine c_aload rfl ?_
  refine c_gfr (fun _ C _ => C.r rfl) ?_
  refine c_ifnonnull (fun d1 => ?_) (fun d1 => ?_)
  · skip
    refine BC.blk c6_11 (fun m2 hm2 => ?_)
    refine c_aload rfl ?_
    refine c_gfr (fun _ C _ => C.r rfl) ?_
    refine c_gfi (fun _ C _ => C.i rfl) ?_
    refine c_goto ?_
    refine BC.blk c6_18 (fun m3 hm3 => ?_)
    exact c_iret ⟨by rw [if_neg d1], rfl⟩
  · skip
    refine c_iconst ?_
    refine c_goto ?_
    refine BC.blk c6_18 (fun m4 hm4 => ?_)
    exact c_iret ⟨by rw [if_pos d1], rfl⟩
theorem e7 {v : vS} {j : Nat} : ED CR 7 [rf 1 j] v (oi (if v.2.1 1 4 j = 0 then 0 else v.1 4 4 (v.2.1 1 4 j))) (v) := by
  refine EC.mk (fun n0 => ?_)
  show BC _ n0 7 0 [rf 1 j] [] _ _
  refine BC.blk c7_0 (fun m1 hm1 => ?_)
  refine c_aload rfl ?_
  refine c_gfr (fun _ C _ => C.r rfl) ?_
  refine c_ifnonnull (fun d1 => ?_) (fun d1 => ?_)
  · skip
    refine BC.blk c7_11 (fun m2 hm2 => ?_)
    refine c_aload rfl ?_
    refine c_gfr (fun _ C _ => C.r rfl) ?_
    refine c_gfi (fun _ C _ => C.i rfl) ?_
    refine c_goto ?_
    refine BC.blk c7_18 (fun m3 hm3 => ?_)
    exact c_iret ⟨by rw [if_neg d1], rfl⟩
  · skip
    refine c_iconst ?_
    refine c_goto ?_
    refine BC.blk c7_18 (fun m4 hm4 => ?_)
    exact c_iret ⟨by rw [if_pos d1], rfl⟩
theorem e41 {v : vS} {j : Nat} : ED CR 41 [rf 6 j] v (oi (b2i (v.1 6 2 j = 0 ∧ v.2.1 6 3 j = 0))) (v) := by
  refine EC.mk (fun n0 => ?_)
  show BC _ n0 41 0 [rf 6 j] [] _ _
  refine BC.blk c41_0 (fun m1 hm1 => ?_)
  refine c_aload rfl ?_
  refine c_gfi (fun _ C _ => C.i rfl) ?_
  refine c_if_ne (fun d1 => ?_) (fun d1 => ?_)
  · skip
    refine BC.blk c41_18 (fun m2 hm2 => ?_)
    refine c_iconst ?_
    refine c_goto ?_
    refine BC.blk c41_19 (fun m3 hm3 => ?_)
    exact c_zret ⟨by rw [b2i_neg (fun z => d1 z.1)], rfl⟩
  · skip
    refine c_aload rfl ?_
    refine c_gfr (fun _ C _ => C.r rfl) ?_
    refine c_ifnonnull (fun d2 => ?_) (fun d2 => ?_)
    · skip
      refine BC.blk c41_18 (fun m4 hm4 => ?_)
      refine c_iconst ?_
      refine c_goto ?_
      refine BC.blk c41_19 (fun m5 hm5 => ?_)
      exact c_zret ⟨by rw [b2i_neg (fun z => d2 z.2)], rfl⟩
    · skip
      refine c_iconst ?_
      refine c_goto ?_
      refine BC.blk c41_19 (fun m6 hm6 => ?_)
      exact c_zret ⟨by rw [b2i_pos ⟨d1, d2⟩], rfl⟩
theorem e42 {v : vS} {j : Nat} {x : Int32} : ED CR 42 [rf 6 j, .inl x] v (oi (b2i (v.1 6 0 j = x ∨ v.1 6 1 j = x))) (v) := by
  refine EC.mk (fun n0 => ?_)
  show BC _ n0 42 0 [rf 6 j, .inl x] [] _ _
  refine BC.blk c42_0 (fun m1 hm1 => ?_)
  refine c_aload rfl ?_
  refine c_gfi (fun _ C _ => C.i rfl) ?_
  refine c_iload rfl ?_
  refine c_icmp_eq (fun d1 => ?_) (fun d1 => ?_)
  · skip
    refine BC.blk c42_16 (fun m2 hm2 => ?_)
    refine c_iconst ?_
    refine c_goto ?_
    refine BC.blk c42_21 (fun m3 hm3 => ?_)
    exact c_zret ⟨by rw [b2i_pos (Or.inl d1)], rfl⟩
  · skip
    refine c_aload rfl ?_
    refine c_gfi (fun _ C _ => C.i rfl) ?_
    refine c_iload rfl ?_
    refine c_icmp_ne (fun d2 => ?_) (fun d2 => ?_)
    · skip
      refine BC.blk c42_20 (fun m4 hm4 => ?_)
      refine c_iconst ?_
      refine c_goto ?_
      refine BC.blk c42_21 (fun m5 hm5 => ?_)
      exact c_zret ⟨by rw [b2i_neg (fun z => z.elim d1 d2)], rfl⟩
    · skip
      refine c_goto ?_
      refine BC.blk c42_16 (fun m6 hm6 => ?_)
      refine c_iconst ?_
      refine c_goto ?_
      refine BC.blk c42_21 (fun m7 hm7 => ?_)
      exact c_zret ⟨by rw [b2i_pos (Or.inr d2)], rfl⟩
