/-! A CALL ENDS, on both sides -/
/-- what the end of a call needs of its line -/
def PE (v : vS) (F : xF) (c : Nat) : Prop := ((v.2.1 1 3 (c + 1) : Int) = (F 57 c).toInt + 1 ∧ (F 57 c).toInt < 72) ∧ v.1 2 2 (c + 1) = F 22 c ∧ v.1 2 4 (c + 1) = F 25 c ∧ (v.1 1 8 (c + 1) = F 55 c ∧ v.1 1 11 (c + 1) = F 52 c ∧ v.1 1 12 (c + 1) = F 56 c ∧ v.1 1 13 (c + 1) = F 61 c) ∧ F 23 c = 0 ∧ (-1 ≤ (F 24 c).toInt ∧ (F 24 c).toInt < 0) ∧ (-1 ≤ (F 28 c).toInt ∧ (F 28 c).toInt < 0) ∧ ∃ o, o < 3 ∧ v.1 1 7 (c + 1) = Int32.ofNat o ∧ ∀ o', o' < 3 → o' ≠ o → Int32.ofNat c ∉ v.2.2.1 (30 * o' + 2)
section XEN
variable {D : Int} {v : vS} {F t : xF} {c : Nat} {x : Int32}
theorem Sim.pe (S : Sim D v F) (hc : c < 72) (h : ¬ F 47 c = 0) : PE v F c := by
  obtain ⟨p1, p2, p3, p4, p5, p6, p7, p8, p9, p10, p11, p12, p13, p14, p15, p16, p17, -⟩ := S.pl hc
  obtain ⟨-, ⟨q1, q2⟩, ⟨q3, q4⟩, -⟩ := p11 h
  have h28 : (F 28 c).toInt < 0 := Int.not_le.mp (fun z => h (p10 z))
  have h24 : (F 24 c).toInt < 0 := Int.not_le.mp (fun z => h (p8.2 z).1)
  have h23 : F 23 c = 0 := Classical.byContradiction (fun z => h (p9 z).1)
  have e7 := x_clamp q3
  refine ⟨p4, p2.1, p2.2.1, p6, h23, ⟨p8.1, h24⟩, ⟨p3.2.1, h28⟩, (v.1 1 7 (c + 1)).toNatClampNeg, by omega, i32_nat q3, fun o' ho' hne z => ?_⟩
  obtain ⟨c', b1, b2, -, b4, b5, -⟩ := (S.1.jq o' ho').2.2.2 _ z
  have ec := ofN_inj (by omega) (by omega) b2
  subst ec
  have e : v.1 1 7 (c + 1) = F 50 c := (p14 b4).1
  rw [e, b5, (ofN (n := o') (by omega)).2] at hne
  exact hne rfl
/-- the lines that a call has -/
def LN (F : xF) (c : Nat) : Nat → Prop := fun y => y = c ∨ (0 ≤ (F 57 c).toInt ∧ y = (F 57 c).toNatClampNeg)
theorem SX.en (S : SX D (fun y => y = c) (fun _ => False) v F) (hc : c < 72) (pe : PE v F c) (hl : 0 ≤ (F 57 c).toInt → F 47 (F 57 c).toNatClampNeg = 0) (R : EN F c (v.2.2.1 (ri c)) (fun o => v.2.2.1 (30 * o + 2)) t) : SX D (LN F c) (LN F c) (vend1 v (c + 1)) t := by
  obtain ⟨t1, t2, e1, e2, e3⟩ := R
  obtain ⟨-, -, -, -, -, -, -, o, ho, e7, hno⟩ := pe
  have S1 := S.clr hc rfl e1
  have rw0 : ∀ o', o' < 3 → (vend0 v (c + 1)).2.2.1 (30 * o' + 2) = v.2.2.1 (30 * o' + 2) := fun o' ho' => by
    show x_u1 (vclr v (v.2.2.1 (ri c))).2.2.1 (ri c) [] (30 * o' + 2) = _
    rw [u1_ne (ri_no hc (by omega)), vclr_i.2]
  have S2 := S1.drop (F' := t2) (c := c) ho (fun o' ho' hne => by rw [rw0 o' ho']; exact hno o' ho' hne) ⟨e2.1, fun o' ho' => by show LV t2 45 46 72 o' (rdel ((vend0 v (c + 1)).2.2.1 (30 * o' + 2)) (Int32.ofNat c)); rw [rw0 o' ho']; exact e2.2 o' ho'⟩
  have ev : vend1 v (c + 1) = vrw (vend0 v (c + 1)) (30 * o + 2) (rdel ((vend0 v (c + 1)).2.2.1 (30 * o + 2)) (Int32.ofNat c)) := by
    unfold vend1
    have : (vend0 v (c + 1)).1 1 7 (c + 1) = Int32.ofNat o := by
      show (vclr v (v.2.2.1 (ri c))).1 1 7 (c + 1) = _
      rw [vclr_i.1]; exact e7
    rw [this, (ofN (n := o) (by omega)).2]
    rfl
  rw [← ev] at S2
  have k47 : ∀ i, t2 47 i = F 47 i := fun i => by
    rw [e2.1 47 i (by decide) (by decide)]
    refine e1.2.1 47 i (by decide) (by decide) (fun y _ z => ?_)
    have := gp_k (x := y)
    rw [z] at this
    exact absurd (show 47 ≤ 41 from this.2) (by decide)
  have S3 : SX D (LN F c) (LN F c) (vend1 v (c + 1)) t2 := by
    refine (S2.opn (E' := LN F c) (fun y z => Or.inl z)).jn (fun y hy z _ o' ho' w => ?_)
    rcases z with z | ⟨z1, z2⟩
    · subst z
      rw [ev] at w
      by_cases e : o' = o
      · subst e
        have w : Int32.ofNat y ∈ x_u1 (vend0 v (y + 1)).2.2.1 (30 * o' + 2) (rdel ((vend0 v (y + 1)).2.2.1 (30 * o' + 2)) (Int32.ofNat y)) (30 * o' + 2) := w
        rw [u1_eq] at w
        exact (mem_rdel.mp w).2 rfl
      · have w : Int32.ofNat y ∈ x_u1 (vend0 v (y + 1)).2.2.1 (30 * o + 2) (rdel ((vend0 v (y + 1)).2.2.1 (30 * o + 2)) (Int32.ofNat y)) (30 * o' + 2) := w
        rw [u1_ne (by omega), rw0 o' ho'] at w
        exact hno o' ho' e w
    · obtain ⟨c', b1, b2, -, b4, -⟩ := (S2.jq o' ho').2.2.2 _ w
      rw [← ofN_inj (by omega) (by omega) b2, z2, k47, hl z1] at b4
      exact absurd b4 (by decide)
  rw [e3]
  split
  · exact S3.f (Or.inl rfl) (Or.inl rfl) rfl
  · rename_i h
    exact (S3.f (Or.inl rfl) (Or.inl rfl) rfl).f (Or.inr ⟨by omega, rfl⟩) (Or.inr ⟨by omega, rfl⟩) rfl
/-- one of the reference's ints, behind the end -/
theorem EN.at {l : List Int32} {lj : Nat → List Int32} (R : EN F c l lj t) : t 47 c = 0 ∧ (∀ i, i ≠ c → t 47 i = F 47 i) ∧ (∀ i, (0 ≤ (F 57 c).toInt → i ≠ (F 57 c).toNatClampNeg) → t 28 i = F 28 i) ∧ (0 ≤ (F 57 c).toInt → t 28 (F 57 c).toNatClampNeg = -1) := by
  obtain ⟨t1, t2, e1, e2, e3⟩ := R
  have k : ∀ K i, (K = 47 ∨ K = 28) → t2 K i = F K i := fun K i hK => by
    rw [e2.1 K i (by omega) (by omega)]
    refine e1.2.1 K i (by omega) (by omega) (fun y _ z => ?_)
    have := gp_k (x := y)
    rw [z] at this
    have h1 : 36 ≤ K := this.1
    have h2 : K ≤ 41 := this.2
    omega
  rw [e3]
  by_cases h : (F 57 c).toInt < 0
  · rw [if_pos h]
    exact ⟨u2_eq, fun i hi => (u2_ni hi).trans (k 47 i (by decide)), fun i _ => (u2_ne (by decide)).trans (k 28 i (by decide)), fun z => absurd z (by omega)⟩
  · rw [if_neg h]
    exact ⟨(u2_ne (by decide)).trans u2_eq, fun i hi => (u2_ne (by decide)).trans ((u2_ni hi).trans (k 47 i (by decide))), fun i hi => (u2_ni (hi (by omega))).trans ((u2_ne (by decide)).trans (k 28 i (by decide))), fun _ => u2_eq⟩
theorem vend1_1 {v : vS} {j : Nat} : (vend1 v j).1 = v.1 := vclr_i.1
theorem vend1_r {v : vS} {j K' : Nat} (h17 : K' ≠ 17) (h6 : K' ≠ 6) : (vend1 v j).2.1 K' = v.2.1 K' := vclr_r h17 h6
/-- the class's state behind the end, line by line -/
theorem vend_f {v : vS} {j l : Nat} {x : Int32} (hl : v.2.1 1 3 j = l) : vend v j x = if l = 0 then vpr (vpi (vpr (vpi (vpr (vend1 v j) 2 5 j 0) 2 3 j (if v.1 2 2 j = 0 then 0 else x)) 1 3 j 0) 1 5 j 0) 1 2 j 1 else vpr (vpi (vpr (vpi (vpr (vpi (vpr (vend1 v j) 2 5 j 0) 2 3 j (if v.1 2 2 j = 0 then 0 else x)) 2 5 l 0) 2 3 l (if v.1 2 2 l = 0 then 0 else 3)) 1 3 j 0) 1 5 j 0) 1 2 j 1 := by
  have e : (vend2 v j x).2.1 1 3 j = l := by
    show (vend1 v j).2.1 1 3 j = l
    rw [vend1_r (by decide) (by decide)]; exact hl
  unfold vend
  rw [e]
  by_cases h : l = 0
  · rw [if_pos h, if_pos h]
    unfold vend2 vlv
    rw [vend1_1]
  · rw [if_neg h, if_neg h]
    unfold vend2 vlv
    have e2 : ∀ y, (vpi (vpr (vend1 v j) 2 5 j 0) 2 3 j y).1 2 2 l = v.1 2 2 l := fun y => by
      show (vend1 v j).1 2 2 l = _
      rw [vend1_1]
    rw [e2, vend1_1]
end XEN
