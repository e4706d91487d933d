/-- an office and all that belongs to it -/
def OC (H : xH) (o : Nat) : Prop := x_vr H 11 1 o = o + 1 ∧ OF H (o + 1) o o o o (30 * o) o ∧ AN H 17 (o + 1) ∧ AN H 18 (o + 1) ∧ (∀ r, r < 6 → RW H (30 * o + 1 + r) (30 * o + 1 + r) (rz r)) ∧ (∀ i, i < 4 → x_vr H 19 (o + 1) i = 30 * o + 3 + i) ∧ ∀ m, m < 24 → x_vr H 16 (o + 1) m = 24 * o + m + 1 ∧ LC H (24 * o + m + 1) o m
/-- the row of a call -/
def ri (i : Nat) : Nat := 30 * (i / 24) + 7 + i % 24
/-- a call, before it is one -/
def CC (H : xH) (i : Nat) : Prop := x_vr H 12 1 i = i + 1 ∧ x_vr H 1 0 (i + 1) = i + 1 ∧ x_vr H 1 1 (i + 1) = ri i ∧ x_vr H 1 2 (i + 1) = 1 ∧ x_vr H 1 3 (i + 1) = 0 ∧ x_vr H 1 4 (i + 1) = 0 ∧ (∀ k, x_vi H 1 k (i + 1) = 0) ∧ RW H (ri i) (ri i) 8
/-- trunks and overflows -/
def NT (H : xH) : Prop := AN H 13 1 ∧ ∀ o, o < 3 → x_vr H 14 1 o = o + 1 ∧ ∀ i, x_vi H 15 (o + 1) i = 0
def NS (o c : Nat) (H : xH) : Prop := (∀ o', o' < o → OC H o') ∧ (∀ i, i < c → CC H i) ∧ NT H
theorem NS.congr {o c : Nat} {H H' : xH} (q : NS o c H) (e1 : x_vr H' = x_vr H) (e2 : x_vi H' = x_vi H) (e3 : x_ln H' = x_ln H) : NS o c H' := by
  unfold NS OC CC NT OF AN RW LC at q ⊢
  rw [e1, e2, e3]
  exact q
section XNS
variable {H H' g : xH} {X : Nat → Nat → Nat → Prop} {o c oo cc i x0 : Nat}
theorem OC.ol (p : OL H H' X) (c11 : 1 ≤ x_cn H 11) (c3 : o + 1 ≤ x_cn H 3) (c16 : o + 1 ≤ x_cn H 16) (c17 : o + 1 ≤ x_cn H 17) (c18 : o + 1 ≤ x_cn H 18) (c19 : o + 1 ≤ x_cn H 19) (c5 : 30 * o + 6 ≤ x_cn H 5) (c20 : 30 * o + 6 ≤ x_cn H 20) (c2 : 24 * o + 24 ≤ x_cn H 2) (hX : ∀ K a b, X K a b → (K = 3 ∧ o + 1 < b) ∨ (K = 11 ∧ o < b) ∨ K = 12) (q : OC H o) : OC H' o := by
  obtain ⟨q1, q2, q3, q4, q5, q6, q7⟩ := q
  refine ⟨p.vr (K := 11) (a := 1) (b := o) c11 (fun z => by have := hX _ _ _ z; omega) q1, q2.ol p (fun a z => by have := hX _ _ _ z; omega) c3, q3.ol p (by omega) (fun b z => by have := hX _ _ _ z; omega) c17, q4.ol p (by omega) (fun b z => by have := hX _ _ _ z; omega) c18, fun r hr => (q5 r hr).ol p (fun a b z => by have := hX _ _ _ z; omega) (fun a b z => by have := hX _ _ _ z; omega) (by omega) (by omega), fun i hi => p.vr (K := 19) (a := o + 1) (b := i) c19 (fun z => by have := hX _ _ _ z; omega) (q6 i hi), fun m hm => ⟨p.vr (K := 16) (a := o + 1) (b := m) c16 (fun z => by have := hX _ _ _ z; omega) (q7 m hm).1, (q7 m hm).2.ol p (fun a b z => by have := hX _ _ _ z; omega) (by omega)⟩⟩
theorem CC.ol (p : OL H H' X) (c12 : 1 ≤ x_cn H 12) (c1 : i + 1 ≤ x_cn H 1) (c5 : ri i ≤ x_cn H 5) (c20 : ri i ≤ x_cn H 20) (hX : ∀ K a b, X K a b → K = 3 ∨ K = 11 ∨ (K = 12 ∧ i < b)) (q : CC H i) : CC H' i := by
  obtain ⟨q1, q2, q3, q4, q5, q6, q7, q8⟩ := q
  exact ⟨p.vr (K := 12) (a := 1) (b := i) c12 (fun z => by have := hX _ _ _ z; omega) q1, p.vr (K := 1) (a := 0) (b := i + 1) c1 (fun z => by have := hX _ _ _ z; omega) q2, p.vr (K := 1) (a := 1) (b := i + 1) c1 (fun z => by have := hX _ _ _ z; omega) q3, p.vr (K := 1) (a := 2) (b := i + 1) c1 (fun z => by have := hX _ _ _ z; omega) q4, p.vr (K := 1) (a := 3) (b := i + 1) c1 (fun z => by have := hX _ _ _ z; omega) q5, p.vr (K := 1) (a := 4) (b := i + 1) c1 (fun z => by have := hX _ _ _ z; omega) q6, fun k => p.vi (K := 1) (a := k) (b := i + 1) c1 (fun z => by have := hX _ _ _ z; omega) (q7 k), q8.ol p (fun a b z => by have := hX _ _ _ z; omega) (fun a b z => by have := hX _ _ _ z; omega) c5 c20⟩
theorem NT.ol (p : OL H H' X) (c13 : 1 ≤ x_cn H 13) (c14 : 1 ≤ x_cn H 14) (c15 : 3 ≤ x_cn H 15) (hX : ∀ K a b, X K a b → K = 3 ∨ K = 11 ∨ K = 12) (q : NT H) : NT H' := ⟨q.1.ol p (by omega) (fun b z => by have := hX _ _ _ z; omega) c13, fun o ho => ⟨p.vr (K := 14) (a := 1) (b := o) c14 (fun z => by have := hX _ _ _ z; omega) (q.2 o ho).1, fun i => p.vi (K := 15) (a := o + 1) (b := i) (show o + 1 ≤ x_cn H 15 by omega) (fun z => by have := hX _ _ _ z; omega) ((q.2 o ho).2 i)⟩⟩
theorem NS.ol (p : OL H H' X) (hcn : ∀ K, ck K → x_cn H K = ct_c K oo cc) (h1 : o ≤ oo) (h2 : c ≤ cc) (h3 : cc ≤ 24 * oo) (h4 : 24 * oo ≤ cc + 24) (hX : ∀ K a b, X K a b → (K = 3 ∧ o < b) ∨ (K = 11 ∧ o ≤ b) ∨ (K = 12 ∧ c ≤ b)) (q : NS o c H) : NS o c H' := by
  obtain ⟨q1, q2, q3⟩ := q
  have e1 : x_cn H 1 = cc := hcn 1 (by unfold ck; omega)
  have e2 : x_cn H 2 = 24 * oo := hcn 2 (by unfold ck; omega)
  have e3 : x_cn H 3 = oo := hcn 3 (by unfold ck; omega)
  have e5 : x_cn H 5 = 6 * oo + cc := hcn 5 (by unfold ck; omega)
  have e20 : x_cn H 20 = 6 * oo + cc := hcn 20 (by unfold ck; omega)
  have e11 : x_cn H 11 = 1 := hcn 11 (by unfold ck; omega)
  have e12 : x_cn H 12 = 1 := hcn 12 (by unfold ck; omega)
  have e13 : x_cn H 13 = 1 := hcn 13 (by unfold ck; omega)
  have e14 : x_cn H 14 = 1 := hcn 14 (by unfold ck; omega)
  have e15 : x_cn H 15 = 3 := hcn 15 (by unfold ck; omega)
  have e16 : x_cn H 16 = oo := hcn 16 (by unfold ck; omega)
  have e17 : x_cn H 17 = oo := hcn 17 (by unfold ck; omega)
  have e18 : x_cn H 18 = oo := hcn 18 (by unfold ck; omega)
  have e19 : x_cn H 19 = oo := hcn 19 (by unfold ck; omega)
  refine ⟨fun o' ho' => (q1 o' ho').ol p (by omega) (by omega) (by omega) (by omega) (by omega) (by omega) (by omega) (by omega) (by omega) (fun K a b z => by have := hX _ _ _ z; omega), fun i hi => (q2 i hi).ol p (by omega) (by omega) (by unfold ri; omega) (by unfold ri; omega) (fun K a b z => by have := hX _ _ _ z; omega), q3.ol p (by omega) (by omega) (by omega) (fun K a b z => by have := hX _ _ _ z; omega)⟩
theorem NS.off {x1 : Int32} (q : NS o (24 * o) H) (F : FL (x_setc (x_new H 3 9) 0 0) g (x_cn H 3 + 1) x1.toInt 24 4) (hcn : ∀ K, ck K → x_cn H K = ct_c K o (24 * o)) (hx : (o : Int) = x1.toInt) (ho : o ≤ 2) : NS (o + 1) (24 * o) (x_putr g 11 1 o (x_cn H 3 + 1)) := by
  obtain ⟨p, f, a17, a18, rw', hu, ln⟩ := F
  have e2 : x_cn H 2 = 24 * o := hcn 2 (by unfold ck; omega)
  have e3 : x_cn H 3 = o := hcn 3 (by unfold ck; omega)
  have e5 : x_cn H 5 = 6 * o + 24 * o := hcn 5 (by unfold ck; omega)
  have e20 : x_cn H 20 = 6 * o + 24 * o := hcn 20 (by unfold ck; omega)
  have e11 : x_cn H 11 = 1 := hcn 11 (by unfold ck; omega)
  have e16 : x_cn H 16 = o := hcn 16 (by unfold ck; omega)
  have e17 : x_cn H 17 = o := hcn 17 (by unfold ck; omega)
  have e18 : x_cn H 18 = o := hcn 18 (by unfold ck; omega)
  have e19 : x_cn H 19 = o := hcn 19 (by unfold ck; omega)
  have pn : OL H (x_setc (x_new H 3 9) 0 0) (fun K a b => (K = 3 ∧ b = x_cn H 3 + 1) ∨ (K = 11 ∧ a = 1 ∧ b = o)) := OL.rf.new (K := 3) (N := 9) (by omega)
  have pa : OL H (x_putr g 11 1 o (x_cn H 3 + 1)) (fun K a b => (K = 3 ∧ b = x_cn H 3 + 1) ∨ (K = 11 ∧ a = 1 ∧ b = o)) := (pn.tr p (fun K a b z _ => Or.inl z)).px (Or.inr ⟨rfl, rfl, rfl⟩)
  have k : ∀ K, x_cn (x_setc (x_new H 3 9) 0 0) K = if K = 3 then x_cn H 3 + 1 else x_cn H K := fun K => x_new_cn (N := 9) K
  have d2 : x_cn (x_setc (x_new H 3 9) 0 0) 2 = 24 * o := by rw [k, if_neg (by omega)]; exact e2
  have d5 : x_cn (x_setc (x_new H 3 9) 0 0) 5 = 30 * o := by rw [k, if_neg (by omega)]; omega
  have d20 : x_cn (x_setc (x_new H 3 9) 0 0) 20 = 30 * o := by rw [k, if_neg (by omega)]; omega
  have d16 : x_cn (x_setc (x_new H 3 9) 0 0) 16 = o := by rw [k, if_neg (by omega)]; exact e16
  have d17 : x_cn (x_setc (x_new H 3 9) 0 0) 17 = o := by rw [k, if_neg (by omega)]; exact e17
  have d18 : x_cn (x_setc (x_new H 3 9) 0 0) 18 = o := by rw [k, if_neg (by omega)]; exact e18
  have d19 : x_cn (x_setc (x_new H 3 9) 0 0) 19 = o := by rw [k, if_neg (by omega)]; exact e19
  rw [d16, d17, d18, d19, d5, e3] at f
  rw [d17] at a17
  rw [d18] at a18
  rw [d5, d20] at rw'
  rw [d19, d5] at hu
  rw [d16, d2] at ln
  have q' := q.ol pa hcn (Nat.le_refl _) (Nat.le_refl _) (Nat.le_refl _) (by omega) (fun K a b z => by omega)
  refine ⟨fun o' ho' => ?_, q'.2.1, q'.2.2⟩
  by_cases e : o' = o
  · subst e
    rw [← hx] at f ln
    have v3 : ∀ a b, x_vr (x_putr g 11 1 o' (x_cn H 3 + 1)) a b = x_vr g a b ∨ a = 11 := fun a b => by
      by_cases z : a = 11
      · exact Or.inr z
      · refine Or.inl ?_
        funext y
        rw [x_vr_putr, if_neg (fun w => z w.1)]
    have w3 : ∀ a b, a ≠ 11 → x_vr (x_putr g 11 1 o' (x_cn H 3 + 1)) a b = x_vr g a b := fun a b z => (v3 a b).resolve_right z
    refine ⟨by rw [x_vr_putr, if_pos ⟨rfl, rfl, rfl⟩, e3], ?_, ?_, ?_, fun r hr => ?_, fun i hi => ?_, fun m hm => ⟨?_, ?_⟩⟩
    · unfold OF
      rw [w3 3 1 (by omega), w3 3 2 (by omega), w3 3 3 (by omega), w3 3 4 (by omega), w3 3 5 (by omega), w3 3 6 (by omega)]
      exact f
    · unfold AN
      rw [w3 17 _ (by omega)]; exact a17
    · unfold AN
      rw [w3 18 _ (by omega)]; exact a18
    · unfold RW
      rw [w3 5 _ (by omega)]; exact rw' r (by omega)
    · rw [w3 19 _ (by omega)]; exact hu i hi
    · rw [w3 16 _ (by omega)]; exact (ln m hm).1
    · unfold LC
      rw [w3 2 _ (by omega)]; exact (ln m hm).2
  · exact q'.1 o' (by omega)
theorem NS.call {n : Nat} (q : NS (o + 1) (24 * o + n) H) (hcn : ∀ K, ck K → x_cn H K = ct_c K (o + 1) (24 * o + n)) (hn : n ≤ 23) (ho : o ≤ 2) : NS (o + 1) (24 * o + n + 1) (x_putr (cl_h H (24 * o + n + 1)) 12 1 (24 * o + n) (x_cn H 1 + 1)) := by
  have e1 : x_cn H 1 = 24 * o + n := hcn 1 (by unfold ck; omega)
  have e5 : x_cn H 5 = 6 * (o + 1) + (24 * o + n) := hcn 5 (by unfold ck; omega)
  have e20 : x_cn H 20 = 6 * (o + 1) + (24 * o + n) := hcn 20 (by unfold ck; omega)
  have er : ri (24 * o + n) = x_cn H 5 + 1 := by unfold ri; omega
  have er' : ri (24 * o + n) = x_cn H 20 + 1 := by unfold ri; omega
  have pc : OL H (cl_h H (24 * o + n + 1)) (fun K a b => K = 12 ∧ a = 1 ∧ b = 24 * o + n) := (((((((OL.rf.new (K := 1) (N := 15) (by omega)).new (K := 5) (N := 2) (by omega)).newa (by omega)).putr (by omega) (by omega)).putr (by omega) (by omega)).putr (by omega) (by omega)).putr (by omega) (by omega))
  have q' := q.ol (pc.px (v := x_cn H 1 + 1) ⟨rfl, rfl, rfl⟩) hcn (Nat.le_refl _) (Nat.le_refl _) (by omega) (by omega) (fun K a b z => by omega)
  refine ⟨q'.1, fun i hi => ?_, q'.2.2⟩
  by_cases e : i = 24 * o + n
  · subst e
    have z1 : ∀ k, x_vr (x_new H 1 15) 1 k (x_cn H 1 + 1) = 0 := fun k => if_pos ⟨rfl, rfl⟩
    have z2 : ∀ k, x_vi (x_new H 1 15) 1 k (x_cn H 1 + 1) = 0 := fun k => if_pos ⟨rfl, rfl⟩
    have rr := rw_RW (H := x_new H 1 15) (v := 8)
    have hv : ∀ K k, K ≠ 12 → x_vr (x_putr (cl_h H (24 * o + n + 1)) 12 1 (24 * o + n) (x_cn H 1 + 1)) K k = x_vr (cl_h H (24 * o + n + 1)) K k := fun K k z => by
      funext y
      rw [x_vr_putr, if_neg (fun w => z w.1)]
    refine ⟨by rw [x_vr_putr, if_pos ⟨rfl, rfl, rfl⟩, e1], ?_, ?_, ?_, ?_, ?_, fun k => ?_, ?_, ?_, ?_, ?_⟩
    · rw [hv 1 0 (by omega), ← e1]
      unfold cl_h
      rw [x_vr_putr, if_pos ⟨rfl, rfl, rfl⟩]
    · rw [hv 1 1 (by omega), er, ← e1]
      unfold cl_h
      rw [x_vr_putr, if_neg (by omega), x_vr_putr, if_neg (by omega), x_vr_putr, if_pos ⟨rfl, rfl, rfl⟩]
    · rw [hv 1 2 (by omega), ← e1]
      unfold cl_h
      rw [x_vr_putr, if_neg (by omega), x_vr_putr, if_pos ⟨rfl, rfl, rfl⟩]
    · rw [hv 1 3 (by omega), ← e1]
      unfold cl_h
      rw [x_vr_putr, if_neg (by omega), x_vr_putr, if_neg (by omega), x_vr_putr, if_neg (by omega), x_vr_putr, if_neg (by omega)]
      exact z1 3
    · rw [hv 1 4 (by omega), ← e1]
      unfold cl_h
      rw [x_vr_putr, if_neg (by omega), x_vr_putr, if_neg (by omega), x_vr_putr, if_neg (by omega), x_vr_putr, if_neg (by omega)]
      exact z1 4
    · rw [← e1]
      exact z2 k
    · rw [hv 5 0 (by omega)]
      unfold cl_h
      rw [x_vr_putr, if_neg (by omega), x_vr_putr, if_neg (by omega), x_vr_putr, if_neg (by omega), x_vr_putr, if_pos ⟨rfl, rfl, er⟩, er']
    · rw [er]
      exact rr.2.1
    · rw [er']
      exact rr.2.2.1
    · rw [er']
      exact rr.2.2.2
  · exact q'.2.1 i (by omega)
end XNS
section XN9
variable {n1 n2 n3 n4 n : Nat} {r : List (Nat × xI)} {Z : xO → xH → Prop} {J : Nat → xS → Prop} {ls : List xV} {H : xH} {E : Nat → Nat → Prop} {A : Nat → Nat → Nat → Prop} {x0 a b : Nat}
theorem wx_arr7 {K L k : Nat} {v : Int32} (hxm : xm_k K = false) (Q : QI H E A) (hl : ls[0]? = some (.inr (.inr (7, x0)))) (hK : 11 ≤ K ∧ K ≠ 20) (hL : ∀ L', (K, L') ∈ x_lnl → L = L') (hv : v.toInt = L) (hL2 : L ≤ 100) (hft : x_ft 7 k = K) (g0 : x_live H 7 x0) (hce : x_ce H = a) (hso : x_so H = b) (ha : a + 1 ≤ 1000) (hb : b + L ≤ 6000)
    (kk : ∀ H', QI H' E (fun K' j i => A K' j i ∨ (K' = K ∧ j = x_cn H K + 1)) → (∀ K', x_cn H' K' = x_cn H K' + if K' = K then 1 else 0) → (∀ k', x_vr H' 7 k' x0 = if k' = k then x_cn H K + 1 else x_vr H 7 k' x0) → x_ce H' = a + 1 → x_so H' = b + L → x_mq H' = x_mq H → OL H H' (fun K _ b => K = 7 ∧ b = x0) → AN H' K (x_cn H K + 1) → x_seq r (xC n) Z J (ls, [], H')) :
    x_seq ((n1, x_aload 0) :: (n2, x_iconst v) :: (n3, x_newr K 1000 6000) :: (n4, x_pfr 7 k K) :: r) (xC n) Z J (ls, [], H) := by
  have hcl : v.toNatClampNeg = L := by have := x_clamp (n := v) (by omega); omega
  refine q_aload hl (by decide) (q_iconst (q_newr (by omega) (by omega) (by omega) (by omega) ?_))
  rw [hcl]
  have l3 : x_live (x_newa H K L) 7 x0 := x_newa_lv.mpr (Or.inl g0)
  have lK : x_live (x_newa H K L) K (x_cn H K + 1) := x_newa_lv.mpr (Or.inr ⟨rfl, rfl⟩)
  refine q_pfr l3 (kk _ ((Q.newa hK.1 hL (fun z => absurd z hK.2)).putr (by omega) (by rw [hft]; exact lK)) (fun K' => ?_) (fun k' => ?_) ?_ ?_ ((x_mq_putr rfl).trans (x_mq_newa hxm)) (OL.px (OL.rf.newa hK.1) ⟨rfl, rfl⟩) (fun i => (x_vr_putr.trans (if_neg (by omega))).trans (if_pos ⟨rfl, rfl⟩)))
  · show x_cn (x_newa H K L) K' = _
    rw [x_newa_cn]
    by_cases e : K' = K
    · rw [if_pos e, if_pos e, e]
    · rw [if_neg e, if_neg e]; omega
  · rw [x_vr_putr]
    by_cases e : k' = k
    · rw [if_pos ⟨rfl, e, rfl⟩, if_pos e]
    · rw [if_neg (fun z => e z.2.1), if_neg e]
      exact if_neg (fun z => by omega)
  · show x_ce H + 1 = _
    rw [hce]
  · show x_so H + L = _
    rw [hso]
end XN9
