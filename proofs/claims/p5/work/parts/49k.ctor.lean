/-- an office and all that belongs to it -/
def OC (H : xH) (o : Nat) : Prop := x_vr H 11 1 o = o + 1 ∧ OF H (o + 1) o o o o (30 * o) o ∧ AN H 17 (o + 1) ∧ AN H 18 (o + 1) ∧ (∀ r, r < 6 → RW H (30 * o + 1 + r) (30 * o + 1 + r) (rz r)) ∧ (∀ i, i < 4 → x_vr H 19 (o + 1) i = 30 * o + 3 + i) ∧ ∀ m, m < 24 → x_vr H 16 (o + 1) m = 24 * o + m + 1 ∧ LC H (24 * o + m + 1) o m
/-- the row of a call -/
def ri (i : Nat) : Nat := 30 * (i / 24) + 7 + i % 24
/-- a call, before it is one -/
def CC (H : xH) (i : Nat) : Prop := x_vr H 12 1 i = i + 1 ∧ x_vr H 1 0 (i + 1) = i + 1 ∧ x_vr H 1 1 (i + 1) = ri i ∧ x_vr H 1 2 (i + 1) = 1 ∧ x_vr H 1 3 (i + 1) = 0 ∧ x_vr H 1 4 (i + 1) = 0 ∧ (∀ k, x_vi H 1 k (i + 1) = 0) ∧ RW H (ri i) (ri i) 8
/-- trunks and overflows -/
def NT (H : xH) : Prop := AN H 13 1 ∧ ∀ o, o < 3 → x_vr H 14 1 o = o + 1 ∧ ∀ i, x_vi H 15 (o + 1) i = 0
def NS (o c : Nat) (H : xH) : Prop := (∀ o', o' < o → OC H o') ∧ (∀ i, i < c → CC H i) ∧ NT H
theorem NS.congr {o c : Nat} {H H' : xH} (q : NS o c H) (e1 : x_vr H' = x_vr H) (e2 : x_vi H' = x_vi H) (e3 : x_ln H' = x_ln H) : NS o c H' := by
  unfold NS OC CC NT OF AN RW LC at q ⊢
  rw [e1, e2, e3]
  exact q
section XNS
variable {H H' g : xH} {X : Nat → Nat → Nat → Prop} {o c oo cc i x0 : Nat}
theorem OC.ol (p : OL H H' X) (c11 : 1 ≤ x_cn H 11) (c3 : o + 1 ≤ x_cn H 3) (c16 : o + 1 ≤ x_cn H 16) (c17 : o + 1 ≤ x_cn H 17) (c18 : o + 1 ≤ x_cn H 18) (c19 : o + 1 ≤ x_cn H 19) (c5 : 30 * o + 6 ≤ x_cn H 5) (c20 : 30 * o + 6 ≤ x_cn H 20) (c2 : 24 * o + 24 ≤ x_cn H 2) (hX : ∀ K a b, X K a b → (K = 3 ∧ o + 1 < b) ∨ (K = 11 ∧ o < b) ∨ K = 12) (q : OC H o) : OC H' o := by
  obtain ⟨q1, q2, q3, q4, q5, q6, q7⟩ := q
  refine ⟨p.vr (K := 11) (a := 1) (b := o) c11 (fun z => by have := hX _ _ _ z; omega) q1, q2.ol p (fun a z => by have := hX _ _ _ z; omega) c3, q3.ol p (by omega) (fun b z => by have := hX _ _ _ z; omega) c17, q4.ol p (by omega) (fun b z => by have := hX _ _ _ z; omega) c18, fun r hr => (q5 r hr).ol p (fun a b z => by have := hX _ _ _ z; omega) (fun a b z => by have := hX _ _ _ z; omega) (by omega) (by omega), fun i hi => p.vr (K := 19) (a := o + 1) (b := i) c19 (fun z => by have := hX _ _ _ z; omega) (q6 i hi), fun m hm => ⟨p.vr (K := 16) (a := o + 1) (b := m) c16 (fun z => by have := hX _ _ _ z; omega) (q7 m hm).1, (q7 m hm).2.ol p (fun a b z => by have := hX _ _ _ z; omega) (by omega)⟩⟩
theorem CC.ol (p : OL H H' X) (c12 : 1 ≤ x_cn H 12) (c1 : i + 1 ≤ x_cn H 1) (c5 : ri i ≤ x_cn H 5) (c20 : ri i ≤ x_cn H 20) (hX : ∀ K a b, X K a b → K = 3 ∨ K = 11 ∨ (K = 12 ∧ i < b)) (q : CC H i) : CC H' i := by
  obtain ⟨q1, q2, q3, q4, q5, q6, q7, q8⟩ := q
  exact ⟨p.vr (K := 12) (a := 1) (b := i) c12 (fun z => by have := hX _ _ _ z; omega) q1, p.vr (K := 1) (a := 0) (b := i + 1) c1 (fun z => by have := hX _ _ _ z; omega) q2, p.vr (K := 1) (a := 1) (b := i + 1) c1 (fun z => by have := hX _ _ _ z; omega) q3, p.vr (K := 1) (a := 2) (b := i + 1) c1 (fun z => by have := hX _ _ _ z; omega) q4, p.vr (K := 1) (a := 3) (b := i + 1) c1 (fun z => by have := hX _ _ _ z; omega) q5, p.vr (K := 1) (a := 4) (b := i + 1) c1 (fun z => by have := hX _ _ _ z; omega) q6, fun k => p.vi (K := 1) (a := k) (b := i + 1) c1 (fun z => by have := hX _ _ _ z; omega) (q7 k), q8.ol p (fun a b z => by have := hX _ _ _ z; omega) (fun a b z => by have := hX _ _ _ z; omega) c5 c20⟩
theorem NT.ol (p : OL H H' X) (c13 : 1 ≤ x_cn H 13) (c14 : 1 ≤ x_cn H 14) (c15 : 3 ≤ x_cn H 15) (hX : ∀ K a b, X K a b → K = 3 ∨ K = 11 ∨ K = 12) (q : NT H) : NT H' := ⟨q.1.ol p (by omega) (fun b z => by have := hX _ _ _ z; omega) c13, fun o ho => ⟨p.vr (K := 14) (a := 1) (b := o) c14 (fun z => by have := hX _ _ _ z; omega) (q.2 o ho).1, fun i => p.vi (K := 15) (a := o + 1) (b := i) (show o + 1 ≤ x_cn H 15 by omega) (fun z => by have := hX _ _ _ z; omega) ((q.2 o ho).2 i)⟩⟩
theorem NS.ol (p : OL H H' X) (hcn : ∀ K, ck K → x_cn H K = ct_c K oo cc) (h1 : o ≤ oo) (h2 : c ≤ cc) (h3 : cc ≤ 24 * oo) (h4 : 24 * oo ≤ cc + 24) (hX : ∀ K a b, X K a b → (K = 3 ∧ o < b) ∨ (K = 11 ∧ o ≤ b) ∨ (K = 12 ∧ c ≤ b)) (q : NS o c H) : NS o c H' := by
  obtain ⟨q1, q2, q3⟩ := q
  have e1 : x_cn H 1 = cc := hcn 1 (by unfold ck; omega)
  have e2 : x_cn H 2 = 24 * oo := hcn 2 (by unfold ck; omega)
  have e3 : x_cn H 3 = oo := hcn 3 (by unfold ck; omega)
  have e5 : x_cn H 5 = 6 * oo + cc := hcn 5 (by unfold ck; omega)
  have e20 : x_cn H 20 = 6 * oo + cc := hcn 20 (by unfold ck; omega)
  have e11 : x_cn H 11 = 1 := hcn 11 (by unfold ck; omega)
  have e12 : x_cn H 12 = 1 := hcn 12 (by unfold ck; omega)
  have e13 : x_cn H 13 = 1 := hcn 13 (by unfold ck; omega)
  have e14 : x_cn H 14 = 1 := hcn 14 (by unfold ck; omega)
  have e15 : x_cn H 15 = 3 := hcn 15 (by unfold ck; omega)
  have e16 : x_cn H 16 = oo := hcn 16 (by unfold ck; omega)
  have e17 : x_cn H 17 = oo := hcn 17 (by unfold ck; omega)
  have e18 : x_cn H 18 = oo := hcn 18 (by unfold ck; omega)
  have e19 : x_cn H 19 = oo := hcn 19 (by unfold ck; omega)
  refine ⟨fun o' ho' => (q1 o' ho').ol p (by omega) (by omega) (by omega) (by omega) (by omega) (by omega) (by omega) (by omega) (by omega) (fun K a b z => by have := hX _ _ _ z; omega), fun i hi => (q2 i hi).ol p (by omega) (by omega) (by unfold ri; omega) (by unfold ri; omega) (fun K a b z => by have := hX _ _ _ z; omega), q3.ol p (by omega) (by omega) (by omega) (fun K a b z => by have := hX _ _ _ z; omega)⟩
theorem NS.off {x1 : Int32} (q : NS o (24 * o) H) (F : FL (x_setc (x_new H 3 9) 0 0) g (x_cn H 3 + 1) x1.toInt 24 4) (hcn : ∀ K, ck K → x_cn H K = ct_c K o (24 * o)) (hx : (o : Int) = x1.toInt) (ho : o ≤ 2) : NS (o + 1) (24 * o) (x_putr g 11 1 o (x_cn H 3 + 1)) := by
  obtain ⟨p, f, a17, a18, rw', hu, ln⟩ := F
  have e2 : x_cn H 2 = 24 * o := hcn 2 (by unfold ck; omega)
  have e3 : x_cn H 3 = o := hcn 3 (by unfold ck; omega)
  have e5 : x_cn H 5 = 6 * o + 24 * o := hcn 5 (by unfold ck; omega)
  have e20 : x_cn H 20 = 6 * o + 24 * o := hcn 20 (by unfold ck; omega)
  have e11 : x_cn H 11 = 1 := hcn 11 (by unfold ck; omega)
  have e16 : x_cn H 16 = o := hcn 16 (by unfold ck; omega)
  have e17 : x_cn H 17 = o := hcn 17 (by unfold ck; omega)
  have e18 : x_cn H 18 = o := hcn 18 (by unfold ck; omega)
  have e19 : x_cn H 19 = o := hcn 19 (by unfold ck; omega)
  have pn : OL H (x_setc (x_new H 3 9) 0 0) (fun K a b => (K = 3 ∧ b = x_cn H 3 + 1) ∨ (K = 11 ∧ a = 1 ∧ b = o)) := OL.rf.new (K := 3) (N := 9) (by omega)
  have pa : OL H (x_putr g 11 1 o (x_cn H 3 + 1)) (fun K a b => (K = 3 ∧ b = x_cn H 3 + 1) ∨ (K = 11 ∧ a = 1 ∧ b = o)) := (pn.tr p (fun K a b z _ => Or.inl z)).px (Or.inr ⟨rfl, rfl, rfl⟩)
  have k : ∀ K, x_cn (x_setc (x_new H 3 9) 0 0) K = if K = 3 then x_cn H 3 + 1 else x_cn H K := fun K => x_new_cn K
  have d2 : x_cn (x_setc (x_new H 3 9) 0 0) 2 = 24 * o := by rw [k, if_neg (by omega)]; exact e2
  have d5 : x_cn (x_setc (x_new H 3 9) 0 0) 5 = 30 * o := by rw [k, if_neg (by omega)]; omega
  have d20 : x_cn (x_setc (x_new H 3 9) 0 0) 20 = 30 * o := by rw [k, if_neg (by omega)]; omega
  have d16 : x_cn (x_setc (x_new H 3 9) 0 0) 16 = o := by rw [k, if_neg (by omega)]; exact e16
  have d17 : x_cn (x_setc (x_new H 3 9) 0 0) 17 = o := by rw [k, if_neg (by omega)]; exact e17
  have d18 : x_cn (x_setc (x_new H 3 9) 0 0) 18 = o := by rw [k, if_neg (by omega)]; exact e18
  have d19 : x_cn (x_setc (x_new H 3 9) 0 0) 19 = o := by rw [k, if_neg (by omega)]; exact e19
  rw [d16, d17, d18, d19, d5, e3] at f
  rw [d17] at a17
  rw [d18] at a18
  rw [d5, d20] at rw'
  rw [d19, d5] at hu
  rw [d16, d2] at ln
  have q' := q.ol pa hcn (Nat.le_refl _) (Nat.le_refl _) (Nat.le_refl _) (by omega) (fun K a b z => by omega)
  refine ⟨fun o' ho' => ?_, q'.2.1, q'.2.2⟩
  by_cases e : o' = o
  · subst e
    rw [← hx] at f ln
    have v3 : ∀ a b, x_vr (x_putr g 11 1 o' (x_cn H 3 + 1)) a b = x_vr g a b ∨ a = 11 := fun a b => by
      by_cases z : a = 11
      · exact Or.inr z
      · refine Or.inl ?_
        funext y
        rw [x_vr_putr, if_neg (fun w => z w.1)]
    have w3 : ∀ a b, a ≠ 11 → x_vr (x_putr g 11 1 o' (x_cn H 3 + 1)) a b = x_vr g a b := fun a b z => (v3 a b).resolve_right z
    refine ⟨by rw [x_vr_putr, if_pos ⟨rfl, rfl, rfl⟩, e3], ?_, ?_, ?_, fun r hr => ?_, fun i hi => ?_, fun m hm => ⟨?_, ?_⟩⟩
    · unfold OF
      rw [w3 3 1 (by omega), w3 3 2 (by omega), w3 3 3 (by omega), w3 3 4 (by omega), w3 3 5 (by omega), w3 3 6 (by omega)]
      exact f
    · unfold AN
      rw [w3 17 _ (by omega)]; exact a17
    · unfold AN
      rw [w3 18 _ (by omega)]; exact a18
    · unfold RW
      rw [w3 5 _ (by omega)]; exact rw' r (by omega)
    · rw [w3 19 _ (by omega)]; exact hu i hi
    · rw [w3 16 _ (by omega)]; exact (ln m hm).1
    · unfold LC
      rw [w3 2 _ (by omega)]; exact (ln m hm).2
  · exact q'.1 o' (by omega)
theorem NS.call {n : Nat} (q : NS (o + 1) (24 * o + n) H) (hcn : ∀ K, ck K → x_cn H K = ct_c K (o + 1) (24 * o + n)) (hn : n ≤ 23) (ho : o ≤ 2) : NS (o + 1) (24 * o + n + 1) (x_putr (cl_h H (24 * o + n + 1)) 12 1 (24 * o + n) (x_cn H 1 + 1)) := by
  have e1 : x_cn H 1 = 24 * o + n := hcn 1 (by unfold ck; omega)
  have e5 : x_cn H 5 = 6 * (o + 1) + (24 * o + n) := hcn 5 (by unfold ck; omega)
  have e20 : x_cn H 20 = 6 * (o + 1) + (24 * o + n) := hcn 20 (by unfold ck; omega)
  have er : ri (24 * o + n) = x_cn H 5 + 1 := by unfold ri; omega
  have er' : ri (24 * o + n) = x_cn H 20 + 1 := by unfold ri; omega
  have pc : OL H (cl_h H (24 * o + n + 1)) (fun K a b => K = 12 ∧ a = 1 ∧ b = 24 * o + n) := (((((((OL.rf.new (K := 1) (N := 15) (by omega)).new (K := 5) (N := 2) (by omega)).newa (by omega)).putr (by omega) (by omega)).putr (by omega) (by omega)).putr (by omega) (by omega)).putr (by omega) (by omega))
  have q' := q.ol (pc.px (v := x_cn H 1 + 1) ⟨rfl, rfl, rfl⟩) hcn (Nat.le_refl _) (Nat.le_refl _) (by omega) (by omega) (fun K a b z => by omega)
  refine ⟨q'.1, fun i hi => ?_, q'.2.2⟩
  by_cases e : i = 24 * o + n
  · subst e
    have z1 : ∀ k, x_vr (x_new H 1 15) 1 k (x_cn H 1 + 1) = 0 := fun k => if_pos ⟨rfl, rfl⟩
    have z2 : ∀ k, x_vi (x_new H 1 15) 1 k (x_cn H 1 + 1) = 0 := fun k => if_pos ⟨rfl, rfl⟩
    have rr := rw_RW (H := x_new H 1 15) (v := 8)
    have hv : ∀ K k, K ≠ 12 → x_vr (x_putr (cl_h H (24 * o + n + 1)) 12 1 (24 * o + n) (x_cn H 1 + 1)) K k = x_vr (cl_h H (24 * o + n + 1)) K k := fun K k z => by
      funext y
      rw [x_vr_putr, if_neg (fun w => z w.1)]
    refine ⟨by rw [x_vr_putr, if_pos ⟨rfl, rfl, rfl⟩, e1], ?_, ?_, ?_, ?_, ?_, fun k => ?_, ?_, ?_, ?_, ?_⟩
    · rw [hv 1 0 (by omega), ← e1]
      unfold cl_h
      rw [x_vr_putr, if_pos ⟨rfl, rfl, rfl⟩]
    · rw [hv 1 1 (by omega), er, ← e1]
      unfold cl_h
      rw [x_vr_putr, if_neg (by omega), x_vr_putr, if_neg (by omega), x_vr_putr, if_pos ⟨rfl, rfl, rfl⟩]
    · rw [hv 1 2 (by omega), ← e1]
      unfold cl_h
      rw [x_vr_putr, if_neg (by omega), x_vr_putr, if_pos ⟨rfl, rfl, rfl⟩]
    · rw [hv 1 3 (by omega), ← e1]
      unfold cl_h
      rw [x_vr_putr, if_neg (by omega), x_vr_putr, if_neg (by omega), x_vr_putr, if_neg (by omega), x_vr_putr, if_neg (by omega)]
      exact z1 3
    · rw [hv 1 4 (by omega), ← e1]
      unfold cl_h
      rw [x_vr_putr, if_neg (by omega), x_vr_putr, if_neg (by omega), x_vr_putr, if_neg (by omega), x_vr_putr, if_neg (by omega)]
      exact z1 4
    · rw [← e1]
      exact z2 k
    · rw [hv 5 0 (by omega)]
      unfold cl_h
      rw [x_vr_putr, if_neg (by omega), x_vr_putr, if_neg (by omega), x_vr_putr, if_neg (by omega), x_vr_putr, if_pos ⟨rfl, rfl, er⟩, er']
    · rw [er]
      exact rr.2.1
    · rw [er']
      exact rr.2.2.1
    · rw [er']
      exact rr.2.2.2
  · exact q'.2.1 i (by omega)
end XNS
section XN9
variable {n1 n2 n3 n4 n : Nat} {r : List (Nat × xI)} {Z : xO → xH → Prop} {J : Nat → xS → Prop} {ls : List xV} {H : xH} {E : Nat → Nat → Prop} {A : Nat → Nat → Nat → Prop} {x0 a b : Nat}
theorem wx_arr7 {K L k : Nat} {v : Int32} (hxm : xm_k K = false) (Q : QI H E A) (hl : ls[0]? = some (.inr (.inr (7, x0)))) (hK : 11 ≤ K ∧ K ≠ 20) (hL : ∀ L', (K, L') ∈ x_lnl → L = L') (hv : v.toInt = L) (hL2 : L ≤ 100) (hft : x_ft 7 k = K) (g0 : x_live H 7 x0) (hce : x_ce H = a) (hso : x_so H = b) (ha : a + 1 ≤ 1000) (hb : b + L ≤ 6000)
    (kk : ∀ H', QI H' E (fun K' j i => A K' j i ∨ (K' = K ∧ j = x_cn H K + 1)) → (∀ K', x_cn H' K' = x_cn H K' + if K' = K then 1 else 0) → (∀ k', x_vr H' 7 k' x0 = if k' = k then x_cn H K + 1 else x_vr H 7 k' x0) → x_ce H' = a + 1 → x_so H' = b + L → x_mq H' = x_mq H → OL H H' (fun K _ b => K = 7 ∧ b = x0) → AN H' K (x_cn H K + 1) → x_seq r (xC n) Z J (ls, [], H')) :
    x_seq ((n1, x_aload 0) :: (n2, x_iconst v) :: (n3, x_newr K 1000 6000) :: (n4, x_pfr 7 k K) :: r) (xC n) Z J (ls, [], H) := by
  have hcl : v.toNatClampNeg = L := by have := x_clamp (n := v) (by omega); omega
  refine q_aload hl (by decide) (q_iconst (q_newr (by omega) (by omega) (by omega) (by omega) ?_))
  rw [hcl]
  have l3 : x_live (x_newa H K L) 7 x0 := x_newa_lv.mpr (Or.inl g0)
  have lK : x_live (x_newa H K L) K (x_cn H K + 1) := x_newa_lv.mpr (Or.inr ⟨rfl, rfl⟩)
  refine q_pfr l3 (kk _ ((Q.newa hK.1 hL (fun z => absurd z hK.2)).putr (by omega) (by rw [hft]; exact lK)) (fun K' => ?_) (fun k' => ?_) ?_ ?_ ((x_mq_putr rfl).trans (x_mq_newa hxm)) (OL.px (OL.rf.newa hK.1) ⟨rfl, rfl⟩) (fun i => (x_vr_putr.trans (if_neg (by omega))).trans (if_pos ⟨rfl, rfl⟩)))
  · show x_cn (x_newa H K L) K' = _
    rw [x_newa_cn]
    by_cases e : K' = K
    · rw [if_pos e, if_pos e, e]
    · rw [if_neg e, if_neg e]; omega
  · rw [x_vr_putr]
    by_cases e : k' = k
    · rw [if_pos ⟨rfl, e, rfl⟩, if_pos e]
    · rw [if_neg (fun z => e z.2.1), if_neg e]
      exact if_neg (fun z => by omega)
  · show x_ce H + 1 = _
    rw [hce]
  · show x_so H + L = _
    rw [hso]
end XN9
theorem tx43 {h : xH} {Z : xO → xH → Prop} (hc : x_ce h = 0) (hs : x_so h = 0) (hcn : ∀ K, ck K → x_cn h K = if K = 7 then 1 else if K = 9 then 6 else 0) (h74 : x_vi h 7 4 1 = 0) (hZ : ∀ g : xH, CI g → x_mq g = x_mq h → NS 3 72 g → (∀ K, ck K → x_cn g K = ct_c K 3 72) → Z (.inl none) g) : xC 5000 43 [.inr (.inr (7, 1))] h Z := by
  have no : ∀ K j, ck K → K ≠ 7 → K ≠ 9 → ¬ x_live h K j := by
    intro K j hk h7 h9 hj
    have a := hj.1
    have b := hj.2
    rw [hcn K hk, if_neg h7, if_neg h9] at b
    omega
  have Q0 : QI h (fun K j => K = 7 ∧ j = 1) (fun _ _ _ => False) := by
    refine ⟨fun K k j hm hj hE => ?_, fun K k j hm hj => ?_, fun K k lo hi j hm hj => ?_, fun K L j hm hj => ?_, fun K L j i hm hj hi hA => ?_, fun K j i hm hj => ?_, fun j hj => ?_, fun j hj => ?_, fun j hj => ?_, fun j hj => ?_⟩
    · by_cases e : K = 7
      · subst e
        have b := hj.2
        have a := hj.1
        rw [hcn 7 (by unfold ck; omega), if_pos rfl] at b
        exact absurd ⟨rfl, by omega⟩ hE
      · simp only [x_nnl, List.mem_cons, Prod.mk.injEq, List.not_mem_nil, or_false] at hm
        exact absurd hj (no K j (by unfold ck; omega) e (by omega))
    · simp only [x_nul, List.mem_cons, Prod.mk.injEq, List.not_mem_nil, or_false] at hm
      exact absurd hj (no K j (by unfold ck; omega) (by omega) (by omega))
    · by_cases e : K = 7
      · subst e
        have b := hj.2
        have a := hj.1
        rw [hcn 7 (by unfold ck; omega), if_pos rfl] at b
        have hk : k = 4 ∧ lo = 0 ∧ hi = 16 := by simp only [x_rgl, List.mem_cons, Prod.mk.injEq, List.not_mem_nil, or_false] at hm; omega
        obtain ⟨rfl, rfl, rfl⟩ := hk
        rw [show j = 1 by omega, h74, i32_0]
        omega
      · simp only [x_rgl, List.mem_cons, Prod.mk.injEq, List.not_mem_nil, or_false] at hm
        exact absurd hj (no K j (by unfold ck; omega) e (by omega))
    · simp only [x_lnl, List.mem_cons, Prod.mk.injEq, List.not_mem_nil, or_false] at hm
      exact absurd hj (no K j (by unfold ck; omega) (by omega) (by omega))
    · simp only [x_ael, List.mem_cons, Prod.mk.injEq, List.not_mem_nil, or_false] at hm
      exact absurd hj (no K j (by unfold ck; omega) (by omega) (by omega))
    · exact absurd hj (no K j (by unfold ck; omega) (by omega) (by omega))
    · have b := hj.2
      have a := hj.1
      rw [hcn 7 (by unfold ck; omega), if_pos rfl] at b
      rw [show j = 1 by omega]; exact h74
    · exact absurd hj (no 3 j (by unfold ck; omega) (by omega) (by omega))
    · exact absurd hj (no 5 j (by unfold ck; omega) (by omega) (by omega))
    · exact absurd hj (no 20 j (by unfold ck; omega) (by omega) (by omega))
  have g0 : x_live h 7 1 := ⟨Nat.le_refl 1, by rw [hcn 7 (by unfold ck; omega)]; exact Nat.le_refl 1⟩
  refine ⟨rfl, hc, hs, ?_⟩
  show xR _ 43 0 ([.inr (.inr (7, 1)), .inr (.inr (0, 0)), .inr (.inr (0, 0))], [], h) Z
  refine xR.blk c43_0 ?_
  refine q_aload rfl (by decide) (q_objinit (by decide) g0.1 (Nat.le_of_ble_eq_true rfl) ?_)
  refine wx_arr7 (L := 3) rfl Q0 rfl (by decide) (fun L' hm => by simp only [x_lnl, List.mem_cons, Prod.mk.injEq, List.not_mem_nil, or_false] at hm; omega) rfl (by decide) rfl g0 hc hs (by decide) (by decide) (fun H1 Q1 c1 v1 ce1 so1 mq1 o1 an1 => ?_)
  have l1 : x_live H1 7 1 := ⟨g0.1, by rw [c1, if_neg (by decide)]; exact g0.2⟩
  refine wx_arr7 (L := 72) rfl Q1 rfl (by decide) (fun L' hm => by simp only [x_lnl, List.mem_cons, Prod.mk.injEq, List.not_mem_nil, or_false] at hm; omega) rfl (by decide) rfl l1 ce1 so1 (by decide) (by decide) (fun H2 Q2 c2 v2 ce2 so2 mq2 o2 an2 => ?_)
  have l2 : x_live H2 7 1 := ⟨g0.1, by rw [c2, if_neg (by decide)]; exact l1.2⟩
  refine wx_arr7 (L := 16) rfl Q2 rfl (by decide) (fun L' hm => by simp only [x_lnl, List.mem_cons, Prod.mk.injEq, List.not_mem_nil, or_false] at hm; omega) rfl (by decide) rfl l2 ce2 so2 (by decide) (by decide) (fun H3 Q3 c3 v3 ce3 so3 mq3 o3 an3 => ?_)
  have l3 : x_live H3 7 1 := ⟨g0.1, by rw [c3, if_neg (by decide)]; exact l2.2⟩
  have k14 : x_cn H3 14 = 0 := by rw [c3, c2, c1, hcn 14 (by unfold ck; omega)]; rfl
  have k15 : x_cn H3 15 = 0 := by rw [c3, c2, c1, hcn 15 (by unfold ck; omega)]; rfl
  refine q_aload rfl (by decide) (q_iconst (q_iconst ?_))
  refine ⟨by decide, by decide, by decide, by decide, by show x_ce H3 + 1 + 3 ≤ 1000; omega, by show x_so H3 + 3 + 3 * 3 ≤ 6000; omega, ?_⟩
  rw [k14, k15]
  show x_seq _ _ _ _ (_, _, x_putr (x_newa (x_putr (x_newa (x_putr (x_newa (x_newa H3 14 3) 15 3) 14 1 0 1) 15 3) 14 1 1 2) 15 3) 14 1 2 3)
  have Q4 : QI (x_putr (x_newa (x_putr (x_newa (x_putr (x_newa (x_newa H3 14 3) 15 3) 14 1 0 1) 15 3) 14 1 1 2) 15 3) 14 1 2 3) (fun K j => K = 7 ∧ j = 1) (fun K j i => ((K = 11 ∧ j = 1 ∧ 0 ≤ i) ∨ (K = 12 ∧ j = 1 ∧ 0 ≤ i)) ∨ (K = 14 ∧ 3 ≤ i)) := by
    have k11 : x_cn H3 11 = 1 := by rw [c3, c2, c1, hcn 11 (by unfold ck; omega)]; rfl
    have k12 : x_cn H3 12 = 1 := by rw [c3, c2, c1, hcn 12 (by unfold ck; omega)]; rfl
    have hL3 : ∀ K, K = 14 ∨ K = 15 → ∀ L', (K, L') ∈ x_lnl → 3 = L' := fun K hK L' hm => by simp only [x_lnl, List.mem_cons, Prod.mk.injEq, List.not_mem_nil, or_false] at hm; omega
    have P1 := (Q3.newa (K := 14) (n := 3) (by omega) (hL3 14 (by omega)) (by omega)).newa (K := 15) (n := 3) (by omega) (hL3 15 (by omega)) (by omega)
    have e1 : x_cn (x_newa (x_newa H3 14 3) 15 3) 15 = 1 := by show x_cn H3 15 + 1 = 1; omega
    have P2 := P1.puta (A' := fun K j i => ((K = 11 ∧ 0 ≤ i) ∨ (K = 12 ∧ 0 ≤ i)) ∨ (K = 14 ∧ 1 ≤ i) ∨ K = 13 ∨ K = 15) (K := 14) (j := 1) (i := 0) (v := 1) (by omega) ⟨Nat.le_refl 1, by show 1 ≤ x_cn (x_newa (x_newa H3 14 3) 15 3) 15; omega⟩ (fun K j i z => by
      rcases z with ((((z | z) | z) | z) | z) | z
      · exact absurd z (fun w => w)
      · exact Or.inl (Or.inl (Or.inl ⟨z.1, Nat.zero_le _⟩))
      · exact Or.inl (Or.inl (Or.inr ⟨z.1, Nat.zero_le _⟩))
      · exact Or.inl (Or.inr (Or.inr (Or.inl z.1)))
      · have hj : j = 1 := by have := z.2; omega
        by_cases q : i = 0
        · exact Or.inr ⟨z.1, hj, q⟩
        · exact Or.inl (Or.inr (Or.inl ⟨z.1, by omega⟩))
      · exact Or.inl (Or.inr (Or.inr (Or.inr z.1))))
    have hj14 : ∀ j, x_live (x_putr (x_newa (x_newa H3 14 3) 15 3) 14 1 0 1) 14 j → j = 1 := fun j z => by
      have a := z.1
      have b : j ≤ x_cn H3 14 + 1 := z.2
      omega
    have P3 := (P2.newa (K := 15) (n := 3) (by omega) (hL3 15 (by omega)) (by omega)).puta (A' := fun K j i => ((K = 11 ∧ 0 ≤ i) ∨ (K = 12 ∧ 0 ≤ i)) ∨ (K = 14 ∧ (2 ≤ i ∨ j ≠ 1)) ∨ K = 13 ∨ K = 15) (K := 14) (j := 1) (i := 1) (v := 2) (by omega) ⟨by omega, by show 2 ≤ x_cn (x_newa (x_newa H3 14 3) 15 3) 15 + 1; omega⟩ (fun K j i z => by
      rcases z with (z | z | z | z) | z
      · exact Or.inl (Or.inl z)
      · by_cases q : i = 1 ∧ j = 1
        · exact Or.inr ⟨z.1, q.2, q.1⟩
        · exact Or.inl (Or.inr (Or.inl ⟨z.1, by omega⟩))
      · exact Or.inl (Or.inr (Or.inr (Or.inl z)))
      · exact Or.inl (Or.inr (Or.inr (Or.inr z)))
      · exact Or.inl (Or.inr (Or.inr (Or.inr z.1))))
    have P4 := (P3.newa (K := 15) (n := 3) (by omega) (hL3 15 (by omega)) (by omega)).puta (A' := fun K j i => ((K = 11 ∧ 0 ≤ i) ∨ (K = 12 ∧ 0 ≤ i)) ∨ (K = 14 ∧ (3 ≤ i ∨ j ≠ 1)) ∨ K = 13 ∨ K = 15) (K := 14) (j := 1) (i := 2) (v := 3) (by omega) ⟨by omega, by show 3 ≤ x_cn (x_newa (x_newa H3 14 3) 15 3) 15 + 1 + 1; omega⟩ (fun K j i z => by
      rcases z with (z | z | z | z) | z
      · exact Or.inl (Or.inl z)
      · by_cases q : i = 2 ∧ j = 1
        · exact Or.inr ⟨z.1, q.2, q.1⟩
        · exact Or.inl (Or.inr (Or.inl ⟨z.1, by omega⟩))
      · exact Or.inl (Or.inr (Or.inr (Or.inl z)))
      · exact Or.inl (Or.inr (Or.inr (Or.inr z)))
      · exact Or.inl (Or.inr (Or.inr (Or.inr z.1))))
    obtain ⟨q1, q2, q3, q4, q5, q6, q7⟩ := P4
    refine ⟨q1, q2, q3, q4, fun K L j i hm hj hi hA => q5 K L j i hm hj hi (fun z => ?_), q6, q7⟩
    rcases z with z | ⟨rfl, z⟩ | z | z
    · rcases z with ⟨rfl, z⟩ | ⟨rfl, z⟩
      · have a := hj.1
        have b : j ≤ x_cn H3 11 := hj.2
        exact hA (Or.inl (Or.inl ⟨rfl, by omega, z⟩))
      · have a := hj.1
        have b : j ≤ x_cn H3 12 := hj.2
        exact hA (Or.inl (Or.inr ⟨rfl, by omega, z⟩))
    · have a := hj.1
      have b : j ≤ x_cn H3 14 + 1 := hj.2
      exact hA (Or.inr ⟨rfl, by omega⟩)
    · simp only [x_ael, List.mem_cons, Prod.mk.injEq, List.not_mem_nil, or_false] at hm; omega
    · simp only [x_ael, List.mem_cons, Prod.mk.injEq, List.not_mem_nil, or_false] at hm; omega
  generalize hH4 : x_putr (x_newa (x_putr (x_newa (x_putr (x_newa (x_newa H3 14 3) 15 3) 14 1 0 1) 15 3) 14 1 1 2) 15 3) 14 1 2 3 = H4 at Q4 ⊢
  have c4 : ∀ K, x_cn H4 K = x_cn H3 K + (if K = 14 then 1 else if K = 15 then 3 else 0) := by
    intro K
    rw [← hH4]
    show x_cn (x_newa (x_newa (x_newa (x_newa H3 14 3) 15 3) 15 3) 15 3) K = _
    simp only [x_newa_cn]
    by_cases e : K = 15
    · subst e; simp
    · by_cases e2 : K = 14
      · subst e2; simp
      · simp [e, e2]
  have v4 : ∀ k', x_vr H4 7 k' 1 = x_vr H3 7 k' 1 := fun k' => by rw [← hH4]; rfl
  have nt4 : NT (x_putr H4 7 3 1 1) := by
    have k13 : x_cn H2 13 = 0 := by rw [c2, c1, hcn 13 (by unfold ck; omega)]; rfl
    rw [k13] at an3
    have b1 : x_cn (x_newa H3 14 3) 15 = 0 := k15
    have b2 : x_cn (x_putr (x_newa (x_newa H3 14 3) 15 3) 14 1 0 1) 15 = 1 := by show x_cn H3 15 + 1 = 1; omega
    have b3 : x_cn (x_putr (x_newa (x_putr (x_newa (x_newa H3 14 3) 15 3) 14 1 0 1) 15 3) 14 1 1 2) 15 = 2 := by show x_cn H3 15 + 1 + 1 = 2; omega
    refine ⟨fun i => ?_, fun o ho => ⟨?_, fun i => ?_⟩⟩
    · rw [x_vr_putr, if_neg (by omega), ← hH4]
      exact an3 i
    · rw [x_vr_putr, if_neg (by omega), ← hH4]
      rw [x_vr_putr]
      by_cases e2 : o = 2
      · rw [if_pos ⟨rfl, rfl, e2⟩, e2]
      · rw [if_neg (fun z => e2 z.2.2)]
        refine Eq.trans (b := x_vr (x_putr (x_newa (x_putr (x_newa (x_newa H3 14 3) 15 3) 14 1 0 1) 15 3) 14 1 1 2) 14 1 o) rfl ?_
        rw [x_vr_putr]
        by_cases e1 : o = 1
        · rw [if_pos ⟨rfl, rfl, e1⟩, e1]
        · rw [if_neg (fun z => e1 z.2.2)]
          refine Eq.trans (b := x_vr (x_putr (x_newa (x_newa H3 14 3) 15 3) 14 1 0 1) 14 1 o) rfl ?_
          rw [x_vr_putr, if_pos ⟨rfl, rfl, by omega⟩]
          omega
    · rw [← hH4]
      show (if 15 = 15 ∧ o + 1 = x_cn (x_putr (x_newa (x_putr (x_newa (x_newa H3 14 3) 15 3) 14 1 0 1) 15 3) 14 1 1 2) 15 + 1 then 0 else (if 15 = 15 ∧ o + 1 = x_cn (x_putr (x_newa (x_newa H3 14 3) 15 3) 14 1 0 1) 15 + 1 then 0 else (if 15 = 15 ∧ o + 1 = x_cn (x_newa H3 14 3) 15 + 1 then 0 else x_vi (x_newa H3 14 3) 15 (o + 1) i))) = (0 : Int32)
      by_cases e2 : o = 2
      · exact if_pos (show 15 = 15 ∧ o + 1 = x_cn (x_putr (x_newa (x_putr (x_newa (x_newa H3 14 3) 15 3) 14 1 0 1) 15 3) 14 1 1 2) 15 + 1 from ⟨rfl, by rw [b3]; omega⟩)
      · refine (if_neg (show ¬ (15 = 15 ∧ o + 1 = x_cn (x_putr (x_newa (x_putr (x_newa (x_newa H3 14 3) 15 3) 14 1 0 1) 15 3) 14 1 1 2) 15 + 1) from fun z => by have z2 := z.2; rw [b3] at z2; omega)).trans ?_
        by_cases e1 : o = 1
        · exact if_pos (show 15 = 15 ∧ o + 1 = x_cn (x_putr (x_newa (x_newa H3 14 3) 15 3) 14 1 0 1) 15 + 1 from ⟨rfl, by rw [b2]; omega⟩)
        · refine (if_neg (show ¬ (15 = 15 ∧ o + 1 = x_cn (x_putr (x_newa (x_newa H3 14 3) 15 3) 14 1 0 1) 15 + 1) from fun z => by have z2 := z.2; rw [b2] at z2; omega)).trans ?_
          exact if_pos (show 15 = 15 ∧ o + 1 = x_cn (x_newa H3 14 3) 15 + 1 from ⟨rfl, by rw [b1]; omega⟩)
  have ce4 : x_ce H4 = 7 := by rw [← hH4]; show x_ce H3 + 1 + 1 + 1 + 1 = 7; omega
  have so4 : x_so H4 = 103 := by rw [← hH4]; show x_so H3 + 3 + 3 + 3 + 3 = 103; omega
  have mq4 : x_mq H4 = x_mq h := by
    rw [← hH4, x_mq_putr rfl, x_mq_newa rfl, x_mq_putr rfl, x_mq_newa rfl, x_mq_putr rfl, x_mq_newa rfl, x_mq_newa rfl, mq3, mq2, mq1]
  have l4 : x_live H4 7 1 := ⟨g0.1, by rw [c4, if_neg (by decide), if_neg (by decide)]; exact l3.2⟩
  refine q_pfr l4 ?_
  have l14 : x_live H4 14 1 := ⟨Nat.le_refl 1, by rw [c4, if_pos rfl]; omega⟩
  have Q5 := Q4.putr (K := 7) (k := 3) (j := 1) (v := 1) (by omega) l14
  have c5 : ∀ K, ck K → x_cn (x_putr H4 7 3 1 1) K = ct_c K 0 0 := by
    intro K hk
    show x_cn H4 K = _
    rw [c4, c3, c2, c1, hcn K hk]
    unfold ck at hk
    unfold ct_c
    rcases (show K = 0 ∨ K = 1 ∨ K = 2 ∨ K = 3 ∨ K = 4 ∨ K = 5 ∨ K = 6 ∨ K = 7 ∨ K = 9 ∨ K = 11 ∨ K = 12 ∨ K = 13 ∨ K = 14 ∨ K = 15 ∨ K = 16 ∨ K = 17 ∨ K = 18 ∨ K = 19 ∨ K = 20 by omega) with rfl | rfl | rfl | rfl | rfl | rfl | rfl | rfl | rfl | rfl | rfl | rfl | rfl | rfl | rfl | rfl | rfl | rfl | rfl <;> rfl
  have Q6 : QI (x_putr H4 7 3 1 1) (fun _ _ => False) (fun K j i => (K = 11 ∧ j = 1 ∧ 0 ≤ i) ∨ (K = 12 ∧ j = 1 ∧ 0 ≤ i)) := by
    refine Q5.done (fun K j z => ?_) (fun K j i z => ?_)
    · obtain ⟨rfl, rfl⟩ := z
      refine Or.inr (fun k hm => ?_)
      have hk : k = 0 ∨ k = 1 ∨ k = 2 ∨ k = 3 := by simp only [x_nnl, List.mem_cons, Prod.mk.injEq, List.not_mem_nil, or_false] at hm; omega
      have lv : ∀ K, ck K → ct_c K 0 0 = 1 → x_live (x_putr H4 7 3 1 1) K 1 := fun K hk e => ⟨Nat.le_refl 1, by rw [c5 K hk, e]; exact Nat.le_refl 1⟩
      have k11 : x_cn h 11 = 0 := by rw [hcn 11 (by unfold ck; omega)]; rfl
      have k12 : x_cn H1 12 = 0 := by rw [c1, hcn 12 (by unfold ck; omega)]; rfl
      have k13 : x_cn H2 13 = 0 := by rw [c2, c1, hcn 13 (by unfold ck; omega)]; rfl
      rcases hk with rfl | rfl | rfl | rfl
      · rw [x_vr_putr, if_neg (by omega), v4, v3, if_neg (by decide), v2, if_neg (by decide), v1, if_pos rfl, k11]; exact lv 11 (by unfold ck; omega) rfl
      · rw [x_vr_putr, if_neg (by omega), v4, v3, if_neg (by decide), v2, if_pos rfl, k12]; exact lv 12 (by unfold ck; omega) rfl
      · rw [x_vr_putr, if_neg (by omega), v4, v3, if_pos rfl, k13]; exact lv 13 (by unfold ck; omega) rfl
      · rw [x_vr_putr, if_pos ⟨rfl, rfl, rfl⟩]; exact lv 14 (by unfold ck; omega) rfl
    · rcases z with z | ⟨rfl, z⟩
      · exact Or.inl z
      · refine Or.inr (fun L => ?_)
        by_cases q : (14, L) ∈ x_ael
        · refine Or.inr ?_
          simp only [x_ael, List.mem_cons, Prod.mk.injEq, List.not_mem_nil, or_false] at q
          omega
        · exact Or.inl q
  have ce5 : x_ce (x_putr H4 7 3 1 1) = 7 := ce4
  have so5 : x_so (x_putr H4 7 3 1 1) = 103 := so4
  have mq5 : x_mq (x_putr H4 7 3 1 1) = x_mq h := (x_mq_putr rfl).trans mq4
  generalize x_putr H4 7 3 1 1 = H at Q6 c5 ce5 so5 mq5 nt4 ⊢
  have lp : ∀ (m : Nat) (o : Int32) (w : xV) (H : xH), QI H (fun _ _ => False) (fun K j i => (K = 11 ∧ j = 1 ∧ o.toNatClampNeg ≤ i) ∨ (K = 12 ∧ j = 1 ∧ 24 * o.toNatClampNeg ≤ i)) → (0 ≤ o.toInt ∧ o.toInt ≤ 3) → (∀ K, ck K → x_cn H K = ct_c K o.toNatClampNeg (24 * o.toNatClampNeg)) → x_ce H = 7 + 113 * o.toNatClampNeg → x_so H = 103 + 1366 * o.toNatClampNeg → x_mq H = x_mq h → NS o.toNatClampNeg (24 * o.toNatClampNeg) H → (3 - o.toInt).toNat < m → xR (20 + 1200 * m) 43 42 ([.inr (.inr (7, 1)), .inl o, w], [], H) Z := by
    intro m
    induction m with
    | zero => intro o w H _ _ _ _ _ _ _ hm; exact absurd hm (by omega)
    | succ m ih =>
      intro o w H Q ho hcn hce hso hmq hni hm
      have co := x_clamp ho.1
      rw [show 20 + 1200 * (m + 1) = 20 + 1200 * m + 1200 by omega]
      have l7 : x_live H 7 1 := ⟨Nat.le_refl 1, by rw [hcn 7 (by unfold ck; omega)]; exact Nat.le_refl 1⟩
      have e11 : x_vr H 7 0 1 = 1 := by
        have q := Q.1 7 0 1 (by decide) l7 (fun z => z)
        have a := q.1
        have b : x_vr H 7 0 1 ≤ x_cn H 11 := q.2
        rw [hcn 11 (by unfold ck; omega)] at b
        have b : x_vr H 7 0 1 ≤ 1 := b
        omega
      refine xR.blk c43_42 ?_
      refine q_iload rfl (v_iconst (k := 3) rfl (fun v1 e1 => v_icmp_ge (fun d => ?_) (fun d => ?_)))
      · refine xR.up (xR.blk (n := 5) c43_110 (q_ret (hZ _ (CI.ofQ Q (fun K j i z L => ?_) (fun K hk => ?_)) hmq (by rw [show o.toNatClampNeg = 3 by omega] at hni; exact hni) (by rw [show o.toNatClampNeg = 3 by omega] at hcn; exact hcn)))) (by omega)
        · rcases z with ⟨rfl, z⟩ | ⟨rfl, z⟩
          · by_cases q : (11, L) ∈ x_ael
            · refine Or.inr ?_
              simp only [x_ael, List.mem_cons, Prod.mk.injEq, List.not_mem_nil, or_false] at q
              omega
            · exact Or.inl q
          · by_cases q : (12, L) ∈ x_ael
            · refine Or.inr ?_
              simp only [x_ael, List.mem_cons, Prod.mk.injEq, List.not_mem_nil, or_false] at q
              omega
            · exact Or.inl q
        · rw [hcn K hk, show o.toNatClampNeg = 3 by omega]
      · refine q_aload rfl (by decide) (q_gfr l7 ?_)
        rw [e11]
        have l3 : x_live (x_new H 3 9) 3 (x_cn H 3 + 1) := x_new_lv.mpr (Or.inr ⟨rfl, rfl⟩)
        refine q_iload rfl (q_newo (by omega) (by omega) (q_dup rfl (q_iload rfl (q_calli rfl (by decide) l3.1 (by decide) (Nat.le_of_ble_eq_true rfl) (Nat.le_of_ble_eq_true rfl) (by show x_ce H + 1 + 40 ≤ 1000; omega) (by show x_so H + 9 + 373 ≤ 6000; omega) ?_))))
        refine xC.up (tx13 (h := x_setc (x_new H 3 9) 0 0) (x0 := x_cn H 3 + 1) (x1 := o) (Q.new (K := 3) (N := 9) (by omega)) rfl rfl l3 (by omega) (fun k => if_pos (c := 3 = 3 ∧ x_cn H 3 + 1 = x_cn H 3 + 1) ⟨rfl, rfl⟩) (fun g Qg cg mg flg => ?_)) (by omega)
        have Qg2 := Qg.done (E' := fun _ _ => False) (A' := fun K j i => (K = 11 ∧ j = 1 ∧ o.toNatClampNeg ≤ i) ∨ (K = 12 ∧ j = 1 ∧ 24 * o.toNatClampNeg ≤ i)) (fun K j z => Or.inl (z.2 (z.1.resolve_left (fun w => w)))) (fun K j i z => Or.inl z)
        have cg2 : ∀ K, ck K → x_cn g K = ct_c K (o.toNatClampNeg + 1) (24 * o.toNatClampNeg) := by
          intro K hk
          have hK := hcn K hk
          have h3 := hcn 3 (by unfold ck; omega)
          rw [cg K]
          show x_cn (x_new H 3 9) K + _ = _
          rw [x_new_cn]
          unfold ck at hk
          rcases (show K = 0 ∨ K = 1 ∨ K = 2 ∨ K = 3 ∨ K = 4 ∨ K = 5 ∨ K = 6 ∨ K = 7 ∨ K = 9 ∨ K = 11 ∨ K = 12 ∨ K = 13 ∨ K = 14 ∨ K = 15 ∨ K = 16 ∨ K = 17 ∨ K = 18 ∨ K = 19 ∨ K = 20 by omega) with rfl | rfl | rfl | rfl | rfl | rfl | rfl | rfl | rfl | rfl | rfl | rfl | rfl | rfl | rfl | rfl | rfl | rfl | rfl <;> simp [ct_c, of_c] at hK h3 ⊢ <;> omega
        have k3 : x_cn H 3 = o.toNatClampNeg := by rw [hcn 3 (by unfold ck; omega)]; rfl
        have l11 : x_live g 11 1 := ⟨Nat.le_refl 1, by rw [cg2 11 (by unfold ck; omega)]; exact Nat.le_refl 1⟩
        have ln11 : x_ln g 11 1 = 3 := Qg2.2.2.2.1 11 3 1 (by decide) l11
        have l3g : x_live g 3 (x_cn H 3 + 1) := ⟨by omega, by rw [cg2 3 (by unfold ck; omega), k3]; exact Nat.le_refl _⟩
        refine q_aast (show x_live g 11 1 from l11) ⟨ho.1, by show o.toInt < (x_ln g 11 1 : Int); rw [ln11]; omega⟩ ?_
        have Q2 := Qg2.puta (A' := fun K j i => (K = 11 ∧ j = 1 ∧ o.toNatClampNeg + 1 ≤ i) ∨ (K = 12 ∧ j = 1 ∧ 24 * o.toNatClampNeg + 0 ≤ i)) (K := 11) (j := 1) (i := o.toNatClampNeg) (v := x_cn H 3 + 1) (by omega) l3g (fun K j i z => by
          rcases z with ⟨z1, z2, z3⟩ | z
          · by_cases q : i = o.toNatClampNeg
            · exact Or.inr ⟨z1, z2, q⟩
            · exact Or.inl (Or.inl ⟨z1, z2, by omega⟩)
          · exact Or.inl (Or.inr z))
        have mq2 : x_mq (x_putr g 11 1 o.toNatClampNeg (x_cn H 3 + 1)) = x_mq h := (x_mq_putr rfl).trans (mg.trans ((x_mq_new (h := H) (K := 3) (N := 9) rfl).trans hmq))
        have ni2 : NS (o.toNatClampNeg + 1) (24 * o.toNatClampNeg) (x_putr g 11 1 o.toNatClampNeg (x_cn H 3 + 1)) := NS.off hni flg hcn co (by omega)
        refine v_iconst (k := 0) rfl (fun n0 en0 => q_istore (Nat.le_of_ble_eq_true rfl) (q_goto ?_))
        have li : ∀ (u : Nat) (n : Int32) (G : xH), QI G (fun _ _ => False) (fun K j i => (K = 11 ∧ j = 1 ∧ o.toNatClampNeg + 1 ≤ i) ∨ (K = 12 ∧ j = 1 ∧ 24 * o.toNatClampNeg + n.toNatClampNeg ≤ i)) → (0 ≤ n.toInt ∧ n.toInt ≤ 24) → (∀ K, ck K → x_cn G K = ct_c K (o.toNatClampNeg + 1) (24 * o.toNatClampNeg + n.toNatClampNeg)) → x_ce G = 48 + 113 * o.toNatClampNeg + 3 * n.toNatClampNeg → x_so G = 485 + 1366 * o.toNatClampNeg + 41 * n.toNatClampNeg → x_mq G = x_mq h → NS (o.toNatClampNeg + 1) (24 * o.toNatClampNeg + n.toNatClampNeg) G → (24 - n.toInt).toNat < u → xR (20 + 1200 * m + 40 + 8 * u) 43 63 ([.inr (.inr (7, 1)), .inl o, .inl n], [], G) Z := by
          intro u
          induction u with
          | zero => intro n G _ _ _ _ _ _ _ hu; exact absurd hu (by omega)
          | succ u ihu =>
            intro n G P hn gcn gce gso gmq gni hu
            have cn := x_clamp hn.1
            rw [show 20 + 1200 * m + 40 + 8 * (u + 1) = 20 + 1200 * m + 40 + 8 * u + 8 by omega]
            have m7 : x_live G 7 1 := ⟨Nat.le_refl 1, by rw [gcn 7 (by unfold ck; omega)]; exact Nat.le_refl 1⟩
            have m11 : x_live G 11 1 := ⟨Nat.le_refl 1, by rw [gcn 11 (by unfold ck; omega)]; exact Nat.le_refl 1⟩
            have m12 : x_live G 12 1 := ⟨Nat.le_refl 1, by rw [gcn 12 (by unfold ck; omega)]; exact Nat.le_refl 1⟩
            have f11 : x_vr G 7 0 1 = 1 := by
              have q := P.1 7 0 1 (by decide) m7 (fun z => z)
              have a := q.1
              have b : x_vr G 7 0 1 ≤ x_cn G 11 := q.2
              rw [gcn 11 (by unfold ck; omega)] at b
              have b : x_vr G 7 0 1 ≤ 1 := b
              omega
            have f12 : x_vr G 7 1 1 = 1 := by
              have q := P.1 7 1 1 (by decide) m7 (fun z => z)
              have a := q.1
              have b : x_vr G 7 1 1 ≤ x_cn G 12 := q.2
              rw [gcn 12 (by unfold ck; omega)] at b
              have b : x_vr G 7 1 1 ≤ 1 := b
              omega
            have n11 : x_ln G 11 1 = 3 := P.2.2.2.1 11 3 1 (by decide) m11
            have n12 : x_ln G 12 1 = 72 := P.2.2.2.1 12 72 1 (by decide) m12
            refine xR.blk c43_63 ?_
            refine q_iload rfl (v_iconst (k := 24) rfl (fun v1 e1 => v_icmp_ge (fun d2 => ?_) (fun d2 => ?_)))
            · refine xR.up (xR.blk (n := 20 + 1200 * m) c43_104 (v_iinc (k := 1) rfl rfl (by omega) (by omega) (fun o2 eo2 => q_goto ?_))) (by omega)
              have co2 := x_clamp (n := o2) (by omega)
              have n24 : n.toNatClampNeg = 24 := by omega
              rw [n24] at P gcn gce gso
              have eo : o2.toNatClampNeg = o.toNatClampNeg + 1 := by omega
              refine ih o2 _ G ?_ (by omega) ?_ (by omega) (by omega) gmq (by rw [eo, show 24 * (o.toNatClampNeg + 1) = 24 * o.toNatClampNeg + 24 by omega]; rw [n24] at gni; exact gni) (by omega)
              · rw [eo, show 24 * (o.toNatClampNeg + 1) = 24 * o.toNatClampNeg + 24 by omega]; exact P
              · rw [eo, show 24 * (o.toNatClampNeg + 1) = 24 * o.toNatClampNeg + 24 by omega]; exact gcn
            · have l3o : x_live G 3 (x_vr G 11 1 o.toNatClampNeg) := P.2.2.2.2.1 11 3 1 o.toNatClampNeg (by decide) m11 (by omega) (fun z => by rcases z with ⟨z1, z2⟩ | ⟨z1, z2⟩ <;> omega)
              have l16 : x_live G 16 (x_vr G 3 1 (x_vr G 11 1 o.toNatClampNeg)) := P.1 3 1 _ (by decide) l3o (fun z => z)
              have n16 : x_ln G 16 (x_vr G 3 1 (x_vr G 11 1 o.toNatClampNeg)) = 24 := P.2.2.2.1 16 24 _ (by decide) l16
              have l2o : x_live G 2 (x_vr G 16 (x_vr G 3 1 (x_vr G 11 1 o.toNatClampNeg)) n.toNatClampNeg) := P.2.2.2.2.1 16 24 _ n.toNatClampNeg (by decide) l16 (by omega) (fun z => by rcases z with ⟨z1, z2⟩ | ⟨z1, z2⟩ <;> omega)
              generalize hln : x_vr G 16 (x_vr G 3 1 (x_vr G 11 1 o.toNatClampNeg)) n.toNatClampNeg = ln at l2o
              refine q_aload rfl (by decide) (q_gfr m7 ?_)
              rw [f12]
              refine q_iload rfl (v_iconst (k := 24) rfl (fun w1 g1 => v_imul g1 (by omega) (fun w2 g2 => q_iload rfl (v_iadd (by omega) (fun w3 g3 => ?_)))))
              have cw := x_clamp (n := w3) (by omega)
              refine q_newo (by omega) (by omega) (q_dup rfl (q_aload rfl (by decide) (q_gfr (x_new_up m7) ?_)))
              rw [show x_vr (x_new G 1 15) 7 0 1 = 1 from f11]
              refine q_iload rfl (q_aald (x_new_up m11) ⟨ho.1, by show o.toInt < (x_ln G 11 1 : Int); rw [n11]; omega⟩ (q_gfr (x_new_up l3o) (q_iload rfl (q_aald (x_new_up l16) ⟨hn.1, by show n.toInt < (x_ln G 16 (x_vr G 3 1 (x_vr G 11 1 o.toNatClampNeg)) : Int); rw [n16]; omega⟩ ?_))))
              rw [show x_vr (x_new G 1 15) 16 (x_vr (x_new G 1 15) 3 1 (x_vr (x_new G 1 15) 11 1 o.toNatClampNeg)) n.toNatClampNeg = ln from hln]
              refine q_calli rfl (by decide) (by omega) (by decide) (Nat.le_of_ble_eq_true rfl) (Nat.le_of_ble_eq_true rfl) (by show x_ce G + 1 + 2 ≤ 1000; omega) (by show x_so G + 15 + 26 ≤ 6000; omega) ?_
              refine xC.up (tv1 (h := G) (x1 := ln) (fun g hg => ?_)) (by omega)
              obtain ⟨a', b', rfl⟩ := hg
              have k9 : x_cn G 9 = 6 := by rw [gcn 9 (by unfold ck; omega)]; rfl
              have k1 : x_cn G 1 = 24 * o.toNatClampNeg + n.toNatClampNeg := by rw [gcn 1 (by unfold ck; omega)]; rfl
              have P1 := P.call l2o k9
              have p12 : x_live (cl_h G ln) 12 1 := ⟨Nat.le_refl 1, by rw [cl_cn]; exact Nat.le_trans m12.2 (Nat.le_add_right _ _)⟩
              have p1 : x_live (cl_h G ln) 1 (x_cn G 1 + 1) := ⟨by omega, by rw [cl_cn]; simp⟩
              refine q_aast (show x_live (cl_h G ln) 12 1 from p12) ⟨by omega, by show w3.toInt < (x_ln G 12 1 : Int); rw [n12]; omega⟩ ?_
              refine v_iinc (k := 1) rfl rfl (by omega) (by omega) (fun n2 en2 => q_goto ?_)
              have cn2 := x_clamp (n := n2) (by omega)
              have en : n2.toNatClampNeg = n.toNatClampNeg + 1 := by omega
              refine xR.up (ihu n2 _ ?_ (by omega) ?_ ?_ ?_ ?_ ?_ (by omega)) (by omega)
              · refine QI.puta (K := 12) (j := 1) (i := w3.toNatClampNeg) (v := x_cn G 1 + 1) P1 (by omega) p1 (fun K j i z => ?_)
                rcases z with z | ⟨z1, z2, z3⟩
                · exact Or.inl (Or.inl z)
                · by_cases q : i = w3.toNatClampNeg
                  · exact Or.inr ⟨z1, z2, q⟩
                  · exact Or.inl (Or.inr ⟨z1, z2, by omega⟩)
              · intro K hk
                have hK := gcn K hk
                show x_cn (cl_h G ln) K = _
                rw [cl_cn, hK, en]
                unfold ck at hk
                rcases (show K = 0 ∨ K = 1 ∨ K = 2 ∨ K = 3 ∨ K = 4 ∨ K = 5 ∨ K = 6 ∨ K = 7 ∨ K = 9 ∨ K = 11 ∨ K = 12 ∨ K = 13 ∨ K = 14 ∨ K = 15 ∨ K = 16 ∨ K = 17 ∨ K = 18 ∨ K = 19 ∨ K = 20 by omega) with rfl | rfl | rfl | rfl | rfl | rfl | rfl | rfl | rfl | rfl | rfl | rfl | rfl | rfl | rfl | rfl | rfl | rfl | rfl <;> simp [ct_c] <;> omega
              · show x_ce G + 1 + 2 = _
                omega
              · show x_so G + 15 + 26 = _
                omega
              · refine Eq.trans ?_ gmq
                refine Eq.trans (x_mq_putr (h := cl_h G ln) rfl) ?_
                unfold cl_h
                rw [x_mq_putr rfl, x_mq_putr rfl, x_mq_putr rfl, x_mq_putr rfl, x_mq_newa rfl, x_mq_new rfl, x_mq_new rfl]
              · rw [en]
                have hl9 : ln = 24 * o.toNatClampNeg + n.toNatClampNeg + 1 := by
                  have oc := gni.1 o.toNatClampNeg (by omega)
                  rw [← hln, oc.1, oc.2.1.1]
                  exact (oc.2.2.2.2.2.2 n.toNatClampNeg (by omega)).1
                have hw9 : w3.toNatClampNeg = 24 * o.toNatClampNeg + n.toNatClampNeg := by omega
                rw [hw9, hl9]
                exact (NS.call gni gcn (by omega) (by omega)).congr rfl rfl rfl
        have cn0 := x_clamp (n := n0) (by omega)
        have n00 : n0.toNatClampNeg = 0 := by omega
        refine xR.up (li 25 n0 _ ?_ (by omega) ?_ ?_ ?_ mq2 (by rw [n00]; exact ni2.congr rfl rfl rfl) (by omega)) (by omega)
        · rw [n00]; exact Q2
        · rw [n00]; exact cg2
        · show x_ce H + 1 + 40 = _
          omega
        · show x_so H + 9 + 373 = _
          omega
  refine v_iconst (k := 0) rfl (fun z0 ez0 => q_istore (Nat.le_of_ble_eq_true rfl) (q_goto ?_))
  have cz := x_clamp (n := z0) (by omega)
  have z00 : z0.toNatClampNeg = 0 := by omega
  refine (lp 4 z0 _ H (by rw [z00]; exact Q6) (by omega) (by rw [z00]; exact c5) (by omega) (by omega) mq5 (by rw [z00]; exact ⟨fun o' ho' => absurd ho' (by omega), fun j j1 => absurd j1 (by omega), nt4⟩) (by omega)).up (by omega)
