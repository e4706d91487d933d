/-! THE CONSTRUCTORS ONCE MORE: which object is which (printed by make_ctor2.py) -/
/-- the place of the object: fields (K, k, j), arrays (K, j, i) -/
def ob (K a b : Nat) : Nat := bif Nat.ble K 10 then b else a
theorem ob_o {K a b : Nat} (h : K ≤ 10) : ob K a b = b := by unfold ob; rw [Nat.ble_eq_true_of_le h]; rfl
theorem ob_a {K a b : Nat} (h : 11 ≤ K) : ob K a b = a := by
  unfold ob
  rw [show Nat.ble K 10 = false from by
    cases e : Nat.ble K 10 with
    | false => rfl
    | true => have := Nat.le_of_ble_eq_true e; omega]
  rfl
/-- what is old stays, but for X -/
def OL (H H' : xH) (X : Nat → Nat → Nat → Prop) : Prop := (∀ K, x_cn H K ≤ x_cn H' K) ∧ ∀ K a b, ob K a b ≤ x_cn H K → ¬ X K a b → x_vr H' K a b = x_vr H K a b ∧ x_vi H' K a b = x_vi H K a b ∧ (11 ≤ K → x_ln H' K a = x_ln H K a)
section XOL
variable {H0 H H' H'' : xH} {X X' : Nat → Nat → Nat → Prop} {K N n k j a b v : Nat} {z : Int32}
theorem OL.rf : OL H H X := ⟨fun _ => Nat.le_refl _, fun _ _ _ _ _ => ⟨rfl, rfl, fun _ => rfl⟩⟩
theorem OL.tr (p : OL H H' X) (q : OL H' H'' X') (hx : ∀ K x y, X' K x y → ob K x y ≤ x_cn H K → X K x y) : OL H H'' X := by
  refine ⟨fun K => Nat.le_trans (p.1 K) (q.1 K), fun K a b hb hX => ?_⟩
  have p2 := p.2 K a b hb hX
  have q2 := q.2 K a b (Nat.le_trans hb (p.1 K)) (fun z => hX (hx K a b z hb))
  exact ⟨q2.1.trans p2.1, q2.2.1.trans p2.2.1, fun y => (q2.2.2 y).trans (p2.2.2 y)⟩
theorem OL.new (p : OL H0 H X) (hK : K ≤ 10) : OL H0 (x_new H K N) X := by
  refine ⟨fun K' => Nat.le_trans (p.1 K') x_new_le, fun K' a b hb hX => ?_⟩
  have p2 := p.2 K' a b hb hX
  have nn : ¬ (K' = K ∧ b = x_cn H K + 1) := by
    rintro ⟨rfl, rfl⟩
    rw [ob_o hK] at hb
    have := p.1 K'
    omega
  exact ⟨(if_neg nn).trans p2.1, (if_neg nn).trans p2.2.1, p2.2.2⟩
theorem OL.newa (p : OL H0 H X) (hK : 11 ≤ K) : OL H0 (x_newa H K n) X := by
  refine ⟨fun K' => Nat.le_trans (p.1 K') (x_new_le (N := n)), fun K' a b hb hX => ?_⟩
  have p2 := p.2 K' a b hb hX
  have nn : ¬ (K' = K ∧ a = x_cn H K + 1) := by
    rintro ⟨rfl, rfl⟩
    rw [ob_a hK] at hb
    have := p.1 K'
    omega
  exact ⟨(if_neg nn).trans p2.1, (if_neg nn).trans p2.2.1, fun y => (if_neg nn).trans (p2.2.2 y)⟩
theorem OL.puti (p : OL H0 H X) (hK : K ≤ 10) (hj : x_cn H0 K < j) : OL H0 (x_puti H K k j z) X := by
  refine ⟨p.1, fun K' a b hb hX => ?_⟩
  have p2 := p.2 K' a b hb hX
  refine ⟨p2.1, ?_, p2.2.2⟩
  rw [x_vi_puti, if_neg]
  · exact p2.2.1
  · rintro ⟨rfl, rfl, rfl⟩
    rw [ob_o hK] at hb
    omega
theorem OL.putr (p : OL H0 H X) (hK : K ≤ 10) (hj : x_cn H0 K < j) : OL H0 (x_putr H K k j v) X := by
  refine ⟨p.1, fun K' a b hb hX => ?_⟩
  have p2 := p.2 K' a b hb hX
  refine ⟨?_, p2.2⟩
  rw [x_vr_putr, if_neg]
  · exact p2.1
  · rintro ⟨rfl, rfl, rfl⟩
    rw [ob_o hK] at hb
    omega
theorem OL.puta (p : OL H0 H X) (hK : 11 ≤ K) (hj : x_cn H0 K < a) : OL H0 (x_putr H K a b v) X := by
  refine ⟨p.1, fun K' a b hb hX => ?_⟩
  have p2 := p.2 K' a b hb hX
  refine ⟨?_, p2.2⟩
  rw [x_vr_putr, if_neg]
  · exact p2.1
  · rintro ⟨rfl, rfl, rfl⟩
    rw [ob_a hK] at hb
    omega
theorem OL.px (p : OL H0 H X) (hX : X K a b) : OL H0 (x_putr H K a b v) X := by
  refine ⟨p.1, fun K' a' b' hb hX' => ?_⟩
  have p2 := p.2 K' a' b' hb hX'
  refine ⟨?_, p2.2⟩
  rw [x_vr_putr, if_neg]
  · exact p2.1
  · rintro ⟨rfl, rfl, rfl⟩
    exact hX' hX
theorem OL.pxi (p : OL H0 H X) (hX : X K a b) : OL H0 (x_puti H K a b z) X := by
  refine ⟨p.1, fun K' a' b' hb hX' => ?_⟩
  have p2 := p.2 K' a' b' hb hX'
  refine ⟨p2.1, ?_, p2.2.2⟩
  rw [x_vi_puti, if_neg]
  · exact p2.2.1
  · rintro ⟨rfl, rfl, rfl⟩
    exact hX' hX
theorem OL.vr (p : OL H H' X) {c : Nat} (hb : ob K a b ≤ x_cn H K) (hx : ¬ X K a b) (e : x_vr H K a b = c) : x_vr H' K a b = c := (p.2 K a b hb hx).1.trans e
theorem OL.vi (p : OL H H' X) {c : Int32} (hb : ob K a b ≤ x_cn H K) (hx : ¬ X K a b) (e : x_vi H K a b = c) : x_vi H' K a b = c := (p.2 K a b hb hx).2.1.trans e
theorem OL.vit (p : OL H H' X) {c : Int} (hb : ob K a b ≤ x_cn H K) (hx : ¬ X K a b) (e : (x_vi H K a b).toInt = c) : (x_vi H' K a b).toInt = c := by rw [(p.2 K a b hb hx).2.1]; exact e
end XOL
/-- a row and its array, empty -/
def RW (H : xH) (j a s : Nat) : Prop := x_vr H 5 0 j = a ∧ x_vi H 5 1 j = 0 ∧ (∀ i, x_vi H 20 a i = 0) ∧ x_ln H 20 a = s
/-- the rows of an office: waiting, jobs, hunts -/
def rz (r : Nat) : Nat := if r = 0 then 24 else if r = 1 then 3 else 6
/-- an array of null alone -/
def AN (H : xH) (K a : Nat) : Prop := ∀ i, x_vr H K a i = 0
/-- a line, on the hook and silent -/
def LC (H : xH) (j : Nat) (o n : Int) : Prop := (x_vi H 2 0 j).toInt = o ∧ (x_vi H 2 1 j).toInt = n ∧ x_vi H 2 2 j = 0 ∧ x_vi H 2 3 j = 0 ∧ x_vi H 2 4 j = 0 ∧ x_vr H 2 5 j = 0
/-- an office's fields -/
def OF (H : xH) (x0 b16 b17 b18 b19 b5 : Nat) (o : Int) : Prop := x_vr H 3 1 x0 = b16 + 1 ∧ x_vr H 3 2 x0 = b17 + 1 ∧ x_vr H 3 3 x0 = b18 + 1 ∧ x_vr H 3 4 x0 = b19 + 1 ∧ x_vr H 3 5 x0 = b5 + 1 ∧ x_vr H 3 6 x0 = b5 + 2 ∧ (x_vi H 3 0 x0).toInt = o ∧ x_vi H 3 7 x0 = 0 ∧ x_vi H 3 8 x0 = 0
section XOM
variable {H H' : xH} {X : Nat → Nat → Nat → Prop} {K j a s x0 b16 b17 b18 b19 b5 : Nat} {o n : Int}
theorem RW.ol (p : OL H H' X) (h5 : ∀ a b, ¬ X 5 a b) (h20 : ∀ a b, ¬ X 20 a b) (hj : j ≤ x_cn H 5) (ha : a ≤ x_cn H 20) (q : RW H j a s) : RW H' j a s := ⟨p.vr (K := 5) (a := 0) (b := j) hj (h5 _ _) q.1, p.vi (K := 5) (a := 1) (b := j) hj (h5 _ _) q.2.1, fun i => p.vi (K := 20) (a := a) (b := i) ha (h20 _ _) (q.2.2.1 i), ((p.2 20 a 0 ha (h20 _ _)).2.2 (by omega)).trans q.2.2.2⟩
theorem AN.ol (p : OL H H' X) (hK : 11 ≤ K) (hX : ∀ b, ¬ X K a b) (ha : a ≤ x_cn H K) (q : AN H K a) : AN H' K a := fun i => p.vr (K := K) (a := a) (b := i) (by rw [ob_a hK]; exact ha) (hX _) (q i)
theorem LC.ol (p : OL H H' X) (hX : ∀ a b, ¬ X 2 a b) (hj : j ≤ x_cn H 2) (q : LC H j o n) : LC H' j o n := ⟨p.vit (K := 2) (a := 0) (b := j) hj (hX _ _) q.1, p.vit (K := 2) (a := 1) (b := j) hj (hX _ _) q.2.1, p.vi (K := 2) (a := 2) (b := j) hj (hX _ _) q.2.2.1, p.vi (K := 2) (a := 3) (b := j) hj (hX _ _) q.2.2.2.1, p.vi (K := 2) (a := 4) (b := j) hj (hX _ _) q.2.2.2.2.1, p.vr (K := 2) (a := 5) (b := j) hj (hX _ _) q.2.2.2.2.2⟩
theorem OF.ol (p : OL H H' X) (hX : ∀ a, ¬ X 3 a x0) (hj : x0 ≤ x_cn H 3) (q : OF H x0 b16 b17 b18 b19 b5 o) : OF H' x0 b16 b17 b18 b19 b5 o := ⟨p.vr (K := 3) (a := 1) (b := x0) hj (hX _) q.1, p.vr (K := 3) (a := 2) (b := x0) hj (hX _) q.2.1, p.vr (K := 3) (a := 3) (b := x0) hj (hX _) q.2.2.1, p.vr (K := 3) (a := 4) (b := x0) hj (hX _) q.2.2.2.1, p.vr (K := 3) (a := 5) (b := x0) hj (hX _) q.2.2.2.2.1, p.vr (K := 3) (a := 6) (b := x0) hj (hX _) q.2.2.2.2.2.1, p.vit (K := 3) (a := 0) (b := x0) hj (hX _) q.2.2.2.2.2.2.1, p.vi (K := 3) (a := 7) (b := x0) hj (hX _) q.2.2.2.2.2.2.2.1, p.vi (K := 3) (a := 8) (b := x0) hj (hX _) q.2.2.2.2.2.2.2.2⟩
end XOM
/-- what an office's constructor has done: nl lines, nr hunts -/
def FL (h H : xH) (x0 : Nat) (o : Int) (nl nr : Nat) : Prop :=
  OL h H (fun K _ b => K = 3 ∧ b = x0) ∧ OF H x0 (x_cn h 16) (x_cn h 17) (x_cn h 18) (x_cn h 19) (x_cn h 5) o ∧ AN H 17 (x_cn h 17 + 1) ∧ AN H 18 (x_cn h 18 + 1) ∧ (∀ r, r < 2 + nr → RW H (x_cn h 5 + 1 + r) (x_cn h 20 + 1 + r) (rz r)) ∧ (∀ i, i < nr → x_vr H 19 (x_cn h 19 + 1) i = x_cn h 5 + 3 + i) ∧ ∀ m, m < nl → x_vr H 16 (x_cn h 16 + 1) m = x_cn h 2 + m + 1 ∧ LC H (x_cn h 2 + m + 1) o m
/-- a line more -/
def ln_h (H : xH) (x1 n : Int32) : xH := x_puti (x_puti (x_puti (x_new H 2 6) 2 3 (x_cn H 2 + 1) 0) 2 0 (x_cn H 2 + 1) x1) 2 1 (x_cn H 2 + 1) n
theorem ln_LC {H : xH} {x1 n : Int32} : LC (ln_h H x1 n) (x_cn H 2 + 1) x1.toInt n.toInt := by
  have z : ∀ k, x_vi (x_new H 2 6) 2 k (x_cn H 2 + 1) = 0 := fun k => if_pos ⟨rfl, rfl⟩
  unfold ln_h
  refine ⟨?_, ?_, ?_, ?_, ?_, ?_⟩
  · rw [x_vi_puti, if_neg (by omega), x_vi_puti, if_pos ⟨rfl, rfl, rfl⟩]
  · rw [x_vi_puti, if_pos ⟨rfl, rfl, rfl⟩]
  · rw [x_vi_puti, if_neg (by omega), x_vi_puti, if_neg (by omega), x_vi_puti, if_neg (by omega)]; exact z 2
  · rw [x_vi_puti, if_neg (by omega), x_vi_puti, if_neg (by omega), x_vi_puti, if_pos ⟨rfl, rfl, rfl⟩]
  · rw [x_vi_puti, if_neg (by omega), x_vi_puti, if_neg (by omega), x_vi_puti, if_neg (by omega)]; exact z 4
  · exact if_pos (c := 2 = 2 ∧ x_cn H 2 + 1 = x_cn H 2 + 1) ⟨rfl, rfl⟩
theorem ln_OL {H0 H : xH} {X : Nat → Nat → Nat → Prop} {x1 n : Int32} (p : OL H0 H X) : OL H0 (ln_h H x1 n) X := by
  have q := p.1 2
  exact (((p.new (K := 2) (N := 6) (by omega)).puti (by omega) (by omega)).puti (by omega) (by omega)).puti (by omega) (by omega)
theorem FL.line {h H : xH} {x0 nl nr : Nat} {x1 n : Int32} (F : FL h H x0 x1.toInt nl nr) (hcn : ∀ K, x_cn H K = x_cn h K + of_c K nl nr) (hn : n.toInt = nl) (g0 : x0 ≤ x_cn h 3) : FL h (x_putr (ln_h H x1 n) 16 (x_cn h 16 + 1) nl (x_cn H 2 + 1)) x0 x1.toInt (nl + 1) nr := by
  obtain ⟨o, f, a17, a18, rw', hu, ln⟩ := F
  have k2 : x_cn H 2 = x_cn h 2 + nl := hcn 2
  have k5 : x_cn H 5 = x_cn h 5 + (2 + nr) := hcn 5
  have k20 : x_cn H 20 = x_cn h 20 + (2 + nr) := hcn 20
  have k16 : x_cn H 16 = x_cn h 16 + 1 := hcn 16
  have k17 : x_cn H 17 = x_cn h 17 + 1 := hcn 17
  have k18 : x_cn H 18 = x_cn h 18 + 1 := hcn 18
  have k19 : x_cn H 19 = x_cn h 19 + 1 := hcn 19
  have ol : OL H (x_putr (ln_h H x1 n) 16 (x_cn h 16 + 1) nl (x_cn H 2 + 1)) (fun K a b => K = 16 ∧ a = x_cn h 16 + 1 ∧ b = nl) := (ln_OL OL.rf).px ⟨rfl, rfl, rfl⟩
  refine ⟨(ln_OL o).puta (by omega) (by omega), f.ol ol (fun a z => by omega) (Nat.le_trans g0 (o.1 3)), a17.ol ol (by omega) (fun b z => by omega) (by omega), a18.ol ol (by omega) (fun b z => by omega) (by omega), fun r hr => (rw' r hr).ol ol (fun a b z => by omega) (fun a b z => by omega) (by omega) (by omega), fun i hi => ol.vr (K := 19) (a := x_cn h 19 + 1) (b := i) (show x_cn h 19 + 1 ≤ x_cn H 19 by omega) (fun z => by omega) (hu i hi), fun m hm => ?_⟩
  by_cases e : m = nl
  · subst e
    refine ⟨by rw [x_vr_putr, if_pos ⟨rfl, rfl, rfl⟩]; omega, ?_⟩
    rw [show x_cn h 2 + m + 1 = x_cn H 2 + 1 by omega, ← hn]
    exact ln_LC
  · exact ⟨ol.vr (K := 16) (a := x_cn h 16 + 1) (b := m) (show x_cn h 16 + 1 ≤ x_cn H 16 by omega) (fun z => e z.2.2) (ln m (by omega)).1, (ln m (by omega)).2.ol ol (fun a b z => by omega) (by omega)⟩
/-- a row more -/
def rw_h (H : xH) (v : Nat) : xH := x_putr (x_newa (x_new H 5 2) 20 v) 5 0 (x_cn H 5 + 1) (x_cn H 20 + 1)
theorem rw_RW {H : xH} {v : Nat} : RW (rw_h H v) (x_cn H 5 + 1) (x_cn H 20 + 1) v := by
  unfold rw_h
  refine ⟨by rw [x_vr_putr, if_pos ⟨rfl, rfl, rfl⟩], ?_, fun i => ?_, ?_⟩
  · show x_vi (x_new H 5 2) 5 1 (x_cn H 5 + 1) = 0
    exact if_pos ⟨rfl, rfl⟩
  · exact if_pos (c := 20 = 20 ∧ x_cn H 20 + 1 = x_cn H 20 + 1) ⟨rfl, rfl⟩
  · exact if_pos (c := 20 = 20 ∧ x_cn H 20 + 1 = x_cn H 20 + 1) ⟨rfl, rfl⟩
theorem rw_OL {H0 H : xH} {X : Nat → Nat → Nat → Prop} {v : Nat} (p : OL H0 H X) : OL H0 (rw_h H v) X := by
  have q := p.1 5
  exact ((p.new (K := 5) (N := 2) (by omega)).newa (by omega)).putr (by omega) (by omega)
theorem FL.hunt {h H : xH} {x0 nl nr : Nat} {o : Int} (F : FL h H x0 o nl nr) (hcn : ∀ K, x_cn H K = x_cn h K + of_c K nl nr) (g0 : x0 ≤ x_cn h 3) : FL h (x_putr (rw_h H 6) 19 (x_cn h 19 + 1) nr (x_cn H 5 + 1)) x0 o nl (nr + 1) := by
  obtain ⟨o', f, a17, a18, rw', hu, ln⟩ := F
  have k2 : x_cn H 2 = x_cn h 2 + nl := hcn 2
  have k5 : x_cn H 5 = x_cn h 5 + (2 + nr) := hcn 5
  have k20 : x_cn H 20 = x_cn h 20 + (2 + nr) := hcn 20
  have k16 : x_cn H 16 = x_cn h 16 + 1 := hcn 16
  have k17 : x_cn H 17 = x_cn h 17 + 1 := hcn 17
  have k18 : x_cn H 18 = x_cn h 18 + 1 := hcn 18
  have k19 : x_cn H 19 = x_cn h 19 + 1 := hcn 19
  have ol : OL H (x_putr (rw_h H 6) 19 (x_cn h 19 + 1) nr (x_cn H 5 + 1)) (fun K a b => K = 19 ∧ a = x_cn h 19 + 1 ∧ b = nr) := (rw_OL OL.rf).px ⟨rfl, rfl, rfl⟩
  refine ⟨(rw_OL o').puta (by omega) (by omega), f.ol ol (fun a z => by omega) (Nat.le_trans g0 (o'.1 3)), a17.ol ol (by omega) (fun b z => by omega) (by omega), a18.ol ol (by omega) (fun b z => by omega) (by omega), fun r hr => ?_, fun i hi => ?_, fun m hm => ⟨ol.vr (K := 16) (a := x_cn h 16 + 1) (b := m) (show x_cn h 16 + 1 ≤ x_cn H 16 by omega) (fun z => by omega) (ln m hm).1, (ln m hm).2.ol ol (fun a b z => by omega) (by omega)⟩⟩
  · by_cases e : r = 2 + nr
    · rw [show x_cn h 5 + 1 + r = x_cn H 5 + 1 by omega, show x_cn h 20 + 1 + r = x_cn H 20 + 1 by omega]
      rw [show rz r = 6 by unfold rz; rw [if_neg (by omega), if_neg (by omega)]]
      exact rw_RW
    · exact (rw' r (by omega)).ol ol (fun a b z => by omega) (fun a b z => by omega) (by omega) (by omega)
  · by_cases e : i = nr
    · rw [x_vr_putr, if_pos ⟨rfl, rfl, e⟩]; omega
    · exact ol.vr (K := 19) (a := x_cn h 19 + 1) (b := i) (show x_cn h 19 + 1 ≤ x_cn H 19 by omega) (fun z => e z.2.2) (hu i (by omega))
section XNX
variable {n1 n2 n3 n4 n5 n6 n : Nat} {r : List (Nat × xI)} {Z : xO → xH → Prop} {J : Nat → xS → Prop} {ls : List xV} {H : xH} {E : Nat → Nat → Prop} {A : Nat → Nat → Nat → Prop} {x0 a b : Nat}
theorem wx_arr {K L k : Nat} {v : Int32} (hxm : xm_k K = false) (Q : QI H E A) (hl : ls[0]? = some (.inr (.inr (3, x0)))) (hK : 11 ≤ K ∧ K ≠ 20) (hL : ∀ L', (K, L') ∈ x_lnl → L = L') (hv : v.toInt = L) (hL2 : L ≤ 100) (hft : x_ft 3 k = K) (g0 : x_live H 3 x0) (hce : x_ce H = a) (hso : x_so H = b) (ha : a + 1 ≤ 40) (hb : b + L ≤ 373)
    (kk : ∀ H', QI H' E (fun K' j i => A K' j i ∨ (K' = K ∧ j = x_cn H K + 1)) → (∀ K', x_cn H' K' = x_cn H K' + if K' = K then 1 else 0) → (∀ k', x_vr H' 3 k' x0 = if k' = k then x_cn H K + 1 else x_vr H 3 k' x0) → x_ce H' = a + 1 → x_so H' = b + L → x_mq H' = x_mq H → OL H H' (fun K _ b => K = 3 ∧ b = x0) → (∀ k', x_vi H' 3 k' x0 = x_vi H 3 k' x0) → AN H' K (x_cn H K + 1) → x_seq r (xC n) Z J (ls, [], H')) :
    x_seq ((n1, x_aload 0) :: (n2, x_iconst v) :: (n3, x_newr K 40 373) :: (n4, x_pfr 3 k K) :: r) (xC n) Z J (ls, [], H) := by
  have hcl : v.toNatClampNeg = L := by have := x_clamp (n := v) (by omega); omega
  refine q_aload hl (by decide) (q_iconst (q_newr (by omega) (by omega) (by omega) (by omega) ?_))
  rw [hcl]
  have l3 : x_live (x_newa H K L) 3 x0 := x_newa_lv.mpr (Or.inl g0)
  have lK : x_live (x_newa H K L) K (x_cn H K + 1) := x_newa_lv.mpr (Or.inr ⟨rfl, rfl⟩)
  refine q_pfr l3 (kk _ ((Q.newa hK.1 hL (fun z => absurd z hK.2)).putr (by omega) (by rw [hft]; exact lK)) (fun K' => ?_) (fun k' => ?_) ?_ ?_ ((x_mq_putr rfl).trans (x_mq_newa hxm)) (OL.px (OL.rf.newa hK.1) ⟨rfl, rfl⟩) (fun k' => if_neg (fun z => by omega)) (fun i => (x_vr_putr.trans (if_neg (by omega))).trans (if_pos ⟨rfl, rfl⟩)))
  · show x_cn (x_newa H K L) K' = _
    rw [x_newa_cn]
    by_cases e : K' = K
    · rw [if_pos e, if_pos e, e]
    · rw [if_neg e, if_neg e]; omega
  · rw [x_vr_putr]
    by_cases e : k' = k
    · rw [if_pos ⟨rfl, e, rfl⟩, if_pos e]
    · rw [if_neg (fun z => e z.2.1), if_neg e]
      exact if_neg (fun z => by omega)
  · show x_ce H + 1 = _
    rw [hce]
  · show x_so H + L = _
    rw [hso]
theorem wx_row {k : Nat} {v : Int32} (Q : QI H E A) (hl : ls[0]? = some (.inr (.inr (3, x0)))) (hv : 0 ≤ v.toInt ∧ v.toInt ≤ 24) (hft : x_ft 3 k = 5) (g0 : x_live H 3 x0) (hce : x_ce H = a) (hso : x_so H = b) (ha : a + 2 ≤ 40) (hb : b + 26 ≤ 373) (hn : 10 ≤ n)
    (kk : ∀ H', QI H' E A → (∀ K', x_cn H' K' = x_cn H K' + if K' = 5 ∨ K' = 20 then 1 else 0) → (∀ k', x_vr H' 3 k' x0 = if k' = k then x_cn H 5 + 1 else x_vr H 3 k' x0) → x_ce H' = a + 2 → x_so H' = b + 26 → x_mq H' = x_mq H → OL H H' (fun K _ b => K = 3 ∧ b = x0) → (∀ k', x_vi H' 3 k' x0 = x_vi H 3 k' x0) → RW H' (x_cn H 5 + 1) (x_cn H 20 + 1) v.toNatClampNeg → x_seq r (xC n) Z J (ls, [], H')) :
    x_seq ((n1, x_aload 0) :: (n2, x_newo 5 2 40 373) :: (n3, x_dup) :: (n4, x_iconst v) :: (n5, x_calli 0 2 1 24 40 373) :: (n6, x_pfr 3 k 5) :: r) (xC n) Z J (ls, [], H) := by
  have hcl : (v.toNatClampNeg : Int) = v.toInt := x_clamp hv.1
  have l5 : x_live (x_new H 5 2) 5 (x_cn H 5 + 1) := x_new_lv.mpr (Or.inr ⟨rfl, rfl⟩)
  refine q_aload hl (by decide) (q_newo (by omega) (by omega) (q_dup rfl (q_iconst (q_calli rfl (by decide) l5.1 (by decide) (Nat.le_of_ble_eq_true rfl) (Nat.le_of_ble_eq_true rfl) (by show x_ce H + 1 + 1 ≤ 40; omega) (by show x_so H + 2 + 24 ≤ 373; omega) ?_))))
  refine xC.up (tv0 (h := x_setc (x_new H 5 2) 0 0) (x0 := x_cn H 5 + 1) (x1 := v) rfl rfl l5 hv ?_) hn
  have Q1 := Q.row (n := v.toNatClampNeg) (by omega)
  have l3 : x_live (x_putr (x_newa (x_new H 5 2) 20 v.toNatClampNeg) 5 0 (x_cn H 5 + 1) (x_cn H 20 + 1)) 3 x0 := (show x_live (x_newa (x_new H 5 2) 20 v.toNatClampNeg) 3 x0 from x_newa_lv.mpr (Or.inl (x_new_up g0)))
  have l5' : x_live (x_putr (x_newa (x_new H 5 2) 20 v.toNatClampNeg) 5 0 (x_cn H 5 + 1) (x_cn H 20 + 1)) 5 (x_cn H 5 + 1) := (show x_live (x_newa (x_new H 5 2) 20 v.toNatClampNeg) 5 (x_cn H 5 + 1) from x_newa_lv.mpr (Or.inl l5))
  refine q_pfr l3 (kk _ (Q1.putr (K := 3) (k := k) (j := x0) (by omega) (by rw [hft]; exact l5')) (fun K' => ?_) (fun k' => ?_) ?_ ?_ (((x_mq_putr (h := x_putr (x_newa (x_new H 5 2) 20 v.toNatClampNeg) 5 0 (x_cn H 5 + 1) (x_cn H 20 + 1)) rfl).trans ((x_mq_putr rfl).trans ((x_mq_newa rfl).trans (x_mq_new rfl))))) (OL.px (rw_OL (v := v.toNatClampNeg) OL.rf) ⟨rfl, rfl⟩) (fun k' => rfl) ?_)
  · show x_cn (x_newa (x_new H 5 2) 20 v.toNatClampNeg) K' = _
    simp only [x_newa_cn, x_new_cn]
    by_cases e : K' = 20
    · subst e; simp
    · by_cases e2 : K' = 5
      · subst e2; simp
      · simp [e, e2]
  · show x_vr (x_putr (x_putr (x_newa (x_new H 5 2) 20 v.toNatClampNeg) 5 0 (x_cn H 5 + 1) (x_cn H 20 + 1)) 3 k x0 (x_cn H 5 + 1)) 3 k' x0 = _
    rw [x_vr_putr]
    by_cases e : k' = k
    · rw [if_pos ⟨rfl, e, rfl⟩, if_pos e]
    · rw [if_neg (fun z => e z.2.1), if_neg e, x_vr_putr, if_neg (by omega)]
      rfl
  · show x_ce H + 1 + 1 = _
    omega
  · show x_so H + 2 + 24 = _
    omega
  · have q := rw_RW (H := H) (v := v.toNatClampNeg)
    exact ⟨(x_vr_putr.trans (if_neg (by omega))).trans q.1, q.2.1, q.2.2.1, q.2.2.2⟩
end XNX
theorem tx13 {h : xH} {Z : xO → xH → Prop} {x0 : Nat} {x1 : Int32} {E : Nat → Nat → Prop} {A : Nat → Nat → Nat → Prop} (Q : QI h E A) (hc : x_ce h = 0) (hs : x_so h = 0) (g0 : x_live h 3 x0) (g1 : 0 ≤ x1.toInt ∧ x1.toInt ≤ 2) (hz : ∀ k, x_vi h 3 k x0 = 0)
    (hZ : ∀ g : xH, QI g (fun K j => E K j ∧ ¬ (K = 3 ∧ j = x0)) A → (∀ K, x_cn g K = x_cn h K + of_c K 24 4) → x_mq g = x_mq h → FL h g x0 x1.toInt 24 4 → Z (.inl none) g) : xC 1000 13 [.inr (.inr (3, x0)), .inl x1] h Z := by
  refine ⟨rfl, hc, hs, ?_⟩
  show xR _ 13 0 ([.inr (.inr (3, x0)), .inl x1, .inr (.inr (0, 0))], [], h) Z
  refine xR.blk c13_0 ?_
  refine q_aload rfl (by decide) (q_objinit (by decide) g0.1 (Nat.le_of_ble_eq_true rfl) ?_)
  refine wx_arr (L := 24) rfl Q rfl (by decide) (fun L' hm => by simp only [x_lnl, List.mem_cons, Prod.mk.injEq, List.not_mem_nil, or_false] at hm; omega) rfl (by decide) rfl g0 hc hs (by decide) (by decide) (fun H1 Q1 c1 v1 ce1 so1 mq1 o1 z1 an1 => ?_)
  have l1 : x_live H1 3 x0 := ⟨g0.1, by rw [c1, if_neg (by decide)]; exact g0.2⟩
  refine wx_arr (L := 33) rfl Q1 rfl (by decide) (fun L' hm => by simp only [x_lnl, List.mem_cons, Prod.mk.injEq, List.not_mem_nil, or_false] at hm; omega) rfl (by decide) rfl l1 ce1 so1 (by decide) (by decide) (fun H2 Q2 c2 v2 ce2 so2 mq2 o2 z2 an2 => ?_)
  have l2 : x_live H2 3 x0 := ⟨g0.1, by rw [c2, if_neg (by decide)]; exact l1.2⟩
  refine wx_arr (L := 12) rfl Q2 rfl (by decide) (fun L' hm => by simp only [x_lnl, List.mem_cons, Prod.mk.injEq, List.not_mem_nil, or_false] at hm; omega) rfl (by decide) rfl l2 ce2 so2 (by decide) (by decide) (fun H3 Q3 c3 v3 ce3 so3 mq3 o3 z3 an3 => ?_)
  have l3 : x_live H3 3 x0 := ⟨g0.1, by rw [c3, if_neg (by decide)]; exact l2.2⟩
  refine wx_arr (L := 4) rfl Q3 rfl (by decide) (fun L' hm => by simp only [x_lnl, List.mem_cons, Prod.mk.injEq, List.not_mem_nil, or_false] at hm; omega) rfl (by decide) rfl l3 ce3 so3 (by decide) (by decide) (fun H4 Q4 c4 v4 ce4 so4 mq4 o4 z4 an4 => ?_)
  have l4 : x_live H4 3 x0 := ⟨g0.1, by rw [c4, if_neg (by decide)]; exact l3.2⟩
  refine wx_row Q4 rfl (by decide) rfl l4 ce4 so4 (by decide) (by decide) (by omega) (fun H5 Q5 c5 v5 ce5 so5 mq5 o5 z5 rw5 => ?_)
  have l5 : x_live H5 3 x0 := ⟨g0.1, by rw [c5, if_neg (by decide)]; exact l4.2⟩
  refine wx_row Q5 rfl (by decide) rfl l5 ce5 so5 (by decide) (by decide) (by omega) (fun H6 Q6 c6 v6 ce6 so6 mq6 o6 z6 rw6 => ?_)
  have l6 : x_live H6 3 x0 := ⟨g0.1, by rw [c6, if_neg (by decide)]; exact l5.2⟩
  refine q_aload rfl (by decide) (q_iload rfl (q_pfi l6 ?_))
  have Q7 := Q6.puti (K := 3) (k := 0) (j := x0) (v := x1) (fun lo hi hm => by simp only [x_rgl, List.mem_cons, Prod.mk.injEq, List.not_mem_nil, or_false] at hm; omega) (by omega) (by omega) (by omega)
  have l7 : x_live (x_puti H6 3 0 x0 x1) 3 x0 := l6
  have ce7 : x_ce (x_puti H6 3 0 x0 x1) = 8 := ce6
  have so7 : x_so (x_puti H6 3 0 x0 x1) = 125 := so6
  have c7 : ∀ K, x_cn (x_puti H6 3 0 x0 x1) K = x_cn h K + of_c K 0 0 := by
    intro K
    show x_cn H6 K = _
    rw [c6, c5, c4, c3, c2, c1]
    unfold of_c
    by_cases e2 : K = 2
    · subst e2; simp
    · by_cases e5 : K = 5 ∨ K = 20
      · rcases e5 with rfl | rfl <;> simp
      · by_cases e6 : 16 ≤ K ∧ K ≤ 19
        · rcases (show K = 16 ∨ K = 17 ∨ K = 18 ∨ K = 19 by omega) with rfl | rfl | rfl | rfl <;> simp
        · have n1 : K ≠ 16 := by omega
          have n2 : K ≠ 17 := by omega
          have n3 : K ≠ 18 := by omega
          have n4 : K ≠ 19 := by omega
          simp [e2, e5, e6, n1, n2, n3, n4]
  have f1 : x_vr (x_puti H6 3 0 x0 x1) 3 1 x0 = x_cn h 16 + 1 := by
    show x_vr H6 3 1 x0 = _
    rw [v6, if_neg (by decide), v5, if_neg (by decide), v4, if_neg (by decide), v3, if_neg (by decide), v2, if_neg (by decide), v1, if_pos rfl]
  have f2 : x_vr (x_puti H6 3 0 x0 x1) 3 2 x0 = x_cn h 17 + 1 := by
    show x_vr H6 3 2 x0 = _
    rw [v6, if_neg (by decide), v5, if_neg (by decide), v4, if_neg (by decide), v3, if_neg (by decide), v2, if_pos rfl, c1, if_neg (by decide), Nat.add_zero]
  have f3 : x_vr (x_puti H6 3 0 x0 x1) 3 3 x0 = x_cn h 18 + 1 := by
    show x_vr H6 3 3 x0 = _
    rw [v6, if_neg (by decide), v5, if_neg (by decide), v4, if_neg (by decide), v3, if_pos rfl]; simp [c2, c1]
  have f4 : x_vr (x_puti H6 3 0 x0 x1) 3 4 x0 = x_cn h 19 + 1 := by
    show x_vr H6 3 4 x0 = _
    rw [v6, if_neg (by decide), v5, if_neg (by decide), v4, if_pos rfl]; simp [c3, c2, c1]
  have f5 : x_vr (x_puti H6 3 0 x0 x1) 3 5 x0 = x_cn h 5 + 1 := by
    show x_vr H6 3 5 x0 = _
    rw [v6, if_neg (by decide), v5, if_pos rfl]; simp [c4, c3, c2, c1]
  have f6 : x_vr (x_puti H6 3 0 x0 x1) 3 6 x0 = x_cn h 5 + 2 := by
    show x_vr H6 3 6 x0 = _
    rw [v6, if_pos rfl]; simp [c5, c4, c3, c2, c1]
  have e16 : x_cn H1 17 = x_cn h 17 := by simp [c1]
  have e17 : x_cn H2 18 = x_cn h 18 := by simp [c2, c1]
  have e18 : x_cn H3 19 = x_cn h 19 := by simp [c3, c2, c1]
  rw [e16, e17, e18] at Q7
  have mq7 : x_mq (x_puti H6 3 0 x0 x1) = x_mq h := by rw [x_mq_puti rfl, mq6, mq5, mq4, mq3, mq2, mq1]
  have fl7 : FL h (x_puti H6 3 0 x0 x1) x0 x1.toInt 0 0 := by
    have tr : ∀ {A B C : xH}, OL A B (fun K _ b => K = 3 ∧ b = x0) → OL B C (fun K _ b => K = 3 ∧ b = x0) → OL A C (fun K _ b => K = 3 ∧ b = x0) := fun p q => p.tr q (fun _ _ _ z _ => z)
    have o67 : OL H6 (x_puti H6 3 0 x0 x1) (fun K _ b => K = 3 ∧ b = x0) := OL.rf.pxi ⟨rfl, rfl⟩
    have o57 := tr o6 o67
    have o37 := tr o4 (tr o5 o57)
    have o27 := tr o3 o37
    have o07 := tr o1 (tr o2 o27)
    have vz : ∀ k, x_vi H6 3 k x0 = 0 := fun k => by rw [z6, z5, z4, z3, z2, z1]; exact hz k
    have c45 : x_cn H4 5 = x_cn h 5 := by simp [c4, c3, c2, c1]
    have c420 : x_cn H4 20 = x_cn h 20 := by simp [c4, c3, c2, c1]
    have c55 : x_cn H5 5 = x_cn h 5 + 1 := by simp [c5, c4, c3, c2, c1]
    have c520 : x_cn H5 20 = x_cn h 20 + 1 := by simp [c5, c4, c3, c2, c1]
    refine ⟨o07, ⟨f1, f2, f3, f4, f5, f6, by rw [x_vi_puti, if_pos ⟨rfl, rfl, rfl⟩], by rw [x_vi_puti, if_neg (by omega)]; exact vz 7, by rw [x_vi_puti, if_neg (by omega)]; exact vz 8⟩, ?_, ?_, fun r hr => ?_, fun i hi => absurd hi (by omega), fun m hm => absurd hm (by omega)⟩
    · rw [← e16]
      exact an2.ol o27 (by omega) (fun b z => by omega) (by rw [c2, if_pos rfl]; exact Nat.le_refl _)
    · rw [← e17]
      exact an3.ol o37 (by omega) (fun b z => by omega) (by rw [c3, if_pos rfl]; exact Nat.le_refl _)
    · rcases (show r = 0 ∨ r = 1 by omega) with rfl | rfl
      · have q := rw5.ol o57 (fun a b z => by omega) (fun a b z => by omega) (by rw [c5, if_pos (Or.inl rfl)]; exact Nat.le_refl _) (by rw [c5, if_pos (Or.inr rfl)]; exact Nat.le_refl _)
        rw [c45, c420] at q
        exact q
      · have q := rw6.ol o67 (fun a b z => by omega) (fun a b z => by omega) (by rw [c6, if_pos (Or.inl rfl)]; exact Nat.le_refl _) (by rw [c6, if_pos (Or.inr rfl)]; exact Nat.le_refl _)
        rw [c55, c520] at q
        exact q
  generalize x_puti H6 3 0 x0 x1 = H at Q7 l7 ce7 so7 c7 f1 f2 f3 f4 f5 f6 mq7 fl7 ⊢
  have Q8 : QI H (fun K j => E K j ∧ ¬ (K = 3 ∧ j = x0)) (fun K j i => A K j i ∨ (K = 16 ∧ j = x_cn h 16 + 1 ∧ 0 ≤ i) ∨ (K = 19 ∧ j = x_cn h 19 + 1 ∧ 0 ≤ i)) := by
    refine Q7.done (fun K j z => ?_) (fun K j i z => ?_)
    · by_cases q : K = 3 ∧ j = x0
      · obtain ⟨rfl, rfl⟩ := q
        refine Or.inr (fun k hm => ?_)
        have hk : k = 1 ∨ k = 2 ∨ k = 3 ∨ k = 4 ∨ k = 5 ∨ k = 6 := by simp only [x_nnl, List.mem_cons, Prod.mk.injEq, List.not_mem_nil, or_false] at hm; omega
        rcases hk with rfl | rfl | rfl | rfl | rfl | rfl
        · rw [f1]; exact ⟨by omega, by show _ ≤ x_cn H 16; rw [c7]; exact Nat.le_refl _⟩
        · rw [f2]; exact ⟨by omega, by show _ ≤ x_cn H 17; rw [c7]; exact Nat.le_refl _⟩
        · rw [f3]; exact ⟨by omega, by show _ ≤ x_cn H 18; rw [c7]; exact Nat.le_refl _⟩
        · rw [f4]; exact ⟨by omega, by show _ ≤ x_cn H 19; rw [c7]; exact Nat.le_refl _⟩
        · rw [f5]; exact ⟨by omega, by show _ ≤ x_cn H 5; rw [c7]; exact Nat.le_succ _⟩
        · rw [f6]; exact ⟨by omega, by show _ ≤ x_cn H 5; rw [c7]; exact Nat.le_refl _⟩
      · exact Or.inl ⟨z, q⟩
    · rcases z with (((z | ⟨z1, z2⟩) | ⟨z1, z2⟩) | ⟨z1, z2⟩) | ⟨z1, z2⟩
      · exact Or.inl (Or.inl z)
      · exact Or.inl (Or.inr (Or.inl ⟨z1, z2, Nat.zero_le _⟩))
      · exact Or.inr (fun L => Or.inl (fun hm => by simp only [x_ael, List.mem_cons, Prod.mk.injEq, List.not_mem_nil, or_false] at hm; omega))
      · exact Or.inr (fun L => Or.inl (fun hm => by simp only [x_ael, List.mem_cons, Prod.mk.injEq, List.not_mem_nil, or_false] at hm; omega))
      · exact Or.inl (Or.inr (Or.inr ⟨z1, z2, Nat.zero_le _⟩))
  have lp2 : ∀ (m : Nat) (n : Int32) (H : xH), QI H (fun K j => E K j ∧ ¬ (K = 3 ∧ j = x0)) (fun K j i => A K j i ∨ (K = 19 ∧ j = x_cn h 19 + 1 ∧ n.toNatClampNeg ≤ i)) → (0 ≤ n.toInt ∧ n.toInt ≤ 4) → x_vr H 3 4 x0 = x_cn h 19 + 1 → (∀ K, x_cn H K = x_cn h K + of_c K 24 n.toNatClampNeg) → x_ce H = 32 + 2 * n.toNatClampNeg → x_so H = 269 + 26 * n.toNatClampNeg → x_mq H = x_mq h → FL h H x0 x1.toInt 24 n.toNatClampNeg → (4 - n.toInt).toNat < m → xR (50 + 5 * m) 13 100 ([.inr (.inr (3, x0)), .inl x1, .inl n], [], H) Z := by
    intro m
    induction m with
    | zero => intro n H _ _ _ _ _ _ _ _ hm; exact absurd hm (by omega)
    | succ m ih =>
      intro n H Q hn f4 hcn hce hso hmq hfl hm
      have cn := x_clamp hn.1
      rw [show 50 + 5 * (m + 1) = 50 + 5 * m + 5 by omega]
      have l3 : x_live H 3 x0 := ⟨g0.1, by rw [hcn]; exact Nat.le_trans g0.2 (Nat.le_add_right _ _)⟩
      have l19 : x_live H 19 (x_cn h 19 + 1) := ⟨by omega, by rw [hcn]; exact Nat.le_refl _⟩
      have ln19 : x_ln H 19 (x_cn h 19 + 1) = 4 := Q.2.2.2.1 19 4 _ (by decide) l19
      refine xR.blk c13_100 ?_
      refine q_iload rfl (v_iconst (k := 4) rfl (fun v1 e1 => v_icmp_ge (fun d => ?_) (fun d => ?_)))
      · refine xR.up (xR.blk (n := 5) c13_126 (q_ret (hZ _ (Q.done (fun K j z => Or.inl z) (fun K j i z => ?_)) (fun K => ?_) hmq (by rw [show n.toNatClampNeg = 4 by omega] at hfl; exact hfl)))) (by omega)
        · rcases z with z | ⟨rfl, z2, z3⟩
          · exact Or.inl z
          · refine Or.inr (fun L => ?_)
            by_cases q : (19, L) ∈ x_ael
            · refine Or.inr ?_
              simp only [x_ael, List.mem_cons, Prod.mk.injEq, List.not_mem_nil, or_false] at q
              omega
            · exact Or.inl q
        · rw [hcn, show n.toNatClampNeg = 4 by omega]
      · refine q_aload rfl (by decide) (q_gfr l3 ?_)
        rw [f4]
        have l5 : x_live (x_new H 5 2) 5 (x_cn H 5 + 1) := x_new_lv.mpr (Or.inr ⟨rfl, rfl⟩)
        refine q_iload rfl (q_newo (by omega) (by omega) (q_dup rfl (q_iconst (q_calli rfl (by decide) l5.1 (by decide) (Nat.le_of_ble_eq_true rfl) (Nat.le_of_ble_eq_true rfl) (by show x_ce H + 1 + 1 ≤ 40; omega) (by show x_so H + 2 + 24 ≤ 373; omega) ?_))))
        refine xC.up (tv0 (h := x_setc (x_new H 5 2) 0 0) (x0 := x_cn H 5 + 1) (x1 := 6) rfl rfl l5 (by decide) ?_) (by omega)
        have Q1 := Q.row (n := 6) (by omega)
        have lu : ∀ {K j : Nat}, x_live (x_new H 5 2) K j → x_live (x_putr (x_newa (x_new H 5 2) 20 6) 5 0 (x_cn H 5 + 1) (x_cn H 20 + 1)) K j := fun {K j} q => (show x_live (x_newa (x_new H 5 2) 20 6) K j from x_newa_lv.mpr (Or.inl q))
        refine q_aast (lu (x_new_up l19)) ⟨hn.1, by show n.toInt < (x_ln (x_newa (x_new H 5 2) 20 6) 19 (x_cn h 19 + 1) : Int); rw [show x_ln (x_newa (x_new H 5 2) 20 6) 19 (x_cn h 19 + 1) = x_ln H 19 (x_cn h 19 + 1) from rfl, ln19]; omega⟩ ?_
        refine v_iinc (k := 1) rfl rfl (by omega) (by omega) (fun n2 e2 => q_goto ?_)
        have cn2 := x_clamp (n := n2) (by omega)
        refine xR.up (ih n2 _ ?_ (by omega) ?_ ?_ ?_ ?_ ?_ ?_ (by omega)) (by omega)
        · refine QI.puta (K := 19) (j := x_cn h 19 + 1) (i := n.toNatClampNeg) (v := x_cn H 5 + 1) Q1 (by omega) (lu l5) ?_
          intro K' j' i' z
          rcases z with z | ⟨z1, z2, z3⟩
          · exact Or.inl (Or.inl z)
          · by_cases q : i' = n.toNatClampNeg
            · exact Or.inr ⟨z1, z2, q⟩
            · exact Or.inl (Or.inr ⟨z1, z2, by omega⟩)
        · show x_vr (x_putr (x_putr (x_newa (x_new H 5 2) 20 6) 5 0 (x_cn H 5 + 1) (x_cn H 20 + 1)) 19 (x_cn h 19 + 1) n.toNatClampNeg (x_cn H 5 + 1)) 3 4 x0 = _
          rw [x_vr_putr, if_neg (by omega), x_vr_putr, if_neg (by omega)]
          exact f4
        · intro K
          show x_cn (x_newa (x_new H 5 2) 20 6) K = _
          simp only [x_newa_cn, x_new_cn]
          unfold of_c at hcn ⊢
          by_cases e : K = 20
          · subst e
            have := hcn 20
            simp at this ⊢
            omega
          · by_cases e2 : K = 5
            · subst e2
              have := hcn 5
              simp at this ⊢
              omega
            · have := hcn K
              simp [e, e2] at this ⊢
              exact this
        · show x_ce H + 1 + 1 = _
          omega
        · show x_so H + 2 + 24 = _
          omega
        · refine Eq.trans ?_ hmq
          exact (x_mq_putr (h := x_putr (x_newa (x_new H 5 2) 20 6) 5 0 (x_cn H 5 + 1) (x_cn H 20 + 1)) rfl).trans ((x_mq_putr rfl).trans ((x_mq_newa rfl).trans (x_mq_new rfl)))
        · rw [show n2.toNatClampNeg = n.toNatClampNeg + 1 by omega]
          exact hfl.hunt hcn g0.2
  have lp1 : ∀ (m : Nat) (n : Int32) (H : xH), QI H (fun K j => E K j ∧ ¬ (K = 3 ∧ j = x0)) (fun K j i => A K j i ∨ (K = 16 ∧ j = x_cn h 16 + 1 ∧ n.toNatClampNeg ≤ i) ∨ (K = 19 ∧ j = x_cn h 19 + 1 ∧ 0 ≤ i)) → (0 ≤ n.toInt ∧ n.toInt ≤ 24) → x_vr H 3 1 x0 = x_cn h 16 + 1 → x_vr H 3 4 x0 = x_cn h 19 + 1 → (∀ K, x_cn H K = x_cn h K + of_c K n.toNatClampNeg 0) → x_ce H = 8 + n.toNatClampNeg → x_so H = 125 + 6 * n.toNatClampNeg → x_mq H = x_mq h → FL h H x0 x1.toInt n.toNatClampNeg 0 → (24 - n.toInt).toNat < m → xR (100 + 5 * m) 13 71 ([.inr (.inr (3, x0)), .inl x1, .inl n], [], H) Z := by
    intro m
    induction m with
    | zero => intro n H _ _ _ _ _ _ _ _ _ hm; exact absurd hm (by omega)
    | succ m ih =>
      intro n H Q hn f1 f4 hcn hce hso hmq hfl hm
      have cn := x_clamp hn.1
      rw [show 100 + 5 * (m + 1) = 100 + 5 * m + 5 by omega]
      have l3 : x_live H 3 x0 := ⟨g0.1, by rw [hcn]; exact Nat.le_trans g0.2 (Nat.le_add_right _ _)⟩
      have l16 : x_live H 16 (x_cn h 16 + 1) := ⟨by omega, by rw [hcn]; exact Nat.le_refl _⟩
      have ln16 : x_ln H 16 (x_cn h 16 + 1) = 24 := Q.2.2.2.1 16 24 _ (by decide) l16
      refine xR.blk c13_71 ?_
      refine q_iload rfl (v_iconst (k := 24) rfl (fun v1 e1 => v_icmp_ge (fun d => ?_) (fun d => ?_)))
      · refine xR.up (xR.blk (n := 90) c13_98 (v_iconst (k := 0) rfl (fun z0 ez0 => q_istore (Nat.le_of_ble_eq_true rfl) (q_goto ?_)))) (by omega)
        have cz := x_clamp (n := z0) (by omega)
        refine (lp2 5 z0 H (Q.done (fun K j z => Or.inl z) (fun K j i z => ?_)) (by omega) f4 (fun K => ?_) (by omega) (by omega) hmq (by rw [show z0.toNatClampNeg = 0 by omega]; rw [show n.toNatClampNeg = 24 by omega] at hfl; exact hfl) (by omega)).up (by omega)
        · rcases z with z | ⟨rfl, z2, z3⟩ | ⟨z1, z2, z3⟩
          · exact Or.inl (Or.inl z)
          · refine Or.inr (fun L => ?_)
            by_cases q : (16, L) ∈ x_ael
            · refine Or.inr ?_
              simp only [x_ael, List.mem_cons, Prod.mk.injEq, List.not_mem_nil, or_false] at q
              omega
            · exact Or.inl q
          · exact Or.inl (Or.inr ⟨z1, z2, by omega⟩)
        · rw [hcn, show n.toNatClampNeg = 24 by omega, show z0.toNatClampNeg = 0 by omega]
      · refine q_aload rfl (by decide) (q_gfr l3 ?_)
        rw [f1]
        have l2 : x_live (x_new H 2 6) 2 (x_cn H 2 + 1) := x_new_lv.mpr (Or.inr ⟨rfl, rfl⟩)
        refine q_iload rfl (q_newo (by omega) (by omega) (q_dup rfl (q_iload rfl (q_iload rfl (q_calli rfl (by decide) l2.1 (by decide) (Nat.le_of_ble_eq_true rfl) (Nat.le_of_ble_eq_true rfl) (by show x_ce H + 1 + 0 ≤ 40; omega) (by show x_so H + 6 + 0 ≤ 373; omega) ?_)))))
        refine xC.up (tv8 (h := x_setc (x_new H 2 6) 0 0) (x0 := x_cn H 2 + 1) (x1 := x1) (x2 := n) rfl rfl l2 ?_) (by omega)
        have Q1 := Q.line (o := x1) (n := n) g1 (by omega)
        refine q_aast (show x_live (x_new H 2 6) 16 _ from x_new_up l16) ⟨hn.1, by show n.toInt < (x_ln H 16 (x_cn h 16 + 1) : Int); rw [ln16]; omega⟩ ?_
        refine v_iinc (k := 1) rfl rfl (by omega) (by omega) (fun n2 e2 => q_goto ?_)
        have cn2 := x_clamp (n := n2) (by omega)
        refine xR.up (ih n2 _ ?_ (by omega) ?_ ?_ ?_ ?_ ?_ ?_ ?_ (by omega)) (by omega)
        · refine QI.puta (K := 16) (j := x_cn h 16 + 1) (i := n.toNatClampNeg) (v := x_cn H 2 + 1) Q1 (by omega) l2 ?_
          intro K' j' i' z
          rcases z with z | ⟨z1, z2, z3⟩ | z
          · exact Or.inl (Or.inl z)
          · by_cases q : i' = n.toNatClampNeg
            · exact Or.inr ⟨z1, z2, q⟩
            · exact Or.inl (Or.inr (Or.inl ⟨z1, z2, by omega⟩))
          · exact Or.inl (Or.inr (Or.inr z))
        · exact f1
        · exact f4
        · intro K
          show x_cn (x_new H 2 6) K = _
          rw [x_new_cn]
          have := hcn K
          unfold of_c at this ⊢
          by_cases e : K = 2
          · subst e
            simp at this ⊢
            omega
          · rw [if_neg e] at this ⊢
            rw [if_neg e]
            exact this
        · show x_ce H + 1 + 0 = _
          omega
        · show x_so H + 6 + 0 = _
          omega
        · refine Eq.trans ?_ hmq
          exact (x_mq_putr (h := x_puti (x_puti (x_puti (x_new H 2 6) 2 3 (x_cn H 2 + 1) 0) 2 0 (x_cn H 2 + 1) x1) 2 1 (x_cn H 2 + 1) n) rfl).trans ((x_mq_puti rfl).trans ((x_mq_puti rfl).trans ((x_mq_puti rfl).trans (x_mq_new rfl))))
        · rw [show n2.toNatClampNeg = n.toNatClampNeg + 1 by omega]
          exact hfl.line hcn cn.symm g0.2
  refine v_iconst (k := 0) rfl (fun z0 ez0 => q_istore (Nat.le_of_ble_eq_true rfl) (q_goto ?_))
  have cz := x_clamp (n := z0) (by omega)
  have z00 : z0.toNatClampNeg = 0 := by omega
  refine (lp1 25 z0 H (by rw [z00]; exact Q8) (by omega) f1 f4 (by rw [z00]; exact c7) (by omega) (by omega) mq7 (by rw [z00]; exact fl7) (by omega)).up (by omega)
