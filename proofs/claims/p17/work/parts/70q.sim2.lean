/-! THE SIMULATION: class and reference, group by group -/
def slq (T K i : Nat) : Prop := slo T K i ∨ ((K = 41 ∨ K = 42) ∧ T ≤ i ∧ i < 16)
def sHD (v : vS) (F : xF) : Prop := ∀ K i, slq (v.2.2.2 6) K i → (slo (v.2.2.2 6) K i → ((cs v K i : Int) = (F K i).toInt + 1 ∧ (F K i).toInt < 72) ∧ ∀ c, c < 72 → F K i = Int32.ofNat c → Int32.ofNat (cdo K i) ∈ v.2.2.1 (ri c)) ∧ (¬ slo (v.2.2.2 6) K i → F K i = if K = 41 then -1 else 0)
/-- what a call holds -/
def HLD (v : vS) (F : xF) (c : Nat) : Prop := LV F 63 64 16 c (v.2.2.1 (ri c)) ∧ (v.2.2.1 (ri c)).length ≤ 8 ∧ ∀ x ∈ v.2.2.1 (ri c), ∃ K i, slo (v.2.2.2 6) K i ∧ x = Int32.ofNat (cdo K i) ∧ F K i = Int32.ofNat c
def sJQ (D : Int) (E : Nat → Prop) (v : vS) (F : xF) : Prop := ∀ o, o < 3 → LV F 45 46 72 o (v.2.2.1 (30 * o + 2)) ∧ (v.2.2.1 (30 * o + 2)).Nodup ∧ (v.2.2.1 (30 * o + 2)).length ≤ 3 ∧ ∀ x ∈ v.2.2.1 (30 * o + 2), ∃ c, c < 72 ∧ x = Int32.ofNat c ∧ ¬ E c ∧ F 47 c = 2 ∧ F 50 c = Int32.ofNat o ∧ (F 59 c).toInt < D
def sWQ (v : vS) (F : xF) : Prop := (∀ o, o < 3 → (∀ x ∈ v.2.2.1 (30 * o + 1), ∃ n, n < 24 ∧ x = Int32.ofNat n ∧ 0 ≤ (F 24 (24 * o + n)).toInt) ∧ (∀ n, n < 24 → 0 ≤ (F 24 (24 * o + n)).toInt → Int32.ofNat n ∈ v.2.2.1 (30 * o + 1)) ∧ (v.2.2.1 (30 * o + 1)).Pairwise (fun x y => (F 24 (24 * o + x.toNatClampNeg)).toInt < (F 24 (24 * o + y.toNatClampNeg)).toInt)) ∧ ∀ l, l < 72 → (F 24 l).toInt < (F 8 2).toInt
def sHU (v : vS) (F : xF) : Prop := ∀ o, o < 3 → (∀ h, h < 4 → LV F 26 27 6 (4 * o + h) (v.2.2.1 (30 * o + 3 + h)) ∧ (v.2.2.1 (30 * o + 3 + h)).length ≤ 6 ∧ ∀ x ∈ v.2.2.1 (30 * o + 3 + h), ∃ n, n < 24 ∧ x = Int32.ofNat n) ∧ ∀ h h', h < 4 → h' < 4 → h ≠ h' → ∀ x ∈ v.2.2.1 (30 * o + 3 + h), x ∉ v.2.2.1 (30 * o + 3 + h')
/-- a prefix -/
def pfx (x : Int) : Prop := (10 ≤ x ∧ x ≤ 19) ∨ (100 ≤ x ∧ x ≤ 199) ∨ (1000 ≤ x ∧ x ≤ 1999)
/-- one begins with the other -/
def ovl (x y : Int) : Prop := x = y ∨ x / 10 = y ∨ x / 100 = y ∨ x = y / 10 ∨ x = y / 100
/-- a route: object m, place p -/
def RTE (v : vS) (F : xF) (m p : Nat) : Prop := (1 ≤ m ∧ m ≤ v.2.2.2 4) ∧ v.1 4 0 m = F 30 p ∧ pfx (F 30 p).toInt ∧ v.1 4 1 m = F 34 p ∧ v.1 4 3 m = F 31 p ∧ v.1 4 4 m = F 32 p ∧ v.2.1 4 2 m = 90 + m ∧ LV F 33 35 3 p (v.2.2.1 (90 + m)) ∧ (v.2.2.1 (90 + m)).length ≤ 3 ∧ ∀ x ∈ v.2.2.1 (90 + m), ∃ n, n < 3 ∧ x = Int32.ofNat n ∧ n ≠ p / 12
def sRT (v : vS) (F : xF) : Prop := (∀ o, o < 3 → ∃ N, N ≤ 12 ∧ v.1 3 7 (o + 1) = Int32.ofNat N ∧ F 29 o = Int32.ofNat N ∧ (∀ k, k < N → RTE v F (v.2.1 18 (o + 1) k) (12 * o + k)) ∧ ∀ k k', k < N → k' < N → k ≠ k' → ¬ ovl (F 30 (12 * o + k)).toInt (F 30 (12 * o + k')).toInt) ∧ ∀ o o' k k' : Nat, o < 3 → o' < 3 → (k : Int) < (F 29 o).toInt → (k' : Int) < (F 29 o').toInt → v.2.1 18 (o + 1) k = v.2.1 18 (o' + 1) k' → o = o' ∧ k = k'
def sOR (v : vS) (F : xF) : Prop := ∀ o, o < 3 → (v.1 3 8 (o + 1) = F 43 o ∧ 0 ≤ (F 43 o).toInt ∧ (F 43 o).toInt ≤ 3) ∧ ∀ x, x < 3 → v.1 15 (o + 1) x = F 44 (3 * o + x)
def sCB (F : xF) : Prop := ∀ c l, c < 72 → l < 72 → (F 57 c = Int32.ofNat l ↔ F 28 l = Int32.ofNat c)
def sHG (v : vS) (F : xF) : Prop := ∀ c, c < 72 → F 47 c = 5 → F 22 (F 57 c).toNatClampNeg = 0 → v.1 1 14 (c + 1) = F 62 c ∧ 0 ≤ (F 62 c).toInt ∧ (F 62 c).toInt < 12
/-- the line's tone, as the reference tells it -/
def tnF (F : xF) (c : Nat) : Int32 := if F 47 c = 1 ∧ F 48 c = 0 then 1 else if F 47 c = 4 then 2 else F 23 c
/-- the number dialled, behind a 1 -/
def dvl (g : Nat → Int32) : Nat → Int
  | 0 => 1
  | n + 1 => dvl g n * 10 + (g n).toInt
def NR (x n : Int32) (g : Nat → Int32) : Prop := ∃ q : Nat, q ≤ 5 ∧ n = Int32.ofNat q ∧ x.toInt = dvl g q ∧ ∀ i, i < q → 0 ≤ (g i).toInt ∧ (g i).toInt ≤ 9
def hbit (a : Int32) (o : Nat) : Prop := (a.toInt / 2 ^ o) % 2 = 1
def PLr (v : vS) (F : xF) (c : Nat) : Prop :=
  ((v.2.1 1 2 (c + 1) : Int) = (F 47 c).toInt + 1 ∧ 0 ≤ (F 47 c).toInt ∧ (F 47 c).toInt ≤ 5) ∧
  (v.1 2 2 (c + 1) = F 22 c ∧ v.1 2 4 (c + 1) = F 25 c ∧ v.1 2 3 (c + 1) = tnF F c) ∧
  ((v.2.1 2 5 (c + 1) : Int) = (if F 47 c = 0 then (F 28 c).toInt + 1 else (c : Int) + 1) ∧ -1 ≤ (F 28 c).toInt ∧ (F 28 c).toInt < 72) ∧
  ((v.2.1 1 3 (c + 1) : Int) = (F 57 c).toInt + 1 ∧ (F 57 c).toInt < 72) ∧
  v.1 1 5 (c + 1) = (if F 47 c = 5 then F 60 c else 0) ∧
  (v.1 1 8 (c + 1) = F 55 c ∧ v.1 1 11 (c + 1) = F 52 c ∧ v.1 1 12 (c + 1) = F 56 c ∧ v.1 1 13 (c + 1) = F 61 c) ∧
  (F 47 c = 0 → (F 57 c).toInt < 0 ∧ (v.2.2.1 (ri c)).length = 0) ∧
  (-1 ≤ (F 24 c).toInt ∧ (0 ≤ (F 24 c).toInt → F 47 c = 0 ∧ (F 28 c).toInt < 0 ∧ ¬ F 22 c = 0 ∧ F 23 c = 0)) ∧
  (¬ F 23 c = 0 → F 47 c = 0 ∧ (F 28 c).toInt < 0 ∧ ¬ F 22 c = 0) ∧
  (0 ≤ (F 28 c).toInt → F 47 c = 0) ∧
  (¬ F 47 c = 0 → NR (v.1 1 6 (c + 1)) (F 48 c) (fun i => F 49 (8 * c + i)) ∧ (0 ≤ (F 50 c).toInt ∧ (F 50 c).toInt ≤ 2) ∧ (0 ≤ (v.1 1 7 (c + 1)).toInt ∧ (v.1 1 7 (c + 1)).toInt ≤ 2) ∧ (0 ≤ (F 55 c).toInt ∧ (F 55 c).toInt ≤ 7) ∧ hbit (F 55 c) (c / 24) ∧ hbit (F 55 c) (F 50 c).toNatClampNeg) ∧
  (1 ≤ (F 47 c).toInt → (F 47 c).toInt ≤ 3 → ¬ F 22 c = 0 ∧ (F 57 c).toInt < 0 ∧ ((v.2.2.1 (ri c)).length : Int) ≤ 3 * mpop (F 55 c).toInt - 2 ∧ ∃ r, r < 3 ∧ F 51 c = Int32.ofNat r ∧ v.1 1 9 (c + 1) = Int32.ofNat (cdo 38 (3 * (F 50 c).toNatClampNeg + r)) ∧ v.1 1 9 (c + 1) ∈ v.2.2.1 (ri c)) ∧
  (F 47 c = 1 → F 50 c = Int32.ofNat (c / 24) ∧ v.1 1 7 (c + 1) = F 50 c ∧ (0 ≤ (F 56 c).toInt ∧ (F 56 c).toInt < 20) ∧ (F 48 c).toInt ≤ 4 ∧ (v.2.2.1 (ri c)).length ≤ 1) ∧
  (F 47 c = 2 → v.1 1 7 (c + 1) = F 50 c ∧ (F 50 c = Int32.ofNat (c / 24) → (v.2.2.1 (ri c)).length ≤ 1)) ∧
  (F 47 c = 3 → v.1 1 7 (c + 1) = F 53 c ∧ (0 ≤ (F 53 c).toInt ∧ (F 53 c).toInt ≤ 2) ∧ ¬ F 53 c = Int32.ofNat (c / 24) ∧ ¬ F 53 c = F 50 c ∧ hbit (F 55 c) (F 53 c).toNatClampNeg ∧ 1 ≤ (F 52 c).toInt ∧ ∃ r, r < 3 ∧ F 54 c = Int32.ofNat r ∧ v.1 1 10 (c + 1) = Int32.ofNat (cdo 38 (3 * (F 53 c).toNatClampNeg + r)) ∧ v.1 1 10 (c + 1) ∈ v.2.2.1 (ri c)) ∧
  (4 ≤ (F 47 c).toInt → 0 ≤ (F 57 c).toInt) ∧
  (2 ≤ (F 47 c).toInt → ∃ k : Nat, (k : Int) < (F 29 (c / 24)).toInt ∧ F 58 c = Int32.ofNat (12 * (c / 24) + k) ∧ v.2.1 1 4 (c + 1) = v.2.1 18 (c / 24 + 1) k) ∧
  (1 ≤ (F 47 c).toInt → (F 47 c).toInt ≤ 4 → F 60 c = 0)
/-- the reference's kinds that a line has an own int of -/
def lkd (K : Nat) : Bool := (Nat.ble 22 K && Nat.ble K 25) || K == 28 || (Nat.ble 47 K && Nat.ble K 48) || (Nat.ble 50 K && Nat.ble K 62)
theorem NR.cg {x n : Int32} {g g' : Nat → Int32} (h : NR x n g) (e : ∀ i, i < 8 → g' i = g i) : NR x n g' := by
  obtain ⟨q, h1, h2, h3, h4⟩ := h
  have k : ∀ t, t ≤ 5 → dvl g' t = dvl g t := by
    intro t
    induction t with
    | zero => intro _; rfl
    | succ t ih =>
      intro ht
      show dvl g' t * 10 + (g' t).toInt = dvl g t * 10 + (g t).toInt
      rw [ih (by omega), e t (by omega)]
  exact ⟨q, h1, h2, by rw [k q h1]; exact h3, fun i hi => by rw [e i (by omega)]; exact h4 i hi⟩
theorem PLr.cg {v v' : vS} {F F' : xF} {c : Nat} (h : PLr v F c) (ha : ∀ k, v'.1 1 k (c + 1) = v.1 1 k (c + 1)) (hb : ∀ k, v'.1 2 k (c + 1) = v.1 2 k (c + 1)) (hd : ∀ k, v'.2.1 1 k (c + 1) = v.2.1 1 k (c + 1)) (he : v'.2.1 2 5 (c + 1) = v.2.1 2 5 (c + 1)) (hr : v'.2.2.1 (ri c) = v.2.2.1 (ri c)) (hF : ∀ K, lkd K = true → F' K c = F K c) (hg : ∀ i, i < 8 → F' 49 (8 * c + i) = F 49 (8 * c + i)) (hq : ∀ k : Nat, (k : Int) < (F 29 (c / 24)).toInt → v'.2.1 18 (c / 24 + 1) k = v.2.1 18 (c / 24 + 1) k) (hN : (F 29 (c / 24)).toInt ≤ (F' 29 (c / 24)).toInt) : PLr v' F' c := by
  obtain ⟨p1, p2, p3, p4, p5, p6, p7, p8, p9, p10, p11, p12, p13, p14, p15, p16, p17, p18⟩ := h
  unfold PLr
  rw [hd 2, hd 3, hd 4, he, hb 2, hb 3, hb 4, ha 5, ha 6, ha 7, ha 8, ha 9, ha 10, ha 11, ha 12, ha 13, hr, hF 47 rfl, hF 22 rfl, hF 25 rfl, hF 28 rfl, hF 57 rfl, hF 60 rfl, hF 55 rfl, hF 52 rfl, hF 56 rfl, hF 61 rfl, hF 24 rfl, hF 23 rfl, hF 48 rfl, hF 50 rfl, hF 51 rfl, hF 53 rfl, hF 54 rfl, hF 58 rfl]
  refine ⟨p1, ?_, p3, p4, p5, p6, p7, p8, p9, p10, fun z => ⟨(p11 z).1.cg hg, (p11 z).2⟩, p12, p13, p14, p15, p16, fun z => ?_, p18⟩
  · unfold tnF
    rw [hF 47 rfl, hF 48 rfl, hF 23 rfl]
    exact p2
  · obtain ⟨k, k1, k2, k3⟩ := p17 z
    exact ⟨k, by omega, k2, by rw [hq k k1]; exact k3⟩
def SX (D : Int) (E J : Nat → Prop) (v : vS) (F : xF) : Prop := sTR v F ∧ sHD v F ∧ (∀ c, c < 72 → HLD v F c) ∧ sJQ D J v F ∧ sWQ v F ∧ sHU v F ∧ sRT v F ∧ sOR v F ∧ ∀ c, c < 72 → ¬ E c → PLr v F c
def Sim (D : Int) (v : vS) (F : xF) : Prop := SX D (fun _ => False) (fun _ => False) v F ∧ sCB F ∧ sHG v F
section XSX
variable {D : Int} {E J : Nat → Prop} {v : vS} {F : xF} {c : Nat}
theorem SX.tr (S : SX D E J v F) : sTR v F := S.1
theorem SX.hd (S : SX D E J v F) : ∀ K i, slo (v.2.2.2 6) K i → (cs v K i : Int) = (F K i).toInt + 1 ∧ (F K i).toInt < 72 := fun K i h => ((S.2.1 K i (Or.inl h)).1 h).1
theorem SX.hc (S : SX D E J v F) {K i : Nat} (h : slo (v.2.2.2 6) K i) (hc : c < 72) (e : F K i = Int32.ofNat c) : Int32.ofNat (cdo K i) ∈ v.2.2.1 (ri c) := ((S.2.1 K i (Or.inl h)).1 h).2 c hc e
theorem SX.bl (S : SX D E J v F) {t : Nat} (h1 : v.2.2.2 6 ≤ t) (h2 : t < 16) : F 41 t = -1 ∧ F 42 t = 0 := ⟨(S.2.1 41 t (Or.inr ⟨Or.inl rfl, h1, h2⟩)).2 (by unfold slo; omega), (S.2.1 42 t (Or.inr ⟨Or.inr rfl, h1, h2⟩)).2 (by unfold slo; omega)⟩
theorem SX.hl (S : SX D E J v F) (hc : c < 72) : HLD v F c := S.2.2.1 c hc
theorem SX.jq (S : SX D E J v F) : sJQ D J v F := S.2.2.2.1
theorem SX.wq (S : SX D E J v F) : sWQ v F := S.2.2.2.2.1
theorem SX.hu (S : SX D E J v F) : sHU v F := S.2.2.2.2.2.1
theorem SX.rt (S : SX D E J v F) : sRT v F := S.2.2.2.2.2.2.1
theorem SX.or (S : SX D E J v F) : sOR v F := S.2.2.2.2.2.2.2.1
theorem SX.pl (S : SX D E J v F) (hc : c < 72) (he : ¬ E c) : PLr v F c := S.2.2.2.2.2.2.2.2 c hc he
theorem Sim.pl (S : Sim D v F) (hc : c < 72) : PLr v F c := S.1.pl hc (fun z => z)
/-- a line's own field, of the class -/
theorem SX.vi1 (S : SX D E J v F) (he : E c) {k : Nat} {x : Int32} : SX D E J (vpi v 1 k (c + 1) x) F := by
  obtain ⟨s1, s2, s3, s4, s5, s6, s7, s8, s9⟩ := S
  refine ⟨s1, s2, s3, s4, s5, s6, s7, s8, fun c' hc' ne => (s9 c' hc' ne).cg (fun k' => ?_) (fun _ => rfl) (fun _ => rfl) rfl rfl (fun _ _ => rfl) (fun _ _ => rfl) (fun _ _ => rfl) (Int.le_refl _)⟩
  exact if_neg (fun z => ne (by rw [show c' = c by omega]; exact he))
theorem SX.vi2 (S : SX D E J v F) (he : E c) {k : Nat} {x : Int32} : SX D E J (vpi v 2 k (c + 1) x) F := by
  obtain ⟨s1, s2, s3, s4, s5, s6, s7, s8, s9⟩ := S
  refine ⟨s1, s2, s3, s4, s5, s6, s7, s8, fun c' hc' ne => (s9 c' hc' ne).cg (fun _ => rfl) (fun k' => ?_) (fun _ => rfl) rfl rfl (fun _ _ => rfl) (fun _ _ => rfl) (fun _ _ => rfl) (Int.le_refl _)⟩
  exact if_neg (fun z => ne (by rw [show c' = c by omega]; exact he))
theorem SX.vr1 (S : SX D E J v F) (he : E c) {k y : Nat} : SX D E J (vpr v 1 k (c + 1) y) F := by
  obtain ⟨s1, s2, s3, s4, s5, s6, s7, s8, s9⟩ := S
  refine ⟨s1, s2, s3, s4, s5, s6, s7, s8, fun c' hc' ne => (s9 c' hc' ne).cg (fun _ => rfl) (fun _ => rfl) (fun k' => ?_) rfl rfl (fun _ _ => rfl) (fun _ _ => rfl) (fun _ _ => rfl) (Int.le_refl _)⟩
  exact if_neg (fun z => ne (by rw [show c' = c by omega]; exact he))
theorem SX.vr2 (S : SX D E J v F) (he : E c) {k y : Nat} : SX D E J (vpr v 2 k (c + 1) y) F := by
  obtain ⟨s1, s2, s3, s4, s5, s6, s7, s8, s9⟩ := S
  refine ⟨s1, s2, s3, s4, s5, s6, s7, s8, fun c' hc' ne => (s9 c' hc' ne).cg (fun _ => rfl) (fun _ => rfl) (fun _ => rfl) ?_ rfl (fun _ _ => rfl) (fun _ _ => rfl) (fun _ _ => rfl) (Int.le_refl _)⟩
  exact if_neg (fun z => ne (by rw [show c' = c by omega]; exact he))
/-- .. of the reference -/
def lku (K : Nat) : Bool := (Nat.ble 22 K && Nat.ble K 23) || K == 25 || K == 28 || (Nat.ble 47 K && Nat.ble K 48) || (Nat.ble 50 K && Nat.ble K 62)
theorem SX.f (S : SX D E J v F) (he : E c) (hj : J c) {K : Nat} {x : Int32} (hK : lku K = true) : SX D E J v (x_u2 F K c x) := by
  have hk : K ≠ 8 ∧ K ≠ 24 ∧ K ≠ 26 ∧ K ≠ 27 ∧ (K < 29 ∨ 46 < K) ∧ K ≠ 49 ∧ K ≠ 63 ∧ K ≠ 64 := by
    simp only [lku, Bool.or_eq_true, Bool.and_eq_true, Nat.ble_eq, beq_iff_eq] at hK
    omega
  obtain ⟨s1, s2, s3, s4, s5, s6, s7, s8, s9⟩ := S
  have n : ∀ K', K' ≠ K → ∀ i, x_u2 F K c x K' i = F K' i := fun K' h i => u2_ne h
  refine ⟨?_, ?_, ?_, ?_, ?_, ?_, ?_, ?_, fun c' hc' ne => (s9 c' hc' ne).cg (fun _ => rfl) (fun _ => rfl) (fun _ => rfl) rfl rfl (fun K' _ => ?_) (fun i _ => n 49 (by omega) _) (fun _ _ => rfl) (by rw [n 29 (by omega)]; exact Int.le_refl _)⟩
  · unfold sTR at s1 ⊢
    rw [n 8 (by omega)]
    refine ⟨s1.1, s1.2.1, s1.2.2.1, fun t ht => ?_⟩
    rw [n 39 (by omega), n 40 (by omega), n 42 (by omega)]
    exact s1.2.2.2 t ht
  · intro K' i h
    rw [n K' (by unfold slq slo at h; omega)]
    exact s2 K' i h
  · intro c' hc'
    obtain ⟨⟨a1, a2⟩, a3, a4⟩ := s3 c' hc'
    refine ⟨⟨(n 63 (by omega) _).trans a1, fun k y hy => (n 64 (by omega) _).trans (a2 k y hy)⟩, a3, fun y hy => ?_⟩
    obtain ⟨K', i, b1, b2, b3⟩ := a4 y hy
    exact ⟨K', i, b1, b2, (n K' (by unfold slo at b1; omega) _).trans b3⟩
  · intro o ho
    obtain ⟨⟨a1, a2⟩, a3, a4, a5⟩ := s4 o ho
    refine ⟨⟨(n 45 (by omega) _).trans a1, fun k y hy => (n 46 (by omega) _).trans (a2 k y hy)⟩, a3, a4, fun y hy => ?_⟩
    obtain ⟨c', b1, b2, b3, b4, b5, b6⟩ := a5 y hy
    have hne : c' ≠ c := fun z => b3 (by rw [z]; exact hj)
    exact ⟨c', b1, b2, b3, (u2_ni hne).trans b4, (u2_ni hne).trans b5, by rw [u2_ni hne]; exact b6⟩
  · refine ⟨fun o ho => ?_, fun l hl => ?_⟩
    · simp only [n 24 (by omega)]
      exact s5.1 o ho
    · rw [n 24 (by omega), n 8 (by omega)]
      exact s5.2 l hl
  · intro o ho
    refine ⟨fun h hh => ?_, (s6 o ho).2⟩
    obtain ⟨⟨a1, a2⟩, a3⟩ := (s6 o ho).1 h hh
    exact ⟨⟨(n 26 (by omega) _).trans a1, fun k y hy => (n 27 (by omega) _).trans (a2 k y hy)⟩, a3⟩
  · unfold sRT RTE LV at s7 ⊢
    simp only [n 29 (by omega), n 30 (by omega), n 31 (by omega), n 32 (by omega), n 33 (by omega), n 34 (by omega), n 35 (by omega)]
    exact s7
  · intro o ho
    rw [n 43 (by omega)]
    refine ⟨(s8 o ho).1, fun x' hx => ?_⟩
    rw [n 44 (by omega)]
    exact (s8 o ho).2 x' hx
  · exact u2_ni (fun z => ne (by rw [z]; exact he))
/-- a digit -/
theorem SX.g (S : SX D E J v F) (he : E c) {i : Nat} {x : Int32} (hi : i < 8) : SX D E J v (x_u2 F 49 (8 * c + i) x) := by
  obtain ⟨s1, s2, s3, s4, s5, s6, s7, s8, s9⟩ := S
  have n : ∀ K', K' ≠ 49 → ∀ j, x_u2 F 49 (8 * c + i) x K' j = F K' j := fun K' h j => u2_ne h
  refine ⟨s1, fun K' j h => ?_, fun c' hc' => ?_, s4, s5, s6, s7, s8, fun c' hc' ne => (s9 c' hc' ne).cg (fun _ => rfl) (fun _ => rfl) (fun _ => rfl) rfl rfl (fun K' h => n K' (fun z => by rw [z] at h; cases h) _) (fun i' h => u2_ni (fun z => ne (by rw [show c' = c by omega]; exact he))) (fun _ _ => rfl) (Int.le_refl _)⟩
  · rw [n K' (by unfold slq slo at h; omega)]
    exact s2 K' j h
  · obtain ⟨a1, a3, a4⟩ := s3 c' hc'
    refine ⟨a1, a3, fun y hy => ?_⟩
    obtain ⟨K', j, b1, b2, b3⟩ := a4 y hy
    exact ⟨K', j, b1, b2, (n K' (by unfold slo at b1; omega) _).trans b3⟩
/-- fewer lines are looked at -/
theorem SX.opn (S : SX D E J v F) {E' : Nat → Prop} (h : ∀ c, E c → E' c) : SX D E' J v F := ⟨S.1, S.2.1, S.2.2.1, S.2.2.2.1, S.2.2.2.2.1, S.2.2.2.2.2.1, S.2.2.2.2.2.2.1, S.2.2.2.2.2.2.2.1, fun c' hc' ne => S.2.2.2.2.2.2.2.2 c' hc' (fun z => ne (h c' z))⟩
/-- lines without a job -/
theorem SX.jn (S : SX D E J v F) {J' : Nat → Prop} (hj : ∀ c, c < 72 → J' c → ¬ J c → ∀ o, o < 3 → Int32.ofNat c ∉ v.2.2.1 (30 * o + 2)) : SX D E J' v F := by
  obtain ⟨s1, s2, s3, s4, s5, s6, s7, s8, s9⟩ := S
  refine ⟨s1, s2, s3, fun o ho => ?_, s5, s6, s7, s8, s9⟩
  obtain ⟨a1, a3, a4, a5⟩ := s4 o ho
  refine ⟨a1, a3, a4, fun y hy => ?_⟩
  obtain ⟨c', b1, b2, b3, b4⟩ := a5 y hy
  exact ⟨c', b1, b2, fun z => hj c' b1 z b3 o ho (by rw [← b2]; exact hy), b4⟩
theorem SX.jw (S : SX D E J v F) {J' : Nat → Prop} (h : ∀ c, J' c → J c) : SX D E J' v F := S.jn (fun c _ z n => absurd (h c z) n)
/-- more lines hold -/
theorem SX.close (S : SX D E J v F) {E' : Nat → Prop} (hp : ∀ c, c < 72 → E c → ¬ E' c → PLr v F c) : SX D E' J v F := by
  obtain ⟨s1, s2, s3, s4, s5, s6, s7, s8, s9⟩ := S
  refine ⟨s1, s2, s3, s4, s5, s6, s7, s8, fun c' hc' ne => ?_⟩
  by_cases z : E c'
  · exact hp c' hc' z ne
  · exact s9 c' hc' z
/-- the ints that nobody looks at here: what is refused, the clock -/
theorem SX.f8 (S : SX D E J v F) {k : Nat} {x : Int32} (hk : k ≠ 2 ∧ k ≠ 20) : SX D E J v (x_u2 F 8 k x) := by
  obtain ⟨s1, s2, s3, s4, s5, s6, s7, s8, s9⟩ := S
  have n : ∀ K', K' ≠ 8 → ∀ j, x_u2 F 8 k x K' j = F K' j := fun K' h j => u2_ne h
  refine ⟨⟨s1.1, s1.2.1, (u2_ni (Ne.symm hk.2)).trans s1.2.2.1, s1.2.2.2⟩, fun K' j h => ?_, fun c' hc' => ?_, s4, ⟨s5.1, fun l hl => by rw [u2_ni (Ne.symm hk.1)]; exact s5.2 l hl⟩, s6, s7, s8, fun c' hc' ne => (s9 c' hc' ne).cg (fun _ => rfl) (fun _ => rfl) (fun _ => rfl) rfl rfl (fun K' h => n K' (fun z => by rw [z] at h; cases h) _) (fun i' h => rfl) (fun _ _ => rfl) (Int.le_refl _)⟩
  · rw [n K' (by unfold slq slo at h; omega)]
    exact s2 K' j h
  · obtain ⟨a1, a3, a4⟩ := s3 c' hc'
    refine ⟨a1, a3, fun y hy => ?_⟩
    obtain ⟨K', j, b1, b2, b3⟩ := a4 y hy
    exact ⟨K', j, b1, b2, (n K' (by unfold slo at b1; omega) _).trans b3⟩
end XSX
