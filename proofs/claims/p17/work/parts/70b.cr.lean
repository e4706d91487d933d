/-! THE CLASS'S STATE, as its heap shows it: ints, references, rows as lists, counts -/
abbrev vS : Type := (Nat → Nat → Nat → Int32) × (Nat → Nat → Nat → Nat) × (Nat → List Int32) × (Nat → Nat)
def vpi (v : vS) (K k j : Nat) (x : Int32) : vS := (x_u3 v.1 K k j x, v.2.1, v.2.2.1, v.2.2.2)
def vpr (v : vS) (K k j y : Nat) : vS := (v.1, x_u3 v.2.1 K k j y, v.2.2.1, v.2.2.2)
def vrw (v : vS) (r : Nat) (l : List Int32) : vS := (v.1, v.2.1, x_u1 v.2.2.1 r l, v.2.2.2)
/-- the room of a row -/
def cap (r : Nat) : Nat := if 90 < r then 3 else if (r - 1) % 30 = 0 then 24 else if (r - 1) % 30 = 1 then 3 else if (r - 1) % 30 < 6 then 6 else 8
theorem cap_le (r : Nat) : cap r ≤ 24 := by unfold cap; split; omega; split; omega; split; omega; split <;> omega
/-- what never changes -/
def ST (v : vS) : Prop :=
  (v.2.2.2 1 = 72 ∧ v.2.2.2 2 = 72 ∧ v.2.2.2 3 = 3 ∧ v.2.2.2 7 = 1 ∧ (∀ K, 11 ≤ K → K ≤ 14 → v.2.2.2 K = 1) ∧ (∀ K, 15 ≤ K → K ≤ 19 → v.2.2.2 K = 3)) ∧
  (∀ o, o < 3 → v.2.1 11 1 o = o + 1 ∧ (∀ k, 1 ≤ k → k ≤ 4 → v.2.1 3 k (o + 1) = o + 1) ∧ v.2.1 3 5 (o + 1) = 30 * o + 1 ∧ v.2.1 3 6 (o + 1) = 30 * o + 2 ∧ (v.1 3 0 (o + 1)).toInt = o ∧ (∀ n, n < 24 → v.2.1 16 (o + 1) n = 24 * o + n + 1) ∧ (∀ i, i < 4 → v.2.1 19 (o + 1) i = 30 * o + 3 + i) ∧ v.2.1 14 1 o = o + 1) ∧
  (∀ c, c < 72 → v.2.1 12 1 c = c + 1 ∧ v.2.1 1 0 (c + 1) = c + 1 ∧ v.2.1 1 1 (c + 1) = ri c ∧ (v.1 2 0 (c + 1)).toInt = ((c / 24 : Nat) : Int) ∧ (v.1 2 1 (c + 1)).toInt = ((c % 24 : Nat) : Int)) ∧
  (∀ k, k < 4 → v.2.1 7 k 1 = 1)
def cri (K : Nat) : Bool := Nat.ble K 19 && !(K == 5) && !(K == 8) && !(K == 10)
def crr (K : Nat) : Bool := Nat.ble K 19 && !(K == 8) && !(K == 10)
/-- a row's list in the heap -/
def RWL (h : xH) (r : Nat) (l : List Int32) : Prop := x_vi h 5 1 r = Int32.ofNat l.length ∧ l.length ≤ cap r ∧ ∀ (i : Nat) (x : Int32), l[i]? = some x → x_vi h 20 r i = x
/-- all but the rows' lists -/
def CR0 (v : vS) (h : xH) : Prop := (∀ K, ck K → x_cn h K = v.2.2.2 K) ∧ (∀ K k j, cri K = true → x_vi h K k j = v.1 K k j) ∧ (∀ K k j, crr K = true → x_vr h K k j = v.2.1 K k j) ∧ (∀ K L j, (K, L) ∈ x_lnl → x_live h K j → x_ln h K j = L) ∧ (∀ r, x_live h 5 r → v.2.1 5 0 r = r ∧ x_ln h 20 r = cap r) ∧ ST v
def CR (v : vS) (h : xH) : Prop := CR0 v h ∧ ∀ r, x_live h 5 r → RWL h r (v.2.2.1 r)
/-- a row's ints as they stand, the others as lists -/
def CX (r : Nat) (s : vS × (Nat → Int32) × Int32) (h : xH) : Prop := CR0 s.1 h ∧ (∀ r', x_live h 5 r' → r' ≠ r → RWL h r' (s.1.2.2.1 r')) ∧ x_live h 5 r ∧ (∀ i, x_vi h 20 r i = s.2.1 i) ∧ x_vi h 5 1 r = s.2.2
theorem cr_rs : RS CR := ⟨fun _ _ _ _ C => C, fun _ _ _ C => C⟩
theorem cx_rs {r : Nat} : RS (CX r) := ⟨fun _ _ _ _ C => C, fun _ _ _ C => C⟩
section XCR
variable {v : vS} {h : xH}
theorem CR0.cn (C : CR0 v h) {K : Nat} (hk : ck K) : x_cn h K = v.2.2.2 K := C.1 K hk
theorem CR.i (C : CR v h) {K k j : Nat} (hk : cri K = true) : x_vi h K k j = v.1 K k j := C.1.2.1 K k j hk
theorem CR.r (C : CR v h) {K k j : Nat} (hk : crr K = true) : x_vr h K k j = v.2.1 K k j := C.1.2.2.1 K k j hk
theorem CR0.lv1 (C : CR0 v h) {j : Nat} (l : x_live h 1 j) : ∃ c, c < 72 ∧ j = c + 1 := by
  have a := l.2
  rw [C.cn (by unfold ck; omega), C.2.2.2.2.2.1.1] at a
  exact ⟨j - 1, by have := l.1; omega, by have := l.1; omega⟩
theorem CR0.lv3 (C : CR0 v h) {j : Nat} (l : x_live h 3 j) : ∃ o, o < 3 ∧ j = o + 1 := by
  have a := l.2
  rw [C.cn (by unfold ck; omega), C.2.2.2.2.2.1.2.2.1] at a
  exact ⟨j - 1, by have := l.1; omega, by have := l.1; omega⟩
theorem CR0.lvA (C : CR0 v h) {K j : Nat} (h1 : 11 ≤ K) (h2 : K ≤ 14) (l : x_live h K j) : j = 1 := by
  have a := l.2
  rw [C.cn (by unfold ck; omega), C.2.2.2.2.2.1.2.2.2.2.1 K h1 h2] at a
  have := l.1
  omega
theorem CR0.lvB (C : CR0 v h) {K j : Nat} (h1 : 15 ≤ K) (h2 : K ≤ 19) (l : x_live h K j) : ∃ o, o < 3 ∧ j = o + 1 := by
  have a := l.2
  rw [C.cn (by unfold ck; omega), C.2.2.2.2.2.1.2.2.2.2.2 K h1 h2] at a
  exact ⟨j - 1, by have := l.1; omega, by have := l.1; omega⟩
theorem CR.r10 (C : CR v h) {j : Nat} (l : x_live h 1 j) : x_vr h 1 0 j = j := by
  obtain ⟨c, hc, rfl⟩ := C.1.lv1 l
  rw [C.r rfl]; exact (C.1.2.2.2.2.2.2.2.1 c hc).2.1
theorem CR.r11 (C : CR v h) {j : Nat} (l : x_live h 1 j) : x_vr h 1 1 j = ri (j - 1) := by
  obtain ⟨c, hc, rfl⟩ := C.1.lv1 l
  rw [C.r rfl]; exact (C.1.2.2.2.2.2.2.2.1 c hc).2.2.1
theorem CR.r3 (C : CR v h) {k j : Nat} (hk : (Nat.ble 1 k && Nat.ble k 4) = true) (l : x_live h 3 j) : x_vr h 3 k j = j := by
  obtain ⟨o, ho, rfl⟩ := C.1.lv3 l
  rw [Bool.and_eq_true, Nat.ble_eq, Nat.ble_eq] at hk
  rw [C.r rfl]; exact (C.1.2.2.2.2.2.2.1 o ho).2.1 k hk.1 hk.2
theorem CR.r35 (C : CR v h) {j : Nat} (l : x_live h 3 j) : x_vr h 3 5 j = 30 * (j - 1) + 1 := by
  obtain ⟨o, ho, rfl⟩ := C.1.lv3 l
  rw [C.r rfl]; exact (C.1.2.2.2.2.2.2.1 o ho).2.2.1
theorem CR.r36 (C : CR v h) {j : Nat} (l : x_live h 3 j) : x_vr h 3 6 j = 30 * (j - 1) + 2 := by
  obtain ⟨o, ho, rfl⟩ := C.1.lv3 l
  rw [C.r rfl]; exact (C.1.2.2.2.2.2.2.1 o ho).2.2.2.1
theorem CR.r7 (C : CR v h) {k j : Nat} (hk : k < 4) (l : x_live h 7 j) : x_vr h 7 k j = 1 := by
  have a := l.2
  rw [C.1.cn (by unfold ck; omega), C.1.2.2.2.2.2.1.2.2.2.1] at a
  have e : j = 1 := by have := l.1; omega
  subst e
  rw [C.r rfl]; exact C.1.2.2.2.2.2.2.2.2 k hk
theorem CR.r50 (C : CR v h) {j : Nat} (l : x_live h 5 j) : x_vr h 5 0 j = j := by
  rw [C.r rfl]; exact (C.1.2.2.2.2.1 j l).1
theorem CX.r50 {r : Nat} {s : vS × (Nat → Int32) × Int32} (C : CX r s h) : x_vr h 5 0 r = r := by
  rw [C.1.2.2.1 5 0 r rfl]; exact (C.1.2.2.2.2.1 r C.2.2.1).1
theorem CR0.len (C : CR0 v h) {K L j : Nat} {i : Int32} (hm : (K, L) ∈ x_lnl) (l : x_live h K j) (hi : x_in h K j i) : 0 ≤ i.toInt ∧ i.toInt < L := by
  have := hi.2
  rw [C.2.2.2.1 K L j hm l] at this
  exact ⟨hi.1, this⟩
theorem CR.a11 (C : CR v h) {j : Nat} {i : Int32} (l : x_live h 11 j) (hi : x_in h 11 j i) : (0 ≤ i.toInt ∧ i.toInt < 3) ∧ x_vr h 11 j i.toNatClampNeg = i.toNatClampNeg + 1 := by
  have q := C.1.len (L := 3) (by decide) l hi
  have e := x_clamp q.1
  refine ⟨q, ?_⟩
  rw [C.1.lvA (by decide) (by decide) l, C.r rfl]
  exact (C.1.2.2.2.2.2.2.1 _ (by omega)).1
theorem CR.a14 (C : CR v h) {j : Nat} {i : Int32} (l : x_live h 14 j) (hi : x_in h 14 j i) : (0 ≤ i.toInt ∧ i.toInt < 3) ∧ x_vr h 14 j i.toNatClampNeg = i.toNatClampNeg + 1 := by
  have q := C.1.len (L := 3) (by decide) l hi
  have e := x_clamp q.1
  refine ⟨q, ?_⟩
  rw [C.1.lvA (by decide) (by decide) l, C.r rfl]
  exact (C.1.2.2.2.2.2.2.1 _ (by omega)).2.2.2.2.2.2.2
theorem CR.a12 (C : CR v h) {j : Nat} {i : Int32} (l : x_live h 12 j) (hi : x_in h 12 j i) : (0 ≤ i.toInt ∧ i.toInt < 72) ∧ x_vr h 12 j i.toNatClampNeg = i.toNatClampNeg + 1 := by
  have q := C.1.len (L := 72) (by decide) l hi
  have e := x_clamp q.1
  refine ⟨q, ?_⟩
  rw [C.1.lvA (by decide) (by decide) l, C.r rfl]
  exact (C.1.2.2.2.2.2.2.2.1 _ (by omega)).1
theorem CR.a13 (C : CR v h) {j : Nat} {i : Int32} (l : x_live h 13 j) (hi : x_in h 13 j i) : (0 ≤ i.toInt ∧ i.toInt < 16) ∧ x_vr h 13 j i.toNatClampNeg = v.2.1 13 j i.toNatClampNeg := ⟨C.1.len (L := 16) (by decide) l hi, C.r rfl⟩
theorem CR.a15 (C : CR v h) {j : Nat} {i : Int32} (l : x_live h 15 j) (hi : x_in h 15 j i) : (0 ≤ i.toInt ∧ i.toInt < 3) ∧ x_vi h 15 j i.toNatClampNeg = v.1 15 j i.toNatClampNeg := ⟨C.1.len (L := 3) (by decide) l hi, C.i rfl⟩
theorem CR.a17 (C : CR v h) {j : Nat} {i : Int32} (l : x_live h 17 j) (hi : x_in h 17 j i) : (0 ≤ i.toInt ∧ i.toInt < 33) ∧ x_vr h 17 j i.toNatClampNeg = v.2.1 17 j i.toNatClampNeg := ⟨C.1.len (L := 33) (by decide) l hi, C.r rfl⟩
theorem CR.a18 (C : CR v h) {j : Nat} {i : Int32} (l : x_live h 18 j) (hi : x_in h 18 j i) : (0 ≤ i.toInt ∧ i.toInt < 12) ∧ x_vr h 18 j i.toNatClampNeg = v.2.1 18 j i.toNatClampNeg := ⟨C.1.len (L := 12) (by decide) l hi, C.r rfl⟩
theorem CR.a16 (C : CR v h) {j : Nat} {i : Int32} (l : x_live h 16 j) (hi : x_in h 16 j i) : (0 ≤ i.toInt ∧ i.toInt < 24) ∧ x_vr h 16 j i.toNatClampNeg = 24 * (j - 1) + i.toNatClampNeg + 1 := by
  have q := C.1.len (L := 24) (by decide) l hi
  have e := x_clamp q.1
  obtain ⟨o, ho, rfl⟩ := C.1.lvB (by decide) (by decide) l
  refine ⟨q, ?_⟩
  rw [C.r rfl]
  exact (C.1.2.2.2.2.2.2.1 o ho).2.2.2.2.2.1 _ (by omega)
theorem CR.a19 (C : CR v h) {j : Nat} {i : Int32} (l : x_live h 19 j) (hi : x_in h 19 j i) : (0 ≤ i.toInt ∧ i.toInt < 4) ∧ x_vr h 19 j i.toNatClampNeg = 30 * (j - 1) + 3 + i.toNatClampNeg := by
  have q := C.1.len (L := 4) (by decide) l hi
  have e := x_clamp q.1
  obtain ⟨o, ho, rfl⟩ := C.1.lvB (by decide) (by decide) l
  refine ⟨q, ?_⟩
  rw [C.r rfl]
  exact (C.1.2.2.2.2.2.2.1 o ho).2.2.2.2.2.2.1 _ (by omega)
theorem CR.l12 (C : CR v h) {j : Nat} (l : x_live h 12 j) : Int32.ofNat (x_ln h 12 j) = 72 := by
  rw [C.1.2.2.2.1 12 72 j (by decide) l]; rfl
/-- which ints, which references may be written -/
def di (K k : Nat) : Bool := K == 1 || K == 4 || K == 6 || K == 7 || K == 15 || (K == 2 && Nat.ble 2 k) || (K == 3 && Nat.ble 7 k)
def dr (K k : Nat) : Bool := (K == 1 && Nat.ble 2 k) || K == 2 || K == 6 || K == 17 || K == 18 || K == 13
theorem ST.pi (s : ST v) {K k j : Nat} {x : Int32} (hd : di K k = true) : ST (vpi v K k j x) := by
  obtain ⟨s1, s2, s3, s4⟩ := s
  refine ⟨s1, fun o ho => ?_, fun c hc => ?_, s4⟩
  · obtain ⟨a1, a2, a3, a4, a5, a6⟩ := s2 o ho
    refine ⟨a1, a2, a3, a4, ?_, a6⟩
    show (x_u3 v.1 K k j x 3 0 (o + 1)).toInt = _
    unfold x_u3
    rw [if_neg]
    · exact a5
    · rintro ⟨rfl, rfl, -⟩; exact absurd hd (by decide)
  · obtain ⟨a1, a2, a3, a4, a5⟩ := s3 c hc
    refine ⟨a1, a2, a3, ?_, ?_⟩
    · show (x_u3 v.1 K k j x 2 0 (c + 1)).toInt = _
      unfold x_u3
      rw [if_neg]
      · exact a4
      · rintro ⟨rfl, rfl, -⟩; exact absurd hd (by decide)
    · show (x_u3 v.1 K k j x 2 1 (c + 1)).toInt = _
      unfold x_u3
      rw [if_neg]
      · exact a5
      · rintro ⟨rfl, rfl, -⟩; exact absurd hd (by decide)
theorem u3_ne {α : Type} {f : Nat → Nat → Nat → α} {K k j K' k' j' : Nat} {x : α} (hn : K' = K → k' = k → False) : x_u3 f K k j x K' k' j' = f K' k' j' := if_neg (fun z => hn z.1 z.2.1)
theorem ST.pr (s : ST v) {K k j y : Nat} (hd : dr K k = true) : ST (vpr v K k j y) := by
  obtain ⟨s1, s2, s3, s4⟩ := s
  have e : ∀ K' k' j', dr K' k' = false → (vpr v K k j y).2.1 K' k' j' = v.2.1 K' k' j' := by
    intro K' k' j' h'
    refine u3_ne ?_
    rintro rfl rfl
    rw [hd] at h'; cases h'
  refine ⟨s1, fun o ho => ?_, fun c hc => ?_, fun k hk => (e _ _ _ rfl).trans (s4 k hk)⟩
  · obtain ⟨a1, a2, a3, a4, a5, a6, a7, a8⟩ := s2 o ho
    exact ⟨(e _ _ _ rfl).trans a1, fun k k1 k2 => (e _ _ _ rfl).trans (a2 k k1 k2), (e _ _ _ rfl).trans a3, (e _ _ _ rfl).trans a4, a5, fun n hn => (e _ _ _ rfl).trans (a6 n hn), fun n hn => (e _ _ _ rfl).trans (a7 n hn), (e _ _ _ rfl).trans a8⟩
  · obtain ⟨a1, a2, a3, a4⟩ := s3 c hc
    exact ⟨(e _ _ _ rfl).trans a1, (e _ _ _ rfl).trans a2, (e _ _ _ rfl).trans a3, a4⟩
theorem CR0.pi (C : CR0 v h) {K k j : Nat} {x : Int32} (hd : di K k = true) : CR0 (vpi v K k j x) (x_puti h K k j x) := by
  refine ⟨C.1, fun K' k' j' hk => ?_, C.2.2.1, C.2.2.2.1, C.2.2.2.2.1, C.2.2.2.2.2.pi hd⟩
  show x_u3 (x_vi h) K k j x K' k' j' = x_u3 v.1 K k j x K' k' j'
  unfold x_u3
  rw [C.2.1 K' k' j' hk]
theorem CR0.pr (C : CR0 v h) {K k j y : Nat} (hd : dr K k = true) : CR0 (vpr v K k j y) (x_putr h K k j y) := by
  refine ⟨C.1, C.2.1, fun K' k' j' hk => ?_, C.2.2.2.1, fun r l => ⟨?_, (C.2.2.2.2.1 r l).2⟩, C.2.2.2.2.2.pr hd⟩
  · show x_u3 (x_vr h) K k j y K' k' j' = x_u3 v.2.1 K k j y K' k' j'
    unfold x_u3
    rw [C.2.2.1 K' k' j' hk]
  · refine (u3_ne ?_).trans (C.2.2.2.2.1 r l).1
    rintro rfl rfl
    exact absurd hd (by decide)
theorem CR.pi (C : CR v h) {K k j : Nat} {x : Int32} (hd : di K k = true) : CR (vpi v K k j x) (x_puti h K k j x) := by
  refine ⟨C.1.pi hd, fun r l => ?_⟩
  obtain ⟨a, b, c⟩ := C.2 r l
  refine ⟨(u3_ne ?_).trans a, b, fun i y hy => (u3_ne ?_).trans (c i y hy)⟩
  · rintro rfl rfl; exact absurd hd (by decide)
  · rintro rfl rfl; exact absurd hd (by simp [di])
theorem CR.pr (C : CR v h) {K k j y : Nat} (hd : dr K k = true) : CR (vpr v K k j y) (x_putr h K k j y) := ⟨C.1.pr hd, C.2⟩
theorem CR.s15 (C : CR v h) {j : Nat} {i x : Int32} (l : x_live h 15 j) (hi : x_in h 15 j i) : (0 ≤ i.toInt ∧ i.toInt < 3) ∧ CR (vpi v 15 j i.toNatClampNeg x) (x_puti h 15 j i.toNatClampNeg x) := ⟨C.1.len (L := 3) (by decide) l hi, C.pi rfl⟩
theorem CR.s17 (C : CR v h) {j y : Nat} {i : Int32} (l : x_live h 17 j) (hi : x_in h 17 j i) : (0 ≤ i.toInt ∧ i.toInt < 33) ∧ CR (vpr v 17 j i.toNatClampNeg y) (x_putr h 17 j i.toNatClampNeg y) := ⟨C.1.len (L := 33) (by decide) l hi, C.pr rfl⟩
theorem CR.s18 (C : CR v h) {j y : Nat} {i : Int32} (l : x_live h 18 j) (hi : x_in h 18 j i) : (0 ≤ i.toInt ∧ i.toInt < 12) ∧ CR (vpr v 18 j i.toNatClampNeg y) (x_putr h 18 j i.toNatClampNeg y) := ⟨C.1.len (L := 12) (by decide) l hi, C.pr rfl⟩
theorem CR.s13 (C : CR v h) {j y : Nat} {i : Int32} (l : x_live h 13 j) (hi : x_in h 13 j i) : (0 ≤ i.toInt ∧ i.toInt < 16) ∧ CR (vpr v 13 j i.toNatClampNeg y) (x_putr h 13 j i.toNatClampNeg y) := ⟨C.1.len (L := 16) (by decide) l hi, C.pr rfl⟩
end XCR
/-! ROWS -/
theorem ofN {n : Nat} (hn : n ≤ 100000) : (Int32.ofNat n).toInt = n ∧ (Int32.ofNat n).toNatClampNeg = n := by
  have e : (Int32.ofNat n).toInt = n := Int32.toInt_ofNat_of_lt (by omega)
  refine ⟨e, ?_⟩
  have := x_clamp (n := Int32.ofNat n) (by omega)
  omega
/-- what stands at i -/
def rat (l : List Int32) (i : Int32) : Int32 := if 0 ≤ i.toInt then (l[i.toNatClampNeg]?).getD (-1) else -1
def b2i (p : Prop) [Decidable p] : Int32 := if p then 1 else 0
theorem b2i_pos {p : Prop} [Decidable p] (h : p) : b2i p = 1 := if_pos h
theorem b2i_neg {p : Prop} [Decidable p] (h : ¬ p) : b2i p = 0 := if_neg h
theorem CR.sz {v : vS} {h : xH} {r : Nat} (C : CR v h) (l : x_live h 5 r) : x_vi h 5 1 r = Int32.ofNat (v.2.2.1 r).length := (C.2 r l).1
theorem CR.rlen {v : vS} {h : xH} {r : Nat} (C : CR v h) (l : x_live h 5 r) : (v.2.2.1 r).length ≤ 24 := Nat.le_trans (C.2 r l).2.1 (cap_le r)
/-- an item, where the place is below the count -/
theorem CR.it {v : vS} {h : xH} {r : Nat} {i : Int32} (C : CR v h) (l : x_live h 5 r) (h0 : 0 ≤ i.toInt) (h1 : i.toInt < (v.2.2.1 r).length) : x_vi h 20 r i.toNatClampNeg = (v.2.2.1 r)[i.toNatClampNeg]?.getD (-1) := by
  have e := x_clamp h0
  have hl : i.toNatClampNeg < (v.2.2.1 r).length := by omega
  rw [(C.2 r l).2.2 _ _ (List.getElem?_eq_getElem hl), List.getElem?_eq_getElem hl]
  rfl
