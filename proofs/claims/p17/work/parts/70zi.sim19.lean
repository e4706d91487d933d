/-! NUMBERS AND PREFIXES -/
def szN (x : Int) : Nat := if 999 < x then 3 else if 99 < x then 2 else 1
theorem szI {x : Int32} : (if 999 < x.toInt then (3 : Int32) else if 99 < x.toInt then 2 else 1) = Int32.ofNat (szN x.toInt) := by
  unfold szN
  split
  · rfl
  · split <;> rfl
theorem szN_b (x : Int) : 1 ≤ szN x ∧ szN x ≤ 3 := by
  unfold szN
  split
  · omega
  · split <;> omega
theorem dvl_b {g : Nat → Int32} : ∀ {q : Nat}, q ≤ 5 → (∀ i, i < q → 0 ≤ (g i).toInt ∧ (g i).toInt ≤ 9) → (10 : Int) ^ q ≤ dvl g q ∧ dvl g q < 2 * 10 ^ q
  | 0, _, _ => ⟨Int.le_refl 1, show (1 : Int) < 2 * 10 ^ 0 by decide⟩
  | q + 1, h, hd => by
    have ih := dvl_b (g := g) (q := q) (by omega) (fun i hi => hd i (by omega))
    have := hd q (by omega)
    show (10 : Int) ^ (q + 1) ≤ dvl g q * 10 + (g q).toInt ∧ dvl g q * 10 + (g q).toInt < 2 * 10 ^ (q + 1)
    rw [Int.pow_succ]
    omega
theorem dvl_d {g : Nat → Int32} {q : Nat} (hd : 0 ≤ (g q).toInt ∧ (g q).toInt ≤ 9) : dvl g (q + 1) / 10 = dvl g q := by
  show (dvl g q * 10 + (g q).toInt) / 10 = dvl g q
  omega
theorem dvl_dk {g : Nat → Int32} : ∀ {k q : Nat}, k ≤ q → (∀ i, i < q → 0 ≤ (g i).toInt ∧ (g i).toInt ≤ 9) → dvl g q / (10 : Int) ^ k = dvl g (q - k)
  | 0, q, _, _ => by simp
  | k + 1, q, hk, hd => by
    obtain ⟨q', rfl⟩ : ∃ q', q = q' + 1 := ⟨q - 1, by omega⟩
    rw [show (10 : Int) ^ (k + 1) = 10 * 10 ^ k by rw [Int.pow_succ, Int.mul_comm], ← show dvl g (q' + 1) / 10 / 10 ^ k = dvl g (q' + 1) / (10 * 10 ^ k) by rw [Int.ediv_ediv, if_neg (fun z => absurd z.1 (by decide)), Int.sub_zero], dvl_d (hd q' (by omega)), dvl_dk (k := k) (q := q') (by omega) (fun i hi => hd i (by omega)), show q' + 1 - (k + 1) = q' - k by omega]
theorem p10v : (10 : Int) ^ 0 = 1 ∧ (10 : Int) ^ 1 = 10 ∧ (10 : Int) ^ 2 = 100 ∧ (10 : Int) ^ 3 = 1000 ∧ (10 : Int) ^ 4 = 10000 ∧ (10 : Int) ^ 5 = 100000 := by decide
/-- how many digits a number has -/
theorem cdg_v {g : Nat → Int32} {q : Nat} (hq : q ≤ 5) (hd : ∀ i, i < q → 0 ≤ (g i).toInt ∧ (g i).toInt ≤ 9) : cdg (dvl g q) = q := by
  induction q with
  | zero => rfl
  | succ q ih =>
    have b := dvl_b (g := g) hq hd
    have hp := p10v
    have lo : (10 : Int) ≤ dvl g (q + 1) ∧ dvl g (q + 1) < 200000 := by
      generalize dvl g (q + 1) = z at b ⊢
      rcases (show q = 0 ∨ q = 1 ∨ q = 2 ∨ q = 3 ∨ q = 4 by omega) with rfl | rfl | rfl | rfl | rfl <;> simp at b <;> omega
    rw [cdg_ge lo.1 (by omega), dvl_d (hd q (by omega)), ih (by omega) (fun i hi => hd i (by omega))]
theorem cdg_p {x : Int} (h : pfx x) : cdg x = szN x := by
  unfold szN
  rcases h with h | h | h
  · rw [cdg_ge (by omega) (by omega), cdg_lt (by omega), if_neg (by omega), if_neg (by omega)]
  · rw [cdg_ge (by omega) (by omega), cdg_ge (by omega) (by omega), cdg_lt (by omega), if_neg (by omega), if_pos (by omega)]
  · rw [cdg_ge (by omega) (by omega), cdg_ge (by omega) (by omega), cdg_ge (by omega) (by omega), cdg_lt (by omega), if_pos (by omega)]
/-- the prefix of s digits is x -/
def FTx (g : Nat → Int32) (q : Nat) (x : Int) : Prop := szN x ≤ q ∧ dvl g (szN x) = x
theorem szN_v {g : Nat → Int32} {s : Nat} (h1 : 1 ≤ s) (hs : s ≤ 3) (hd : ∀ i, i < s → 0 ≤ (g i).toInt ∧ (g i).toInt ≤ 9) : szN (dvl g s) = s ∧ pfx (dvl g s) := by
  have b := dvl_b (g := g) (q := s) (by omega) hd
  unfold szN pfx
  rcases (show s = 1 ∨ s = 2 ∨ s = 3 by omega) with rfl | rfl | rfl <;> simp at b
  · rw [if_neg (by omega), if_neg (by omega)]; omega
  · rw [if_neg (by omega), if_pos (by omega)]; omega
  · rw [if_pos (by omega)]; omega
theorem ediv_big {x : Int} {k : Nat} (h0 : 0 ≤ x) (h : x < (10 : Int) ^ k) : x / (10 : Int) ^ k = 0 := Int.ediv_eq_zero_of_lt h0 h
theorem pow_mono {a b : Nat} (h : a ≤ b) : (10 : Int) ^ a ≤ 10 ^ b := by
  obtain ⟨d, rfl⟩ : ∃ d, b = a + d := ⟨b - a, by omega⟩
  rw [Int.pow_add]
  have h1 := pw10 a
  have h2 := pw10 d
  have : (10 : Int) ^ a * 1 ≤ 10 ^ a * 10 ^ d := Int.mul_le_mul_of_nonneg_left (by omega) (by omega)
  omega
/-- the number begins with the prefix -/
theorem bw_ft {g : Nat → Int32} {q : Nat} {x : Int} (hq : q ≤ 5) (hd : ∀ i, i < q → 0 ≤ (g i).toInt ∧ (g i).toInt ≤ 9) (hx : pfx x) : BW (dvl g q) x ↔ FTx g q x := by
  have hb := dvl_b hq hd
  have hx10 : 10 ≤ x := by unfold pfx at hx; omega
  constructor
  · rintro ⟨-, k, e⟩
    have hk : k < q := by
      refine Classical.byContradiction fun hn => ?_
      by_cases z : k = q
      · rw [z, dvl_dk (Nat.le_refl _) hd, Nat.sub_self] at e
        have : (1 : Int) = x := e
        omega
      · have h1 := pow_mono (a := q + 1) (b := k) (by omega)
        have h2 : (10 : Int) ^ (q + 1) = 10 ^ q * 10 := Int.pow_succ _ _
        have h3 := pw10 q
        rw [ediv_big (by omega) (by omega)] at e
        omega
    rw [dvl_dk (by omega) hd] at e
    have hd' : ∀ i, i < q - k → 0 ≤ (g i).toInt ∧ (g i).toInt ≤ 9 := fun i hi => hd i (by omega)
    have hb' := dvl_b (g := g) (q := q - k) (by omega) hd'
    have hs3 : q - k ≤ 3 := by
      refine Classical.byContradiction fun hn => ?_
      have h1 := pow_mono (a := 4) (b := q - k) (by omega)
      have h2 : (10 : Int) ^ 4 = 10000 := by decide
      unfold pfx at hx
      omega
    have hs := szN_v (g := g) (s := q - k) (by omega) hs3 hd'
    rw [e] at hs
    exact ⟨by omega, by rw [hs.1]; exact e⟩
  · rintro ⟨h1, h2⟩
    refine ⟨by omega, q - szN x, ?_⟩
    rw [dvl_dk (by omega) hd, show q - (q - szN x) = szN x by omega]
    exact h2
/-- the prefix begins with the number -/
def MBp (g : Nat → Int32) (q : Nat) (x : Int) : Prop := q ≤ szN x ∧ x / (10 : Int) ^ (szN x - q) = dvl g q
theorem pfx_d {x : Int} (hx : pfx x) (h : 2 ≤ szN x) : pfx (x / 10) ∧ szN (x / 10) = szN x - 1 := by
  rcases hx with hx | hx | hx
  · have e : szN x = 1 := by unfold szN; rw [if_neg (by omega), if_neg (by omega)]
    omega
  · have e : szN x = 2 := by unfold szN; rw [if_neg (by omega), if_pos (by omega)]
    have e2 : szN (x / 10) = 1 := by unfold szN; rw [if_neg (by omega), if_neg (by omega)]
    refine ⟨?_, by omega⟩
    unfold pfx; omega
  · have e : szN x = 3 := by unfold szN; rw [if_pos (by omega)]
    have e2 : szN (x / 10) = 2 := by unfold szN; rw [if_neg (by omega), if_pos (by omega)]
    refine ⟨?_, by omega⟩
    unfold pfx; omega
theorem bw_mb {g : Nat → Int32} {q : Nat} {x : Int} (hq1 : 1 ≤ q) (hq : q ≤ 5) (hd : ∀ i, i < q → 0 ≤ (g i).toInt ∧ (g i).toInt ≤ 9) (hx : pfx x) : BW x (dvl g q) ↔ MBp g q x := by
  have hb := dvl_b hq hd
  have h10 : (10 : Int) ≤ 10 ^ q := by
    have := pow_mono (a := 1) (b := q) hq1
    have h1 : (10 : Int) ^ 1 = 10 := by decide
    omega
  have hsz : (10 : Int) ^ szN x ≤ x ∧ x < 2 * 10 ^ szN x := by
    unfold szN
    unfold pfx at hx
    rcases hx with hx | hx | hx
    · rw [if_neg (by omega), if_neg (by omega)]; simp; omega
    · rw [if_neg (by omega), if_pos (by omega)]; simp; omega
    · rw [if_pos (by omega)]; simp; omega
  constructor
  · rintro ⟨-, k, e⟩
    have key : ∀ k, k ≤ szN x → (10 : Int) ^ (szN x - k) ≤ x / 10 ^ k ∧ x / 10 ^ k < 2 * 10 ^ (szN x - k) := by
      intro k hk
      have hp := pw10 k
      have e1 : (10 : Int) ^ szN x = 10 ^ (szN x - k) * 10 ^ k := by rw [← Int.pow_add, Nat.sub_add_cancel hk]
      refine ⟨Int.le_ediv_of_mul_le hp (by omega), Int.ediv_lt_of_lt_mul hp ?_⟩
      rw [Int.mul_assoc, ← e1]
      omega
    by_cases hk : k ≤ szN x
    · have kk := key k hk
      rw [e] at kk
      have hqk : q = szN x - k := by
        rcases Nat.lt_trichotomy q (szN x - k) with z | z | z
        · have h1 := pow_mono (a := q + 1) (b := szN x - k) (by omega)
          have h2 : (10 : Int) ^ (q + 1) = 10 ^ q * 10 := Int.pow_succ _ _
          omega
        · exact z
        · have h1 := pow_mono (a := szN x - k + 1) (b := q) (by omega)
          have h2 : (10 : Int) ^ (szN x - k + 1) = 10 ^ (szN x - k) * 10 := Int.pow_succ _ _
          have := pw10 (szN x - k)
          omega
      refine ⟨by omega, ?_⟩
      rw [show szN x - q = k by omega]
      exact e
    · have h1 := pow_mono (a := szN x + 1) (b := k) (by omega)
      have h2 : (10 : Int) ^ (szN x + 1) = 10 ^ szN x * 10 := Int.pow_succ _ _
      have h3 := pw10 (szN x)
      rw [ediv_big (by omega) (by omega)] at e
      omega
  · rintro ⟨h1, h2⟩
    exact ⟨by omega, _, h2⟩
/-- two prefixes of one number overlap -/
theorem ft_ovl {g : Nat → Int32} {q : Nat} {x y : Int} (hq : q ≤ 5) (hd : ∀ i, i < q → 0 ≤ (g i).toInt ∧ (g i).toInt ≤ 9) (hx : FTx g q x) (hy : FTx g q y) : ovl x y := by
  obtain ⟨a1, a2⟩ := hx
  obtain ⟨b1, b2⟩ := hy
  have c1 := szN_b x
  have c2 := szN_b y
  have key : ∀ s t : Nat, s ≤ t → t ≤ q → t - s ≤ 2 → dvl g t / (10 : Int) ^ (t - s) = dvl g s := fun s t h1 h2 h3 => by
    rw [dvl_dk (by omega) (fun i hi => hd i (by omega)), show t - (t - s) = s by omega]
  unfold ovl
  rcases Nat.le_total (szN x) (szN y) with z | z
  · have k := key _ _ z b1 (by omega)
    rw [a2, b2] at k
    rcases (show szN y - szN x = 0 ∨ szN y - szN x = 1 ∨ szN y - szN x = 2 by omega) with e | e | e
    · rw [e, p10v.1, Int.ediv_one] at k; exact Or.inl k.symm
    · rw [e, p10v.2.1] at k; exact Or.inr (Or.inr (Or.inr (Or.inl k.symm)))
    · rw [e, p10v.2.2.1] at k; exact Or.inr (Or.inr (Or.inr (Or.inr k.symm)))
  · have k := key _ _ z a1 (by omega)
    rw [a2, b2] at k
    rcases (show szN x - szN y = 0 ∨ szN x - szN y = 1 ∨ szN x - szN y = 2 by omega) with e | e | e
    · rw [e, p10v.1, Int.ediv_one] at k; exact Or.inl k
    · rw [e, p10v.2.1] at k; exact Or.inr (Or.inl k)
    · rw [e, p10v.2.2.1] at k; exact Or.inr (Or.inr (Or.inl k))
