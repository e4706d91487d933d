theorem ofN_sub {a b : Nat} (ha : a ≤ 100000) (hb : b ≤ a) : Int32.ofNat a - Int32.ofNat b = Int32.ofNat (a - b) := by
  have h1 := ofN ha
  have h2 := ofN (n := b) (by omega)
  have h3 := ofN (n := a - b) (by omega)
  refine i32_eq.mpr ?_
  rw [i32_sub (by omega) (by omega)]
  omega
theorem ofN_rem {a b : Nat} (ha : a ≤ 100000) (hb : b ≤ 100000) (hb0 : 0 < b) : Int32.ofNat a - Int32.ofNat a / Int32.ofNat b * Int32.ofNat b = Int32.ofNat (a % b) := by
  rw [ofN_div ha hb hb0, ofN_mul, ofN_sub ha (Nat.div_mul_le_self a b)]
  congr 1
  have := Nat.div_add_mod a b
  rw [Nat.mul_comm] at this
  omega
theorem i32_nat {x : Int32} (h : 0 ≤ x.toInt) : x = Int32.ofNat x.toNatClampNeg := by
  have e := x_clamp h
  have b := Int32.toInt_lt x
  refine i32_eq.mpr ?_
  rw [show (Int32.ofNat x.toNatClampNeg).toInt = (x.toNatClampNeg : Int) from Int32.toInt_ofNat_of_lt (by omega)]
  omega
/-- F's list with counts in Kc, items in Ki, s places each -/
def LV (F : xF) (Kc Ki s i : Nat) (l : List Int32) : Prop := F Kc i = Int32.ofNat l.length ∧ ∀ (k : Nat) (x : Int32), l[k]? = some x → F Ki (s * i + k) = x
theorem LV.eq {F : xF} {Kc Ki s i : Nat} {l l' : List Int32} (a : LV F Kc Ki s i l) (b : LV F Kc Ki s i l') (h1 : l.length ≤ 100000) (h2 : l'.length ≤ 100000) : l = l' := by
  have e : l.length = l'.length := by
    have := congrArg Int32.toNatClampNeg (a.1.symm.trans b.1)
    rw [(ofN h1).2, (ofN h2).2] at this
    exact this
  refine List.ext_getElem? (fun k => ?_)
  by_cases q : k < l.length
  · have u := List.getElem?_eq_getElem q
    have w := List.getElem?_eq_getElem (show k < l'.length by omega)
    rw [u, w, ← a.2 k _ u, ← b.2 k _ w]
  · rw [List.getElem?_eq_none (by omega), List.getElem?_eq_none (by omega)]
section XIN
variable {σ : Type} {R : σ → xH → Prop} {m μ nx : Nat} {r : List (Nat × xI)} {ls st : List xV} {s : σ} {G : xO → σ → Prop}
theorem c_iincN {a i k : Nat} {v : Int32} {ls' : List xV} (ha : ls[a]? = some (.inl (Int32.ofNat i))) (hv : v = Int32.ofNat k) (hl : ls.set a (.inl (Int32.ofNat (i + k))) = ls') (kk : TC R m μ r ls' st s G) : TC R m μ ((nx, x_iinc a v) :: r) ls st s G := by
  subst hv
  exact c_iinc ha (by rw [ofN_add]; exact hl) kk
end XIN
/-! THE CLASS, search by search: exact answers -/
def bI (b : Bool) : Int32 := if b = true then 1 else 0
theorem bI0 {b : Bool} : bI b = 0 ↔ b = false := by cases b <;> decide
theorem bI1 {b : Bool} : ¬ bI b = 0 ↔ b = true := by cases b <;> decide
theorem b2i_bI {p : Prop} [Decidable p] : b2i p = bI (decide p) := by
  unfold b2i bI
  by_cases h : p
  · rw [if_pos h, if_pos (decide_eq_true h)]
  · rw [if_neg h, if_neg (by simp [h])]
/-- x's digits begin with y's -/
def BW (x y : Int) : Prop := 0 < y ∧ ∃ k : Nat, x / (10 : Int) ^ k = y
noncomputable def bwB (x y : Int) : Bool := @decide (BW x y) (Classical.propDecidable _)
theorem bwB_t {x y : Int} : bwB x y = true ↔ BW x y := by unfold bwB; exact @decide_eq_true_iff _ (Classical.propDecidable _)
theorem bwB_f {x y : Int} : bwB x y = false ↔ ¬ BW x y := by unfold bwB; exact @decide_eq_false_iff_not _ (Classical.propDecidable _)
theorem pw10 (k : Nat) : (0 : Int) < 10 ^ k := Int.pow_pos (by decide)
theorem bwB_le {x y : Int} (h : x ≤ 0) : bwB x y = false := by
  refine bwB_f.mpr (fun z => ?_)
  obtain ⟨h1, k, e⟩ := z
  have : x / (10 : Int) ^ k ≤ 0 := Int.ediv_le_of_le_mul (pw10 k) (by omega)
  omega
theorem bwB_lt {x y : Int} (h : x < y) : bwB x y = false := by
  by_cases h0 : x ≤ 0
  · exact bwB_le h0
  · refine bwB_f.mpr (fun z => ?_)
    obtain ⟨h1, k, e⟩ := z
    have := Int.ediv_le_self ((10 : Int) ^ k) (show 0 ≤ x by omega)
    omega
theorem bwB_eq {x : Int} (h : 0 < x) : bwB x x = true := bwB_t.mpr ⟨h, 0, by simp⟩
theorem bwB_st {x y : Int} (h0 : 0 ≤ x) (h : x ≠ y) : bwB x y = bwB (x / 10) y := by
  have e : ∀ k : Nat, x / 10 / (10 : Int) ^ k = x / (10 : Int) ^ (k + 1) := fun k => by
    rw [Int.ediv_ediv, if_neg (fun z => absurd z.1 (by decide)), Int.sub_zero, Int.pow_succ, Int.mul_comm]
  have q : BW x y ↔ BW (x / 10) y := by
    refine ⟨fun z => ⟨z.1, ?_⟩, fun z => ⟨z.1, ?_⟩⟩
    · obtain ⟨k, hk⟩ := z.2
      cases k with
      | zero => exact absurd (by simpa using hk) h
      | succ k => exact ⟨k, (e k).trans hk⟩
    · obtain ⟨k, hk⟩ := z.2
      exact ⟨k + 1, (e k).symm.trans hk⟩
  by_cases z : BW x y
  · rw [bwB_t.mpr z, bwB_t.mpr (q.mp z)]
  · rw [bwB_f.mpr z, bwB_f.mpr (fun w => z (q.mpr w))]
/-- how many digits behind the first -/
def cdF : Nat → Int → Nat
  | 0, _ => 0
  | n + 1, x => if x < 10 then 0 else cdF n (x / 10) + 1
theorem cdF_up : ∀ (n : Nat) (x : Int), x < (10 : Int) ^ n → cdF (n + 1) x = cdF n x
  | 0, x, h => by
    show (if x < 10 then 0 else cdF 0 (x / 10) + 1) = 0
    have h : x < 1 := by simpa using h
    rw [if_pos (by omega)]
  | n + 1, x, h => by
    show (if x < 10 then 0 else cdF (n + 1) (x / 10) + 1) = (if x < 10 then 0 else cdF n (x / 10) + 1)
    by_cases q : x < 10
    · rw [if_pos q, if_pos q]
    · rw [if_neg q, if_neg q, cdF_up n (x / 10) (Int.ediv_lt_of_lt_mul (by decide) (by rw [← Int.pow_succ]; exact h))]
def cdg (x : Int) : Nat := cdF 11 x
theorem cdg_lt {x : Int} (h : x < 10) : cdg x = 0 := if_pos h
theorem cdg_ge {x : Int} (h : 10 ≤ x) (h2 : x < 2147483648) : cdg x = cdg (x / 10) + 1 := by
  unfold cdg
  rw [cdF_up 10 (x / 10) (by omega)]
  exact if_neg (by omega)
def dv10 : Nat → Int32 → Int32
  | 0, x => x
  | n + 1, x => dv10 n (x / 10)
def lbh (x w : Int32) : Int32 := dv10 (w.toInt - 2).toNat x - dv10 (w.toInt - 2).toNat x / 100 * 100
theorem lbh_le {x w : Int32} (h : w.toInt ≤ 2) : lbh x w = x - x / 100 * 100 := by
  unfold lbh
  rw [show (w.toInt - 2).toNat = 0 by omega]
  rfl
theorem lbh_gt {x w : Int32} (h : 2 < w.toInt) : lbh x w = lbh (x / 10) (w + -1) := by
  have e : (w + -1).toInt = w.toInt - 1 := by
    have := w.toInt_lt
    rw [i32_add (by rw [show (-1 : Int32).toInt = -1 from rfl]; omega) (by rw [show (-1 : Int32).toInt = -1 from rfl]; omega)]
    rfl
  unfold lbh
  rw [e, show (w.toInt - 2).toNat = (w.toInt - 1 - 2).toNat + 1 by omega]
  rfl
/-- the first from i on, of n, with p -/
def fnd (p : Nat → Bool) : Nat → Nat → Option Nat
  | _, 0 => none
  | i, n + 1 => if p i = true then some i else fnd p (i + 1) n
theorem fnd_end {p : Nat → Bool} {i N : Nat} (h : N ≤ i) : fnd p i (N - i) = none := by rw [show N - i = 0 by omega]; rfl
theorem fnd_no {p : Nat → Bool} {i N : Nat} (h : i < N) (hp : p i = false) : fnd p i (N - i) = fnd p (i + 1) (N - (i + 1)) := by
  rw [show N - i = N - (i + 1) + 1 by omega]
  show (if p i = true then _ else _) = _
  rw [if_neg (by rw [hp]; decide)]
theorem fnd_yes {p : Nat → Bool} {i N : Nat} (h : i < N) (hp : p i = true) : fnd p i (N - i) = some i := by
  rw [show N - i = N - (i + 1) + 1 by omega]
  exact if_pos hp
theorem fnd_some {p : Nat → Bool} : ∀ {n i k : Nat}, fnd p i n = some k → i ≤ k ∧ k < i + n ∧ p k = true ∧ ∀ k', i ≤ k' → k' < k → p k' = false
  | 0, i, k, h => by cases h
  | n + 1, i, k, h => by
    have h : (if p i = true then some i else fnd p (i + 1) n) = some k := h
    by_cases q : p i = true
    · rw [if_pos q] at h
      cases h
      exact ⟨Nat.le_refl _, by omega, q, fun k' h1 h2 => absurd h1 (by omega)⟩
    · rw [if_neg q] at h
      obtain ⟨a, b, c, d⟩ := fnd_some h
      refine ⟨by omega, by omega, c, fun k' h1 h2 => ?_⟩
      by_cases e : k' = i
      · rw [e]; simpa using q
      · exact d k' (by omega) h2
theorem fnd_none {p : Nat → Bool} : ∀ {n i : Nat}, fnd p i n = none → ∀ k, i ≤ k → k < i + n → p k = false
  | 0, i, _, k, h1, h2 => absurd h1 (by omega)
  | n + 1, i, h, k, h1, h2 => by
    have h : (if p i = true then some i else fnd p (i + 1) n) = none := h
    by_cases q : p i = true
    · rw [if_pos q] at h; cases h
    · rw [if_neg q] at h
      by_cases e : k = i
      · rw [e]; simpa using q
      · exact fnd_none h k (by omega) (by omega)
theorem fnd_cg {p q : Nat → Bool} : ∀ {n i : Nat}, (∀ k, i ≤ k → k < i + n → p k = q k) → fnd p i n = fnd q i n
  | 0, _, _ => rfl
  | n + 1, i, h => by
    show (if p i = true then some i else fnd p (i + 1) n) = (if q i = true then some i else fnd q (i + 1) n)
    rw [h i (Nat.le_refl _) (by omega), fnd_cg (n := n) (i := i + 1) (fun k h1 h2 => h k (by omega) (by omega))]
def cnt (p : Nat → Bool) : Nat → Nat → Nat
  | _, 0 => 0
  | i, n + 1 => (if p i = true then 1 else 0) + cnt p (i + 1) n
theorem cnt_end {p : Nat → Bool} {i N : Nat} (h : N ≤ i) : cnt p i (N - i) = 0 := by rw [show N - i = 0 by omega]; rfl
theorem cnt_no {p : Nat → Bool} {i N : Nat} (h : i < N) (hp : p i = false) : cnt p i (N - i) = cnt p (i + 1) (N - (i + 1)) := by
  rw [show N - i = N - (i + 1) + 1 by omega]
  show (if p i = true then 1 else 0) + _ = _
  rw [if_neg (by rw [hp]; decide), Nat.zero_add]
theorem cnt_yes {p : Nat → Bool} {i N : Nat} (h : i < N) (hp : p i = true) : cnt p i (N - i) = 1 + cnt p (i + 1) (N - (i + 1)) := by
  rw [show N - i = N - (i + 1) + 1 by omega]
  show (if p i = true then 1 else 0) + _ = _
  rw [if_pos hp]
theorem cnt_cg {p q : Nat → Bool} : ∀ {n i : Nat}, (∀ k, i ≤ k → k < i + n → p k = q k) → cnt p i n = cnt q i n
  | 0, _, _ => rfl
  | n + 1, i, h => by
    show (if p i = true then 1 else 0) + cnt p (i + 1) n = (if q i = true then 1 else 0) + cnt q (i + 1) n
    rw [h i (Nat.le_refl _) (by omega), cnt_cg (n := n) (i := i + 1) (fun k h1 h2 => h k (by omega) (by omega))]
def oN (f : Nat → Int32) (d : Int32) : Option Nat → Int32
  | none => d
  | some k => f k
/-- how many routes -/
abbrev rcn (v : vS) (j : Nat) : Nat := (v.1 3 7 j).toInt.toNat
def fro (v : vS) (j : Nat) : Option Nat → Nat
  | none => 0
  | some k => v.2.1 18 j k
def rnm (v : vS) (j : Nat) (x : Int32) : Option Nat := fnd (fun k => v.1 4 0 (v.2.1 18 j k) == x) 0 (rcn v j)
noncomputable def rof (v : vS) (j : Nat) (x : Int32) : Option Nat := fnd (fun k => bwB x.toInt (v.1 4 0 (v.2.1 18 j k)).toInt) 0 (rcn v j)
noncomputable def cbp (v : vS) (j : Nat) (x : Int32) : Option Nat := fnd (fun k => bwB (v.1 4 0 (v.2.1 18 j k)).toInt x.toInt) 0 (rcn v j)
def dbh (v : vS) (m : Nat) (x : Int32) : Int32 := Int32.ofNat (cdg x.toInt) - Int32.ofNat (cdg (v.1 4 0 m).toInt)
noncomputable def hrf (v : vS) (j : Nat) (x : Int32) : Bool := decide ((v.1 3 7 j).toInt < 12) && (fro v j (rof v j x) == 0) && !(cbp v j x).isSome
def vadr (v : vS) (j m : Nat) : vS := if (v.1 3 7 j).toInt < 12 then vpi (vpr v 18 j (v.1 3 7 j).toNatClampNeg m) 3 7 j (v.1 3 7 j + 1) else v
def chv (v : vS) (m : Nat) (x : Int32) : Bool := (v.1 4 1 m == 0) && decide ((v.2.2.1 (v.2.1 4 2 m)).length < 3) && !decide (x ∈ v.2.2.1 (v.2.1 4 2 m))
def iah (v : vS) (j : Nat) (x : Int32) : Option Nat := fnd (fun h => decide (x ∈ v.2.2.1 (30 * (j - 1) + 3 + h))) 0 4
def frb (v : vS) (l : Nat) : Bool := decide (v.1 2 2 l = 0 ∧ v.2.1 2 5 l = 0)
def isl (z : Int32) : Bool := decide (0 ≤ z.toInt ∧ z.toInt ≤ 23)
def ffp (v : vS) (j r i : Nat) : Bool := isl (rat (v.2.2.1 r) (Int32.ofNat i)) && frb v (24 * (j - 1) + (rat (v.2.2.1 r) (Int32.ofNat i)).toNatClampNeg + 1)
def ff (v : vS) (j r : Nat) (y : Int32) : Int32 := oN (fun i => rat (v.2.2.1 r) (Int32.ofNat i)) y (fnd (ffp v j r) 0 (v.2.2.1 r).length)
def hfr (v : vS) (j : Nat) (x : Int32) : Int32 := oN (fun h => ff v j (30 * (j - 1) + 3 + h) x) x (fnd (fun h => rat (v.2.2.1 (30 * (j - 1) + 3 + h)) 0 == x) 0 4)
def fidl (v : vS) (j a b : Nat) : Int32 := oN Int32.ofNat (-1) (fnd (fun p => v.2.1 17 j p == 0) a (b - a))
def cidl (v : vS) (j a b : Nat) : Nat := cnt (fun p => v.2.1 17 j p == 0) a (b - a)
def lnk (v : vS) (j l s : Nat) : Int32 := Int32.ofNat ((l - 1) % 24 / 8 * 4) + (v.1 3 8 j + Int32.ofNat s - (v.1 3 8 j + Int32.ofNat s) / 4 * 4)
def ilp (v : vS) (j l : Nat) (b : Int32) (s : Nat) : Bool := !(lnk v j l s == b) && (v.2.1 17 j (lnk v j l s).toNatClampNeg == 0)
def ilk (v : vS) (j l s : Nat) (b : Int32) : Int32 := oN (lnk v j l) (-1) (fnd (ilp v j l b) s (4 - s))
/-- how many trunks -/
abbrev tcn (v : vS) : Nat := (v.1 7 4 1).toInt.toNat
def trd (v : vS) (t : Nat) : Bool := decide (v.1 6 2 (v.2.1 13 1 t) = 0 ∧ v.2.1 6 3 (v.2.1 13 1 t) = 0)
def ten (v : vS) (x : Int32) (t : Nat) : Bool := decide (v.1 6 0 (v.2.1 13 1 t) = x ∨ v.1 6 1 (v.2.1 13 1 t) = x)
def fitr (v : vS) (x y : Int32) : Int32 := oN Int32.ofNat (-1) (fnd (fun t => trd v t && ten v x t && ten v y t) 0 (tcn v))
def citr (v : vS) (x : Int32) : Nat := cnt (fun t => trd v t && ten v x t) 0 (tcn v)
theorem e16 {v : vS} {x y : Int32} : ED CR 16 [.inl x, .inl y] v (oi (bI (bwB x.toInt y.toInt))) (v) := by
  refine EC.mk (fun n0 => ?_)
  show BC _ n0 16 0 [.inl x, .inl y, rf 0 0] [] _ _
  refine BC.blk c16_0 (fun m1 hm1 => ?_)
  refine c_iload rfl ?_
  refine c_istore rfl ?_
  refine c_goto ?_
  have lp2 : ∀ (n : Nat) (z : Int32), BC CR n 16 2 [.inl x, .inl y, .inl z] [] v (fun o t => o = oi (bI (bwB z.toInt y.toInt)) ∧ t = v) := by
    intro n2
    induction n2 using Nat.strongRecOn with
    | ind n2 ih2 =>
      intro z
      refine BC.blk c16_2 (fun m2 hm2 => ?_)
      refine c_iload rfl ?_
      refine c_iload rfl ?_
      refine c_icmp_lt (fun d1 => ?_) (fun d1 => ?_)
      · skip
        refine BC.blk c16_26 (fun m3 hm3 => ?_)
        refine c_iconst ?_
        exact c_zret ⟨by rw [bwB_lt d1]; rfl, rfl⟩
      · skip
        refine c_iload rfl ?_
        refine c_if_le (fun d2 => ?_) (fun d2 => ?_)
        · skip
          refine BC.blk c16_26 (fun m4 hm4 => ?_)
          refine c_iconst ?_
          exact c_zret ⟨by rw [bwB_le d2]; rfl, rfl⟩
        · skip
          refine c_iload rfl ?_
          refine c_iload rfl ?_
          refine c_icmp_ne (fun d3 => ?_) (fun d3 => ?_)
          · skip
            refine BC.blk c16_18 (fun m5 hm5 => ?_)
            refine c_iload rfl ?_
            refine c_iconst ?_
            refine c_idiv rfl ?_
            refine c_istore rfl ?_
            refine c_goto ?_
            have e9 := ih2 m5 (by omega) (z / 10)
            rw [show (z / 10).toInt = z.toInt / 10 from i32_div (by omega) (by decide), ← bwB_st (by omega) (fun q => d3 (i32_eq.mpr q))] at e9
            exact e9
          · skip
            refine c_iconst ?_
            exact c_zret ⟨by rw [d3, bwB_eq (by rw [← d3]; omega)]; rfl, rfl⟩
  exact lp2 m1 x
theorem e34 {v : vS} {x : Int32} : ED CR 34 [.inl x] v (oi (Int32.ofNat (cdg x.toInt))) (v) := by
  refine EC.mk (fun n0 => ?_)
  show BC _ n0 34 0 [.inl x, rf 0 0, rf 0 0] [] _ _
  refine BC.blk c34_0 (fun m1 hm1 => ?_)
  refine c_iconst ?_
  refine c_istore rfl ?_
  refine c_iload rfl ?_
  refine c_istore rfl ?_
  refine c_goto ?_
  have lp4 : ∀ (n : Nat) (k : Nat) (z : Int32), BC CR n 34 4 [.inl x, .inl (Int32.ofNat k), .inl z] [] v (fun o t => o = oi (Int32.ofNat (k + cdg z.toInt)) ∧ t = v) := by
    intro n4
    induction n4 using Nat.strongRecOn with
    | ind n4 ih4 =>
      intro k z
      refine BC.blk c34_4 (fun m2 hm2 => ?_)
      refine c_iload rfl ?_
      refine c_iconst ?_
      refine c_icmpk_lt (k := 10) rfl (fun d1 => ?_) (fun d1 => ?_)
      · skip
        refine BC.blk c34_21 (fun m3 hm3 => ?_)
        refine c_iload rfl ?_
        exact c_iret ⟨by rw [cdg_lt d1]; rfl, rfl⟩
      · skip
        refine c_iincN (i := k) (k := 1) rfl rfl rfl ?_
        refine c_iload rfl ?_
        refine c_iconst ?_
        refine c_idiv rfl ?_
        refine c_istore rfl ?_
        refine c_goto ?_
        have hz := z.toInt_lt
        have e9 := ih4 m2 (by omega) (k + 1) (z / 10)
        rw [show (z / 10).toInt = z.toInt / 10 from i32_div (by omega) (by decide)] at e9
        rw [show k + cdg z.toInt = k + 1 + cdg (z.toInt / 10) by rw [cdg_ge (by omega) (by omega)]; omega]
        exact e9
  have e9 := lp4 m1 0 x
  rw [Nat.zero_add] at e9
  exact e9
theorem e35 {v : vS} {j : Nat} {x : Int32} : ED CR 35 [rf 4 j, .inl x] v (oi (dbh v j x)) (v) := by
  refine EC.mk (fun n0 => ?_)
  show BC _ n0 35 0 [rf 4 j, .inl x] [] _ _
  refine BC.blk c35_0 (fun m1 hm1 => ?_)
  refine c_iload rfl ?_
  refine d_calln cr_rs (e34) ?_
  refine c_aload rfl ?_
  refine c_gfi (fun _ C _ => C.i rfl) ?_
  refine d_calln cr_rs (e34) ?_
  refine c_bin rfl ?_
  exact c_iret ⟨rfl, rfl⟩
theorem e36 {v : vS} {j : Nat} {x : Int32} : ED CR 36 [rf 4 j, .inl x] v (oi (lbh x (dbh v j x))) (v) := by
  refine EC.mk (fun n0 => ?_)
  show BC _ n0 36 0 [rf 4 j, .inl x, rf 0 0, rf 0 0] [] _ _
  refine BC.blk c36_0 (fun m1 hm1 => ?_)
  refine c_iload rfl ?_
  refine c_istore rfl ?_
  refine c_aload rfl ?_
  refine c_iload rfl ?_
  refine d_callv cr_rs (e35) ?_
  refine c_istore rfl ?_
  refine c_goto ?_
  have lp8 : ∀ (n : Nat) (z w : Int32), BC CR n 36 8 [rf 4 j, .inl x, .inl z, .inl w] [] v (fun o t => o = oi (lbh z w) ∧ t = v) := by
    intro n8
    induction n8 using Nat.strongRecOn with
    | ind n8 ih8 =>
      intro z w
      refine BC.blk c36_8 (fun m2 hm2 => ?_)
      refine c_iload rfl ?_
      refine c_iconst ?_
      refine c_icmpk_le (k := 2) rfl (fun d1 => ?_) (fun d1 => ?_)
      · skip
        refine BC.blk c36_24 (fun m3 hm3 => ?_)
        refine c_iload rfl ?_
        refine c_iconst ?_
        refine c_irem rfl ?_
        exact c_iret ⟨by rw [lbh_le d1], rfl⟩
      · skip
        refine c_iload rfl ?_
        refine c_iconst ?_
        refine c_idiv rfl ?_
        refine c_istore rfl ?_
        refine c_iinc rfl rfl ?_
        refine c_goto ?_
        have e9 := ih8 m2 (by omega) (z / 10) (w + -1)
        rw [← lbh_gt (by omega)] at e9
        exact e9
  exact lp8 m1 x _
theorem e15 {v : vS} {j : Nat} {x : Int32} : ED CR 15 [rf 3 j, .inl x] v (oa 4 (fro v j (rnm v j x))) (v) := by
  refine EC.mk (fun n0 => ?_)
  show BC _ n0 15 0 [rf 3 j, .inl x, rf 0 0] [] _ _
  refine BC.blk c15_0 (fun m1 hm1 => ?_)
  refine c_iconst ?_
  refine c_istore rfl ?_
  refine c_goto ?_
  have lp2 : ∀ (n : Nat) (i : Nat), i ≤ 12 → BC CR n 15 2 [rf 3 j, .inl x, .inl (Int32.ofNat i)] [] v (fun o t => o = oa 4 (fro v j (fnd (fun k => v.1 4 0 (v.2.1 18 j k) == x) i (rcn v j - i))) ∧ t = v) := by
    intro n2
    induction n2 using Nat.strongRecOn with
    | ind n2 ih2 =>
      intro i hi
      have o1 := ofN (n := i) (by omega)
      have oq : rcn v j = (v.1 3 7 j).toInt.toNat := rfl
      refine BC.blk c15_2 (fun m2 hm2 => ?_)
      refine c_iload rfl ?_
      refine c_aload rfl ?_
      refine c_gfi (fun _ C _ => C.i rfl) ?_
      refine c_icmp_ge (fun d1 => ?_) (fun d1 => ?_)
      · skip
        refine BC.blk c15_36 (fun m3 hm3 => ?_)
        refine c_null ?_
        exact c_aret ⟨by rw [fnd_end (by omega)]; rfl, rfl⟩
      · skip
        refine c_aload rfl ?_
        refine c_gfr (fun _ C l => C.r3 (k := 3) rfl l) ?_
        refine c_iload rfl ?_
        refine c_aald (fun _ C l i9 => ⟨(C.a18 l i9).1, (C.a18 l i9).2.trans (by rw [o1.2])⟩) (fun p1 => ?_)
        refine c_gfi (fun _ C _ => C.i rfl) ?_
        refine c_iload rfl ?_
        refine c_icmp_ne (fun d2 => ?_) (fun d2 => ?_)
        · skip
          refine BC.blk c15_30 (fun m4 hm4 => ?_)
          refine c_iincN (i := i) (k := 1) rfl rfl rfl ?_
          refine c_goto ?_
          rw [fnd_no (by omega) (by simp [d2])]
          exact ih2 m4 (by omega) (i + 1) (by omega)
        · skip
          refine c_aload rfl ?_
          refine c_gfr (fun _ C l => C.r3 (k := 3) rfl l) ?_
          refine c_iload rfl ?_
          refine c_aald (fun _ C l i9 => ⟨(C.a18 l i9).1, (C.a18 l i9).2.trans (by rw [o1.2])⟩) (fun p2 => ?_)
          exact c_aret ⟨by rw [fnd_yes (by omega) (by simp [d2])]; rfl, rfl⟩
  exact lp2 m1 0 (by omega)
theorem e17 {v : vS} {j : Nat} {x : Int32} : ED CR 17 [rf 3 j, .inl x] v (oa 4 (fro v j (rof v j x))) (v) := by
  refine EC.mk (fun n0 => ?_)
  show BC _ n0 17 0 [rf 3 j, .inl x, rf 0 0] [] _ _
  refine BC.blk c17_0 (fun m1 hm1 => ?_)
  refine c_iconst ?_
  refine c_istore rfl ?_
  refine c_goto ?_
  have lp2 : ∀ (n : Nat) (i : Nat), i ≤ 12 → BC CR n 17 2 [rf 3 j, .inl x, .inl (Int32.ofNat i)] [] v (fun o t => o = oa 4 (fro v j (fnd (fun k => bwB x.toInt (v.1 4 0 (v.2.1 18 j k)).toInt) i (rcn v j - i))) ∧ t = v) := by
    intro n2
    induction n2 using Nat.strongRecOn with
    | ind n2 ih2 =>
      intro i hi
      have o1 := ofN (n := i) (by omega)
      have oq : rcn v j = (v.1 3 7 j).toInt.toNat := rfl
      refine BC.blk c17_2 (fun m2 hm2 => ?_)
      refine c_iload rfl ?_
      refine c_aload rfl ?_
      refine c_gfi (fun _ C _ => C.i rfl) ?_
      refine c_icmp_ge (fun d1 => ?_) (fun d1 => ?_)
      · skip
        refine BC.blk c17_39 (fun m3 hm3 => ?_)
        refine c_null ?_
        exact c_aret ⟨by rw [fnd_end (by omega)]; rfl, rfl⟩
      · skip
        refine c_iload rfl ?_
        refine c_aload rfl ?_
        refine c_gfr (fun _ C l => C.r3 (k := 3) rfl l) ?_
        refine c_iload rfl ?_
        refine c_aald (fun _ C l i9 => ⟨(C.a18 l i9).1, (C.a18 l i9).2.trans (by rw [o1.2])⟩) (fun p1 => ?_)
        refine c_gfi (fun _ C _ => C.i rfl) ?_
        refine d_calln cr_rs (e16) ?_
        refine c_if_eq (fun d2 => ?_) (fun d2 => ?_)
        · skip
          refine BC.blk c17_33 (fun m4 hm4 => ?_)
          refine c_iincN (i := i) (k := 1) rfl rfl rfl ?_
          refine c_goto ?_
          rw [fnd_no (by omega) (bI0.mp d2)]
          exact ih2 m4 (by omega) (i + 1) (by omega)
        · skip
          refine c_aload rfl ?_
          refine c_gfr (fun _ C l => C.r3 (k := 3) rfl l) ?_
          refine c_iload rfl ?_
          refine c_aald (fun _ C l i9 => ⟨(C.a18 l i9).1, (C.a18 l i9).2.trans (by rw [o1.2])⟩) (fun p2 => ?_)
          exact c_aret ⟨by rw [fnd_yes (by omega) (bI1.mp d2)]; rfl, rfl⟩
  exact lp2 m1 0 (by omega)
theorem e18 {v : vS} {j : Nat} {x : Int32} : ED CR 18 [rf 3 j, .inl x] v (oi (bI (cbp v j x).isSome)) (v) := by
  refine EC.mk (fun n0 => ?_)
  show BC _ n0 18 0 [rf 3 j, .inl x, rf 0 0] [] _ _
  refine BC.blk c18_0 (fun m1 hm1 => ?_)
  refine c_iconst ?_
  refine c_istore rfl ?_
  refine c_goto ?_
  have lp2 : ∀ (n : Nat) (i : Nat), i ≤ 12 → BC CR n 18 2 [rf 3 j, .inl x, .inl (Int32.ofNat i)] [] v (fun o t => o = oi (bI (fnd (fun k => bwB (v.1 4 0 (v.2.1 18 j k)).toInt x.toInt) i (rcn v j - i)).isSome) ∧ t = v) := by
    intro n2
    induction n2 using Nat.strongRecOn with
    | ind n2 ih2 =>
      intro i hi
      have o1 := ofN (n := i) (by omega)
      have oq : rcn v j = (v.1 3 7 j).toInt.toNat := rfl
      refine BC.blk c18_2 (fun m2 hm2 => ?_)
      refine c_iload rfl ?_
      refine c_aload rfl ?_
      refine c_gfi (fun _ C _ => C.i rfl) ?_
      refine c_icmp_ge (fun d1 => ?_) (fun d1 => ?_)
      · skip
        refine BC.blk c18_34 (fun m3 hm3 => ?_)
        refine c_iconst ?_
        exact c_zret ⟨by rw [fnd_end (by omega)]; rfl, rfl⟩
      · skip
        refine c_aload rfl ?_
        refine c_gfr (fun _ C l => C.r3 (k := 3) rfl l) ?_
        refine c_iload rfl ?_
        refine c_aald (fun _ C l i9 => ⟨(C.a18 l i9).1, (C.a18 l i9).2.trans (by rw [o1.2])⟩) (fun p1 => ?_)
        refine c_gfi (fun _ C _ => C.i rfl) ?_
        refine c_iload rfl ?_
        refine d_calln cr_rs (e16) ?_
        refine c_if_eq (fun d2 => ?_) (fun d2 => ?_)
        · skip
          refine BC.blk c18_28 (fun m4 hm4 => ?_)
          refine c_iincN (i := i) (k := 1) rfl rfl rfl ?_
          refine c_goto ?_
          rw [fnd_no (by omega) (bI0.mp d2)]
          exact ih2 m4 (by omega) (i + 1) (by omega)
        · skip
          refine c_iconst ?_
          exact c_zret ⟨by rw [fnd_yes (by omega) (bI1.mp d2)]; rfl, rfl⟩
  exact lp2 m1 0 (by omega)
theorem e19 {v : vS} {j : Nat} {x : Int32} : ED CR 19 [rf 3 j, .inl x] v (oi (bI (hrf v j x))) (v) := by
  refine EC.mk (fun n0 => ?_)
  show BC _ n0 19 0 [rf 3 j, .inl x] [] _ _
  refine BC.blk c19_0 (fun m1 hm1 => ?_)
  refine c_aload rfl ?_
  refine c_gfi (fun _ C _ => C.i rfl) ?_
  refine c_iconst ?_
  refine c_icmpk_ge (k := 12) rfl (fun d1 => ?_) (fun d1 => ?_)
  · skip
    refine BC.blk c19_29 (fun m2 hm2 => ?_)
    refine c_iconst ?_
    refine c_goto ?_
    refine BC.blk c19_30 (fun m3 hm3 => ?_)
    exact c_zret ⟨by rw [hrf, decide_eq_false (by omega)]; rfl, rfl⟩
  · skip
    refine c_aload rfl ?_
    refine c_iload rfl ?_
    refine d_callv cr_rs (e17) ?_
    refine c_ifnonnull (fun d2 => ?_) (fun d2 => ?_)
    · skip
      refine BC.blk c19_29 (fun m4 hm4 => ?_)
      refine c_iconst ?_
      refine c_goto ?_
      refine BC.blk c19_30 (fun m5 hm5 => ?_)
      exact c_zret ⟨by rw [hrf, show (fro v j (rof v j x) == 0) = false by simp only [beq_eq_false_iff_ne]; exact d2, Bool.and_false]; rfl, rfl⟩
    · skip
      refine c_aload rfl ?_
      refine c_iload rfl ?_
      refine d_callv cr_rs (e18) ?_
      refine c_if_ne (fun d3 => ?_) (fun d3 => ?_)
      · skip
        refine BC.blk c19_29 (fun m6 hm6 => ?_)
        refine c_iconst ?_
        refine c_goto ?_
        refine BC.blk c19_30 (fun m7 hm7 => ?_)
        exact c_zret ⟨by rw [hrf, show (cbp v j x).isSome = true from bI1.mp d3, Bool.not_true, Bool.and_false]; rfl, rfl⟩
      · skip
        refine c_iconst ?_
        refine c_goto ?_
        refine BC.blk c19_30 (fun m8 hm8 => ?_)
        exact c_zret ⟨by rw [hrf, decide_eq_true (by omega), show (fro v j (rof v j x) == 0) = true by simp only [beq_iff_eq]; exact d2, show (cbp v j x).isSome = false from bI0.mp d3]; rfl, rfl⟩
theorem e20 {v : vS} {j m : Nat} : ED CR 20 [rf 3 j, rf 4 m] v (ov) (vadr v j m) := by
  refine EC.mk (fun n0 => ?_)
  show BC _ n0 20 0 [rf 3 j, rf 4 m] [] _ _
  refine BC.blk c20_0 (fun m1 hm1 => ?_)
  refine c_aload rfl ?_
  refine c_gfi (fun _ C _ => C.i rfl) ?_
  refine c_iconst ?_
  refine c_icmpk_ge (k := 12) rfl (fun d1 => ?_) (fun d1 => ?_)
  · skip
    refine BC.blk c20_29 (fun m2 hm2 => ?_)
    exact c_ret ⟨rfl, by rw [vadr, if_neg (by omega)]⟩
  · skip
    refine c_aload rfl ?_
    refine c_gfr (fun _ C l => C.r3 (k := 3) rfl l) ?_
    refine c_aload rfl ?_
    refine c_gfi (fun _ C _ => C.i rfl) ?_
    refine c_aload rfl ?_
    refine c_aast (fun _ C l i => C.s18 l i) (fun p1 => ?_)
    refine c_aload rfl ?_
    refine c_dup ?_
    refine c_gfi (fun _ C _ => (C.i rfl)) ?_
    refine c_iconst ?_
    refine c_bin rfl ?_
    refine c_pfi (fun _ C _ => C.pi rfl) ?_
    refine c_goto ?_
    refine BC.blk c20_29 (fun m3 hm3 => ?_)
    exact c_ret ⟨rfl, by rw [vadr, if_pos (by omega)]; rfl⟩
theorem e33 {v : vS} {j : Nat} {x : Int32} : ED CR 33 [rf 4 j, .inl x] v (oi (bI (chv v j x))) (v) := by
  refine EC.mk (fun n0 => ?_)
  show BC _ n0 33 0 [rf 4 j, .inl x] [] _ _
  refine BC.blk c33_0 (fun m1 hm1 => ?_)
  refine c_aload rfl ?_
  refine c_gfi (fun _ C _ => C.i rfl) ?_
  refine c_if_ne (fun d1 => ?_) (fun d1 => ?_)
  · skip
    refine BC.blk c33_33 (fun m2 hm2 => ?_)
    refine c_iconst ?_
    refine c_goto ?_
    refine BC.blk c33_34 (fun m3 hm3 => ?_)
    exact c_zret ⟨by rw [chv, show (v.1 4 1 j == 0) = false by simp only [beq_eq_false_iff_ne]; exact d1]; rfl, rfl⟩
  · skip
    refine c_aload rfl ?_
    refine c_gfr (fun _ C _ => C.r rfl) ?_
    refine d_callvP cr_rs rfl (fun _ C l => And.intro (C.rl l) (C.rlen l)) (fun hr => e24) (fun hr => ?_)
    have o1 := ofN (n := (v.2.2.1 (v.2.1 4 2 j)).length) (by omega)
    refine c_iconst ?_
    refine c_icmpk_ge (k := 3) rfl (fun d2 => ?_) (fun d2 => ?_)
    · skip
      refine BC.blk c33_33 (fun m4 hm4 => ?_)
      refine c_iconst ?_
      refine c_goto ?_
      refine BC.blk c33_34 (fun m5 hm5 => ?_)
      exact c_zret ⟨by rw [chv, decide_eq_false (by omega), Bool.and_false]; rfl, rfl⟩
    · skip
      refine c_aload rfl ?_
      refine c_gfr (fun _ C _ => C.r rfl) ?_
      refine c_iload rfl ?_
      refine d_callv cr_rs (e21) ?_
      refine c_if_ne (fun d3 => ?_) (fun d3 => ?_)
      · skip
        refine BC.blk c33_33 (fun m6 hm6 => ?_)
        refine c_iconst ?_
        refine c_goto ?_
        refine BC.blk c33_34 (fun m7 hm7 => ?_)
        exact c_zret ⟨by rw [chv, decide_eq_true (b2i1.mp d3), Bool.not_true, Bool.and_false]; rfl, rfl⟩
      · skip
        refine c_iconst ?_
        refine c_goto ?_
        refine BC.blk c33_34 (fun m8 hm8 => ?_)
        exact c_zret ⟨by rw [chv, show (v.1 4 1 j == 0) = true by simp only [beq_iff_eq]; exact d1, decide_eq_true (by omega), decide_eq_false (b2i0.mp d3)]; rfl, rfl⟩
theorem e22 {v : vS} {j : Nat} {x : Int32} : ED CR 22 [rf 3 j, .inl x] v (oi (bI (iah v j x).isSome)) (v) := by
  refine EC.mk (fun n0 => ?_)
  show BC _ n0 22 0 [rf 3 j, .inl x, rf 0 0] [] _ _
  refine BC.blk c22_0 (fun m1 hm1 => ?_)
  refine c_iconst ?_
  refine c_istore rfl ?_
  refine c_goto ?_
  have lp2 : ∀ (n : Nat) (i : Nat), i ≤ 4 → BC CR n 22 2 [rf 3 j, .inl x, .inl (Int32.ofNat i)] [] v (fun o t => o = oi (bI (fnd (fun h => decide (x ∈ v.2.2.1 (30 * (j - 1) + 3 + h))) i (4 - i)).isSome) ∧ t = v) := by
    intro n2
    induction n2 using Nat.strongRecOn with
    | ind n2 ih2 =>
      intro i hi
      have o1 := ofN (n := i) (by omega)
      refine BC.blk c22_2 (fun m2 hm2 => ?_)
      refine c_iload rfl ?_
      refine c_iconst ?_
      refine c_icmpk_ge (k := 4) rfl (fun d1 => ?_) (fun d1 => ?_)
      · skip
        refine BC.blk c22_28 (fun m3 hm3 => ?_)
        refine c_iconst ?_
        exact c_zret ⟨by rw [fnd_end (by omega)]; rfl, rfl⟩
      · skip
        refine c_aload rfl ?_
        refine c_gfr (fun _ C l => C.r3 (k := 4) rfl l) ?_
        refine c_iload rfl ?_
        refine c_aald (fun _ C l i9 => ⟨(C.a19 l i9).1, (C.a19 l i9).2.trans (by rw [o1.2])⟩) (fun p1 => ?_)
        refine c_iload rfl ?_
        refine d_callv cr_rs (e21) ?_
        refine c_if_eq (fun d2 => ?_) (fun d2 => ?_)
        · skip
          refine BC.blk c22_22 (fun m4 hm4 => ?_)
          refine c_iincN (i := i) (k := 1) rfl rfl rfl ?_
          refine c_goto ?_
          rw [fnd_no (by omega) (decide_eq_false (b2i0.mp d2))]
          exact ih2 m4 (by omega) (i + 1) (by omega)
        · skip
          refine c_iconst ?_
          exact c_zret ⟨by rw [fnd_yes (by omega) (decide_eq_true (b2i1.mp d2))]; rfl, rfl⟩
  exact lp2 m1 0 (by omega)
theorem e27 {v : vS} {j r : Nat} {y : Int32} : ED CR 27 [rf 3 j, rf 5 r, .inl y] v (oi (ff v j r y)) (v) := by
  refine EC.mk (fun n0 => ?_)
  show BC _ n0 27 0 [rf 3 j, rf 5 r, .inl y, rf 0 0, rf 0 0] [] _ _
  refine BC.blk c27_0 (fun m1 hm1 => ?_)
  refine c_iconst ?_
  refine c_istore rfl ?_
  refine c_goto ?_
  have lp2 : ∀ (n : Nat) (i : Nat) (z4 : xV), i ≤ 1000 → BC CR n 27 2 [rf 3 j, rf 5 r, .inl y, .inl (Int32.ofNat i), z4] [] v (fun o t => o = oi (oN (fun i => rat (v.2.2.1 r) (Int32.ofNat i)) y (fnd (ffp v j r) i ((v.2.2.1 r).length - i))) ∧ t = v) := by
    intro n2
    induction n2 using Nat.strongRecOn with
    | ind n2 ih2 =>
      intro i z4 hi
      have o1 := ofN (n := i) (by omega)
      refine BC.blk c27_2 (fun m2 hm2 => ?_)
      refine c_iload rfl ?_
      refine c_aload rfl ?_
      refine d_callvP cr_rs rfl (fun _ C l => And.intro (C.rl l) (C.rlen l)) (fun hr => e24) (fun hr => ?_)
      have o2 := ofN (n := (v.2.2.1 r).length) (by omega)
      refine c_icmp_ge (fun d1 => ?_) (fun d1 => ?_)
      · skip
        refine BC.blk c27_47 (fun m3 hm3 => ?_)
        refine c_iload rfl ?_
        exact c_iret ⟨by rw [fnd_end (by omega)]; rfl, rfl⟩
      · skip
        refine c_aload rfl ?_
        refine c_iload rfl ?_
        refine d_callv cr_rs (e23) ?_
        refine c_istore rfl ?_
        refine c_iload rfl ?_
        refine d_calln cr_rs (e26) ?_
        refine c_if_eq (fun d2 => ?_) (fun d2 => ?_)
        · skip
          refine BC.blk c27_41 (fun m4 hm4 => ?_)
          refine c_iincN (i := i) (k := 1) rfl rfl rfl ?_
          refine c_goto ?_
          rw [fnd_no (by omega) (show ffp v j r i = false by rw [ffp, isl, decide_eq_false (b2i0.mp d2)]; rfl)]
          exact ih2 m4 (by omega) (i + 1) _ (by omega)
        · skip
          refine c_aload rfl ?_
          refine c_gfr (fun _ C l => C.r3 (k := 1) rfl l) ?_
          refine c_iload rfl ?_
          refine c_aald (fun _ C l i => C.a16 l i) (fun p1 => ?_)
          refine d_callv cr_rs (e11) ?_
          refine c_if_eq (fun d3 => ?_) (fun d3 => ?_)
          · skip
            refine BC.blk c27_41 (fun m5 hm5 => ?_)
            refine c_iincN (i := i) (k := 1) rfl rfl rfl ?_
            refine c_goto ?_
            rw [fnd_no (by omega) (show ffp v j r i = false by rw [ffp, frb, decide_eq_false (b2i0.mp d3), Bool.and_false])]
            exact ih2 m5 (by omega) (i + 1) _ (by omega)
          · skip
            refine c_iload rfl ?_
            exact c_iret ⟨by rw [fnd_yes (by omega) (show ffp v j r i = true by rw [ffp, isl, decide_eq_true (b2i1.mp d2), frb, decide_eq_true (b2i1.mp d3)]; rfl)]; rfl, rfl⟩
  exact lp2 m1 0 _ (by omega)
theorem e28 {v : vS} {j : Nat} {x : Int32} : ED CR 28 [rf 3 j, .inl x] v (oi (hfr v j x)) (v) := by
  refine EC.mk (fun n0 => ?_)
  show BC _ n0 28 0 [rf 3 j, .inl x, rf 0 0] [] _ _
  refine BC.blk c28_0 (fun m1 hm1 => ?_)
  refine c_iconst ?_
  refine c_istore rfl ?_
  refine c_goto ?_
  have lp2 : ∀ (n : Nat) (i : Nat), i ≤ 4 → BC CR n 28 2 [rf 3 j, .inl x, .inl (Int32.ofNat i)] [] v (fun o t => o = oi (oN (fun h => ff v j (30 * (j - 1) + 3 + h) x) x (fnd (fun h => rat (v.2.2.1 (30 * (j - 1) + 3 + h)) 0 == x) i (4 - i))) ∧ t = v) := by
    intro n2
    induction n2 using Nat.strongRecOn with
    | ind n2 ih2 =>
      intro i hi
      have o1 := ofN (n := i) (by omega)
      refine BC.blk c28_2 (fun m2 hm2 => ?_)
      refine c_iload rfl ?_
      refine c_iconst ?_
      refine c_icmpk_ge (k := 4) rfl (fun d1 => ?_) (fun d1 => ?_)
      · skip
        refine BC.blk c28_39 (fun m3 hm3 => ?_)
        refine c_iload rfl ?_
        exact c_iret ⟨by rw [fnd_end (by omega)]; rfl, rfl⟩
      · skip
        refine c_aload rfl ?_
        refine c_gfr (fun _ C l => C.r3 (k := 4) rfl l) ?_
        refine c_iload rfl ?_
        refine c_aald (fun _ C l i9 => ⟨(C.a19 l i9).1, (C.a19 l i9).2.trans (by rw [o1.2])⟩) (fun p1 => ?_)
        refine c_iconst ?_
        refine d_callv cr_rs (e23) ?_
        refine c_iload rfl ?_
        refine c_icmp_ne (fun d2 => ?_) (fun d2 => ?_)
        · skip
          refine BC.blk c28_33 (fun m4 hm4 => ?_)
          refine c_iincN (i := i) (k := 1) rfl rfl rfl ?_
          refine c_goto ?_
          rw [fnd_no (by omega) (by simp only [beq_eq_false_iff_ne]; exact d2)]
          exact ih2 m4 (by omega) (i + 1) (by omega)
        · skip
          refine c_aload rfl ?_
          refine c_aload rfl ?_
          refine c_gfr (fun _ C l => C.r3 (k := 4) rfl l) ?_
          refine c_iload rfl ?_
          refine c_aald (fun _ C l i9 => ⟨(C.a19 l i9).1, (C.a19 l i9).2.trans (by rw [o1.2])⟩) (fun p2 => ?_)
          refine c_iload rfl ?_
          refine d_callv cr_rs (e27) ?_
          exact c_iret ⟨by rw [fnd_yes (by omega) (by simp only [beq_iff_eq]; exact d2)]; rfl, rfl⟩
  exact lp2 m1 0 (by omega)
theorem e29 {v : vS} {j : Nat} {x y : Int32} (hx : 0 ≤ x.toInt ∧ x.toInt ≤ 33) : ED CR 29 [rf 3 j, .inl x, .inl y] v (oi (fidl v j x.toNatClampNeg y.toInt.toNat)) (v) := by
  have cx := x_clamp hx.1
  refine EC.mk (fun n0 => ?_)
  show BC _ n0 29 0 [rf 3 j, .inl x, .inl y, rf 0 0] [] _ _
  refine BC.blk c29_0 (fun m1 hm1 => ?_)
  refine c_iload rfl ?_
  refine c_istore rfl ?_
  refine c_goto ?_
  have lp2 : ∀ (n : Nat) (i : Nat), i ≤ 33 → BC CR n 29 2 [rf 3 j, .inl x, .inl y, .inl (Int32.ofNat i)] [] v (fun o t => o = oi (oN Int32.ofNat (-1) (fnd (fun p => v.2.1 17 j p == 0) i (y.toInt.toNat - i))) ∧ t = v) := by
    intro n2
    induction n2 using Nat.strongRecOn with
    | ind n2 ih2 =>
      intro i hi
      have o1 := ofN (n := i) (by omega)
      refine BC.blk c29_2 (fun m2 hm2 => ?_)
      refine c_iload rfl ?_
      refine c_iload rfl ?_
      refine c_icmp_ge (fun d1 => ?_) (fun d1 => ?_)
      · skip
        refine BC.blk c29_24 (fun m3 hm3 => ?_)
        refine c_iconst ?_
        exact c_iret ⟨by rw [fnd_end (by omega)]; rfl, rfl⟩
      · skip
        refine c_aload rfl ?_
        refine c_gfr (fun _ C l => C.r3 (k := 2) rfl l) ?_
        refine c_iload rfl ?_
        refine c_aald (fun _ C l i9 => ⟨(C.a17 l i9).1, (C.a17 l i9).2.trans (by rw [o1.2])⟩) (fun p1 => ?_)
        refine c_ifnonnull (fun d2 => ?_) (fun d2 => ?_)
        · skip
          refine BC.blk c29_18 (fun m4 hm4 => ?_)
          refine c_iincN (i := i) (k := 1) rfl rfl rfl ?_
          refine c_goto ?_
          rw [fnd_no (by omega) (by simp only [beq_eq_false_iff_ne]; exact d2)]
          exact ih2 m4 (by omega) (i + 1) (by omega)
        · skip
          refine c_iload rfl ?_
          exact c_iret ⟨by rw [fnd_yes (by omega) (by simp only [beq_iff_eq]; exact d2)]; rfl, rfl⟩
  have e9 := lp2 m1 x.toNatClampNeg (by omega)
  rw [← i32_nat hx.1] at e9
  exact e9
theorem e30 {v : vS} {j : Nat} {x y : Int32} (hx : 0 ≤ x.toInt ∧ x.toInt ≤ 33) : ED CR 30 [rf 3 j, .inl x, .inl y] v (oi (Int32.ofNat (cidl v j x.toNatClampNeg y.toInt.toNat))) (v) := by
  have cx := x_clamp hx.1
  refine EC.mk (fun n0 => ?_)
  show BC _ n0 30 0 [rf 3 j, .inl x, .inl y, rf 0 0, rf 0 0] [] _ _
  refine BC.blk c30_0 (fun m1 hm1 => ?_)
  refine c_iconst ?_
  refine c_istore rfl ?_
  refine c_iload rfl ?_
  refine c_istore rfl ?_
  refine c_goto ?_
  have lp5 : ∀ (n : Nat) (k i : Nat), i ≤ 33 → BC CR n 30 5 [rf 3 j, .inl x, .inl y, .inl (Int32.ofNat k), .inl (Int32.ofNat i)] [] v (fun o t => o = oi (Int32.ofNat (k + cnt (fun p => v.2.1 17 j p == 0) i (y.toInt.toNat - i))) ∧ t = v) := by
    intro n5
    induction n5 using Nat.strongRecOn with
    | ind n5 ih5 =>
      intro k i hi
      have o1 := ofN (n := i) (by omega)
      refine BC.blk c30_5 (fun m2 hm2 => ?_)
      refine c_iload rfl ?_
      refine c_iload rfl ?_
      refine c_icmp_ge (fun d1 => ?_) (fun d1 => ?_)
      · skip
        refine BC.blk c30_30 (fun m3 hm3 => ?_)
        refine c_iload rfl ?_
        exact c_iret ⟨by rw [cnt_end (by omega)]; rfl, rfl⟩
      · skip
        refine c_aload rfl ?_
        refine c_gfr (fun _ C l => C.r3 (k := 2) rfl l) ?_
        refine c_iload rfl ?_
        refine c_aald (fun _ C l i9 => ⟨(C.a17 l i9).1, (C.a17 l i9).2.trans (by rw [o1.2])⟩) (fun p1 => ?_)
        refine c_ifnonnull (fun d2 => ?_) (fun d2 => ?_)
        · skip
          refine BC.blk c30_24 (fun m4 hm4 => ?_)
          refine c_iincN (i := i) (k := 1) rfl rfl rfl ?_
          refine c_goto ?_
          rw [cnt_no (by omega) (by simp only [beq_eq_false_iff_ne]; exact d2)]
          exact ih5 m4 (by omega) k (i + 1) (by omega)
        · skip
          refine c_iincN (i := k) (k := 1) rfl rfl rfl ?_
          refine c_goto ?_
          refine BC.blk c30_24 (fun m5 hm5 => ?_)
          refine c_iincN (i := i) (k := 1) rfl rfl rfl ?_
          refine c_goto ?_
          rw [cnt_yes (by omega) (by simp only [beq_iff_eq]; exact d2), ← Nat.add_assoc]
          exact ih5 m5 (by omega) (k + 1) (i + 1) (by omega)
  have e9 := lp5 m1 0 x.toNatClampNeg (by omega)
  rw [← i32_nat hx.1, Nat.zero_add] at e9
  exact e9
theorem e31 {v : vS} {j l s : Nat} {b : Int32} (hs : s ≤ 4) : ED CR 31 [rf 3 j, rf 2 l, .inl (Int32.ofNat s), .inl b] v (oi (ilk v j l s b)) (v) := by
  refine EC.mk (fun n0 => ?_)
  show BC _ n0 31 0 [rf 3 j, rf 2 l, .inl (Int32.ofNat s), .inl b, rf 0 0, rf 0 0] [] _ _
  refine BC.blk c31_0 (fun m1 hm1 => ?_)
  refine c_iload rfl ?_
  refine c_istore rfl ?_
  refine c_goto ?_
  have lp3 : ∀ (n : Nat) (i : Nat) (z5 : xV), i ≤ 4 → BC CR n 31 3 [rf 3 j, rf 2 l, .inl (Int32.ofNat s), .inl b, .inl (Int32.ofNat i), z5] [] v (fun o t => o = oi (oN (lnk v j l) (-1) (fnd (ilp v j l b) i (4 - i))) ∧ t = v) := by
    intro n3
    induction n3 using Nat.strongRecOn with
    | ind n3 ih3 =>
      intro i z5 hi
      have o1 := ofN (n := i) (by omega)
      refine BC.blk c31_3 (fun m2 hm2 => ?_)
      refine c_iload rfl ?_
      refine c_iconst ?_
      refine c_icmpk_ge (k := 4) rfl (fun d1 => ?_) (fun d1 => ?_)
      · skip
        refine BC.blk c31_50 (fun m3 hm3 => ?_)
        refine c_iconst ?_
        exact c_iret ⟨by rw [fnd_end (by omega)]; rfl, rfl⟩
      · skip
        refine c_aload rfl ?_
        refine d_callv cr_rs (e10) ?_
        refine c_aload rfl ?_
        refine c_gfi (fun _ C _ => C.i rfl) ?_
        refine c_iload rfl ?_
        refine c_bin rfl ?_
        refine c_iconst ?_
        refine c_irem rfl ?_
        refine c_bin rfl ?_
        refine c_istore rfl ?_
        refine c_iload rfl ?_
        refine c_iload rfl ?_
        refine c_icmp_eq (fun d2 => ?_) (fun d2 => ?_)
        · skip
          refine BC.blk c31_44 (fun m4 hm4 => ?_)
          refine c_iincN (i := i) (k := 1) rfl rfl rfl ?_
          refine c_goto ?_
          rw [fnd_no (by omega) (show ilp v j l b i = false by rw [ilp, show (lnk v j l i == b) = true by simp only [beq_iff_eq]; exact d2]; rfl)]
          exact ih3 m4 (by omega) (i + 1) _ (by omega)
        · skip
          refine c_aload rfl ?_
          refine c_gfr (fun _ C l => C.r3 (k := 2) rfl l) ?_
          refine c_iload rfl ?_
          refine c_aald (fun _ C l i => C.a17 l i) (fun p1 => ?_)
          refine c_ifnonnull (fun d3 => ?_) (fun d3 => ?_)
          · skip
            refine BC.blk c31_44 (fun m5 hm5 => ?_)
            refine c_iincN (i := i) (k := 1) rfl rfl rfl ?_
            refine c_goto ?_
            rw [fnd_no (by omega) (show ilp v j l b i = false by rw [ilp, show (v.2.1 17 j (lnk v j l i).toNatClampNeg == 0) = false by simp only [beq_eq_false_iff_ne]; exact d3, Bool.and_false])]
            exact ih3 m5 (by omega) (i + 1) _ (by omega)
          · skip
            refine c_iload rfl ?_
            exact c_iret ⟨by rw [fnd_yes (by omega) (show ilp v j l b i = true by rw [ilp, show (lnk v j l i == b) = false by simp only [beq_eq_false_iff_ne]; exact d2, show (v.2.1 17 j (lnk v j l i).toNatClampNeg == 0) = true by simp only [beq_iff_eq]; exact d3]; rfl)]; rfl, rfl⟩
  exact lp3 m1 s _ hs
theorem e68 {v : vS} {x y : Int32} : ED CR 68 [rf 7 1, .inl x, .inl y] v (oi (fitr v x y)) (v) := by
  refine EC.mk (fun n0 => ?_)
  show BC _ n0 68 0 [rf 7 1, .inl x, .inl y, rf 0 0] [] _ _
  refine BC.blk c68_0 (fun m1 hm1 => ?_)
  refine c_iconst ?_
  refine c_istore rfl ?_
  refine c_goto ?_
  have lp2 : ∀ (n : Nat) (i : Nat), i ≤ 16 → BC CR n 68 2 [rf 7 1, .inl x, .inl y, .inl (Int32.ofNat i)] [] v (fun o t => o = oi (oN Int32.ofNat (-1) (fnd (fun t => trd v t && ten v x t && ten v y t) i (tcn v - i))) ∧ t = v) := by
    intro n2
    induction n2 using Nat.strongRecOn with
    | ind n2 ih2 =>
      intro i hi
      have o1 := ofN (n := i) (by omega)
      have oq : tcn v = (v.1 7 4 1).toInt.toNat := rfl
      refine BC.blk c68_2 (fun m2 hm2 => ?_)
      refine c_iload rfl ?_
      refine c_aload rfl ?_
      refine c_gfi (fun _ C _ => C.i rfl) ?_
      refine c_icmp_ge (fun d1 => ?_) (fun d1 => ?_)
      · skip
        refine BC.blk c68_56 (fun m3 hm3 => ?_)
        refine c_iconst ?_
        exact c_iret ⟨by rw [fnd_end (by omega)]; rfl, rfl⟩
      · skip
        refine c_aload rfl ?_
        refine c_gfr (fun _ C l => C.r7 (k := 2) (by decide) l) ?_
        refine c_iload rfl ?_
        refine c_aald (fun _ C l i9 => ⟨(C.a13 l i9).1, (C.a13 l i9).2.trans (by rw [o1.2])⟩) (fun p1 => ?_)
        refine d_callv cr_rs (e41) ?_
        refine c_if_eq (fun d2 => ?_) (fun d2 => ?_)
        · skip
          refine BC.blk c68_50 (fun m4 hm4 => ?_)
          refine c_iincN (i := i) (k := 1) rfl rfl rfl ?_
          refine c_goto ?_
          rw [fnd_no (by omega) (show (trd v i && ten v x i && ten v y i) = false by rw [trd, decide_eq_false (b2i0.mp d2)]; rfl)]
          exact ih2 m4 (by omega) (i + 1) (by omega)
        · skip
          refine c_aload rfl ?_
          refine c_gfr (fun _ C l => C.r7 (k := 2) (by decide) l) ?_
          refine c_iload rfl ?_
          refine c_aald (fun _ C l i9 => ⟨(C.a13 l i9).1, (C.a13 l i9).2.trans (by rw [o1.2])⟩) (fun p2 => ?_)
          refine c_iload rfl ?_
          refine d_callv cr_rs (e42) ?_
          refine c_if_eq (fun d3 => ?_) (fun d3 => ?_)
          · skip
            refine BC.blk c68_50 (fun m5 hm5 => ?_)
            refine c_iincN (i := i) (k := 1) rfl rfl rfl ?_
            refine c_goto ?_
            rw [fnd_no (by omega) (show (trd v i && ten v x i && ten v y i) = false by rw [show ten v x i = false from decide_eq_false (b2i0.mp d3), Bool.and_false]; rfl)]
            exact ih2 m5 (by omega) (i + 1) (by omega)
          · skip
            refine c_aload rfl ?_
            refine c_gfr (fun _ C l => C.r7 (k := 2) (by decide) l) ?_
            refine c_iload rfl ?_
            refine c_aald (fun _ C l i9 => ⟨(C.a13 l i9).1, (C.a13 l i9).2.trans (by rw [o1.2])⟩) (fun p3 => ?_)
            refine c_iload rfl ?_
            refine d_callv cr_rs (e42) ?_
            refine c_if_eq (fun d4 => ?_) (fun d4 => ?_)
            · skip
              refine BC.blk c68_50 (fun m6 hm6 => ?_)
              refine c_iincN (i := i) (k := 1) rfl rfl rfl ?_
              refine c_goto ?_
              rw [fnd_no (by omega) (show (trd v i && ten v x i && ten v y i) = false by rw [show ten v y i = false from decide_eq_false (b2i0.mp d4), Bool.and_false])]
              exact ih2 m6 (by omega) (i + 1) (by omega)
            · skip
              refine c_iload rfl ?_
              exact c_iret ⟨by rw [fnd_yes (by omega) (show (trd v i && ten v x i && ten v y i) = true by rw [trd, ten, ten, decide_eq_true (b2i1.mp d2), decide_eq_true (b2i1.mp d3), decide_eq_true (b2i1.mp d4)]; rfl)]; rfl, rfl⟩
  exact lp2 m1 0 (by omega)
theorem e86 {v : vS} {x : Int32} : ED CR 86 [rf 7 1, .inl x] v (oi (Int32.ofNat (citr v x))) (v) := by
  refine EC.mk (fun n0 => ?_)
  show BC _ n0 86 0 [rf 7 1, .inl x, rf 0 0, rf 0 0] [] _ _
  refine BC.blk c86_0 (fun m1 hm1 => ?_)
  refine c_iconst ?_
  refine c_istore rfl ?_
  refine c_iconst ?_
  refine c_istore rfl ?_
  refine c_goto ?_
  have lp4 : ∀ (n : Nat) (k i : Nat), i ≤ 16 → BC CR n 86 4 [rf 7 1, .inl x, .inl (Int32.ofNat k), .inl (Int32.ofNat i)] [] v (fun o t => o = oi (Int32.ofNat (k + cnt (fun t => trd v t && ten v x t) i (tcn v - i))) ∧ t = v) := by
    intro n4
    induction n4 using Nat.strongRecOn with
    | ind n4 ih4 =>
      intro k i hi
      have o1 := ofN (n := i) (by omega)
      have oq : tcn v = (v.1 7 4 1).toInt.toNat := rfl
      refine BC.blk c86_4 (fun m2 hm2 => ?_)
      refine c_iload rfl ?_
      refine c_aload rfl ?_
      refine c_gfi (fun _ C _ => C.i rfl) ?_
      refine c_icmp_ge (fun d1 => ?_) (fun d1 => ?_)
      · skip
        refine BC.blk c86_46 (fun m3 hm3 => ?_)
        refine c_iload rfl ?_
        exact c_iret ⟨by rw [cnt_end (by omega)]; rfl, rfl⟩
      · skip
        refine c_aload rfl ?_
        refine c_gfr (fun _ C l => C.r7 (k := 2) (by decide) l) ?_
        refine c_iload rfl ?_
        refine c_aald (fun _ C l i9 => ⟨(C.a13 l i9).1, (C.a13 l i9).2.trans (by rw [o1.2])⟩) (fun p1 => ?_)
        refine d_callv cr_rs (e41) ?_
        refine c_if_eq (fun d2 => ?_) (fun d2 => ?_)
        · skip
          refine BC.blk c86_40 (fun m4 hm4 => ?_)
          refine c_iincN (i := i) (k := 1) rfl rfl rfl ?_
          refine c_goto ?_
          rw [cnt_no (by omega) (show (trd v i && ten v x i) = false by rw [trd, decide_eq_false (b2i0.mp d2)]; rfl)]
          exact ih4 m4 (by omega) k (i + 1) (by omega)
        · skip
          refine c_aload rfl ?_
          refine c_gfr (fun _ C l => C.r7 (k := 2) (by decide) l) ?_
          refine c_iload rfl ?_
          refine c_aald (fun _ C l i9 => ⟨(C.a13 l i9).1, (C.a13 l i9).2.trans (by rw [o1.2])⟩) (fun p2 => ?_)
          refine c_iload rfl ?_
          refine d_callv cr_rs (e42) ?_
          refine c_if_eq (fun d3 => ?_) (fun d3 => ?_)
          · skip
            refine BC.blk c86_40 (fun m5 hm5 => ?_)
            refine c_iincN (i := i) (k := 1) rfl rfl rfl ?_
            refine c_goto ?_
            rw [cnt_no (by omega) (show (trd v i && ten v x i) = false by rw [show ten v x i = false from decide_eq_false (b2i0.mp d3), Bool.and_false])]
            exact ih4 m5 (by omega) k (i + 1) (by omega)
          · skip
            refine c_iincN (i := k) (k := 1) rfl rfl rfl ?_
            refine c_goto ?_
            refine BC.blk c86_40 (fun m6 hm6 => ?_)
            refine c_iincN (i := i) (k := 1) rfl rfl rfl ?_
            refine c_goto ?_
            rw [cnt_yes (by omega) (show (trd v i && ten v x i) = true by rw [trd, ten, decide_eq_true (b2i1.mp d2), decide_eq_true (b2i1.mp d3)]; rfl), ← Nat.add_assoc]
            exact ih4 m6 (by omega) (k + 1) (i + 1) (by omega)
  have e9 := lp4 m1 0 0 (by omega)
  rw [Nat.zero_add] at e9
  exact e9
