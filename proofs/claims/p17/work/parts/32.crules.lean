/-! RULES OVER THE CLASS'S INVARIANT: the heap, what is read and what comes back are named anew -/
theorem i32_lt {x y : Int32} : x < y ↔ x.toInt < y.toInt := Int32.lt_iff_toInt_lt
theorem i32_le {x y : Int32} : x ≤ y ↔ x.toInt ≤ y.toInt := Int32.le_iff_toInt_le
theorem i32_eq {x y : Int32} : x = y ↔ x.toInt = y.toInt := ⟨fun h => by rw [h], fun h => Int32.toInt_inj.mp h⟩
theorem i32_0 : (0 : Int32).toInt = 0 := rfl
/-- the kinds of the reference, of the law -/
def xm_k (K : Nat) : Bool := K == 8 || K == 10 || decide (21 ≤ K)
/-- how many there are of each kind, and the reference's part of the heap -/
abbrev xP : Type := (Nat → Nat) × (Nat → Option ((Nat → Nat → Int32) × (Nat → Nat → Nat) × (Nat → Nat)))
def x_mp (h : xH) : Nat → Option ((Nat → Nat → Int32) × (Nat → Nat → Nat) × (Nat → Nat)) := fun K => if xm_k K = true then some (x_vi h K, x_vr h K, x_ln h K) else none
def x_pj (h : xH) : xP := (x_cn h, x_mp h)
theorem x_pj_puti {h : xH} {K k i : Nat} {v : Int32} (hK : xm_k K = false) : x_pj (x_puti h K k i v) = x_pj h := by
  refine congrArg (Prod.mk (x_cn h)) (funext fun K' => ?_)
  unfold x_mp
  by_cases e : xm_k K' = true
  · rw [if_pos e, if_pos e]
    refine congrArg some (congrArg (fun f => (f, x_vr h K', x_ln h K')) ?_)
    funext a b
    rw [x_vi_puti, if_neg]
    rintro ⟨rfl, -⟩
    rw [hK] at e
    cases e
  · rw [if_neg e, if_neg e]
theorem x_pj_putr {h : xH} {K k i v : Nat} (hK : xm_k K = false) : x_pj (x_putr h K k i v) = x_pj h := by
  refine congrArg (Prod.mk (x_cn h)) (funext fun K' => ?_)
  unfold x_mp
  by_cases e : xm_k K' = true
  · rw [if_pos e, if_pos e]
    refine congrArg some (congrArg (fun f => (x_vi h K', f, x_ln h K')) ?_)
    funext a b
    rw [x_vr_putr, if_neg]
    rintro ⟨rfl, -⟩
    rw [hK] at e
    cases e
  · rw [if_neg e, if_neg e]
/-- there, by the counts c -/
def L (c : xP) (K j : Nat) : Prop := 1 ≤ j ∧ j ≤ c.1 K
/-- the invariant, with the counts, and what the method has made so far -/
def VI (c : xP) (a b : Nat) (h : xH) : Prop := CI h ∧ x_pj h = c ∧ x_ce h = a ∧ x_so h = b
theorem VI.cn {c : xP} {a b : Nat} {h : xH} (V : VI c a b h) : x_cn h = c.1 := congrArg Prod.fst V.2.1
theorem VI.lv {c : xP} {a b : Nat} {h : xH} (V : VI c a b h) {K j : Nat} (hj : L c K j) : x_live h K j := ⟨hj.1, by rw [V.cn]; exact hj.2⟩
theorem VI.of {c : xP} {a b : Nat} {h : xH} (V : VI c a b h) {K j : Nat} (hj : x_live h K j) : L c K j := ⟨hj.1, by rw [← V.cn]; exact hj.2⟩
theorem VI.nn {c : xP} {a b : Nat} {h : xH} (V : VI c a b h) {K k j : Nat} (hm : (K, k) ∈ x_nnl) (hj : L c K j) : L c (x_ft K k) (x_vr h K k j) := V.of (V.1.1 K k j hm (V.lv hj))
theorem VI.nu {c : xP} {a b : Nat} {h : xH} (V : VI c a b h) {K k j : Nat} (hm : (K, k) ∈ x_nul) (hj : L c K j) : x_vr h K k j ≤ c.1 (x_ft K k) := by rw [← V.cn]; exact V.1.2.1 K k j hm (V.lv hj)
theorem VI.rg {c : xP} {a b : Nat} {h : xH} (V : VI c a b h) {K k j : Nat} {lo hi : Int} (hm : (K, k, lo, hi) ∈ x_rgl) (hj : L c K j) : lo ≤ (x_vi h K k j).toInt ∧ (x_vi h K k j).toInt ≤ hi := V.1.2.2.1 K k lo hi j hm (V.lv hj)
theorem VI.ln {c : xP} {a b : Nat} {h : xH} (V : VI c a b h) {K L' j : Nat} (hm : (K, L') ∈ x_lnl) (hj : L c K j) : x_ln h K j = L' := V.1.2.2.2.1 K L' j hm (V.lv hj)
theorem VI.inn {c : xP} {a b : Nat} {h : xH} (V : VI c a b h) {K L' j : Nat} {i : Int32} (hm : (K, L') ∈ x_lnl) (hj : L c K j) (h0 : 0 ≤ i.toInt) (h1 : i.toInt < L') : x_in h K j i := ⟨h0, by rw [V.ln hm hj]; exact h1⟩
theorem VI.cnt {c : xP} {a b : Nat} {h : xH} (V : VI c a b h) {K n : Nat} (hm : (K, n) ∈ x_cnl) : c.1 K = n := by rw [← V.cn]; exact V.1.2.2.2.2.2.2.1 K n hm
theorem VI.set {c : xP} {a b a' b' : Nat} {h : xH} (V : VI c a b h) : VI c a' b' (x_setc h a' b') := ⟨V.1, V.2.1, rfl, rfl⟩
section XV
variable {nx n : Nat} {r : List (Nat × xI)} {Z : xO → xH → Prop} {J : Nat → xS → Prop} {ls st : List xV} {h : xH} {c : xP} {a b : Nat} {Γ : xG}
theorem v_gfrn {K k T j : Nat} (V : VI c a b h) (hm : (K, k) ∈ x_nnl) (hT : x_ft K k = T) (hj : L c K j) (kk : ∀ j', L c T j' → x_seq r Γ Z J (ls, .inr (.inr (T, j')) :: st, h)) : x_seq ((nx, x_gfr K k T) :: r) Γ Z J (ls, .inr (.inr (K, j)) :: st, h) :=
  q_gfr (V.lv hj) (kk _ (hT ▸ V.nn hm hj))
theorem v_gfru {K k T j : Nat} (V : VI c a b h) (hm : (K, k) ∈ x_nul) (hT : x_ft K k = T) (hj : L c K j) (kk : ∀ j', j' ≤ c.1 T → x_seq r Γ Z J (ls, .inr (.inr (T, j')) :: st, h)) : x_seq ((nx, x_gfr K k T) :: r) Γ Z J (ls, .inr (.inr (K, j)) :: st, h) :=
  q_gfr (V.lv hj) (kk _ (hT ▸ V.nu hm hj))
theorem v_gfi {K k j : Nat} (V : VI c a b h) (hj : L c K j) (kk : ∀ v : Int32, x_seq r Γ Z J (ls, .inl v :: st, h)) : x_seq ((nx, x_gfi K k) :: r) Γ Z J (ls, .inr (.inr (K, j)) :: st, h) := q_gfi (V.lv hj) (kk _)
theorem v_gfir {K k j : Nat} {lo hi : Int} (V : VI c a b h) (hm : (K, k, lo, hi) ∈ x_rgl) (hj : L c K j) (kk : ∀ v : Int32, lo ≤ v.toInt ∧ v.toInt ≤ hi → x_seq r Γ Z J (ls, .inl v :: st, h)) : x_seq ((nx, x_gfi K k) :: r) Γ Z J (ls, .inr (.inr (K, j)) :: st, h) := q_gfi (V.lv hj) (kk _ (V.rg hm hj))
theorem v_pfi {K k j : Nat} {m : Int32} (V : VI c a b h) (hm' : xm_k K = false) (hr : ∀ lo hi, (K, k, lo, hi) ∈ x_rgl → lo ≤ m.toInt ∧ m.toInt ≤ hi) (hx : (K == 7 && k == 4 || K == 3 && k == 7 || K == 5 && k == 1) = false) (hj : L c K j) (kk : ∀ g, VI c a b g → x_seq r Γ Z J (ls, st, g)) : x_seq ((nx, x_pfi K k) :: r) Γ Z J (ls, .inl m :: .inr (.inr (K, j)) :: st, h) := by
  refine q_pfi (V.lv hj) (kk _ ⟨V.1.puti hr ?_ ?_ ?_, (x_pj_puti hm').trans V.2.1, V.2.2.1, V.2.2.2⟩) <;> (rintro ⟨rfl, rfl⟩; simp at hx)
theorem v_pfz {K k j : Nat} {m : Int32} (V : VI c a b h) (hm' : xm_k K = false) (hz : m = 0 ∨ m = 1) (hr : ∀ lo hi, (K, k, lo, hi) ∈ x_rgl → lo ≤ m.toInt ∧ m.toInt ≤ hi) (hx : (K == 7 && k == 4 || K == 3 && k == 7 || K == 5 && k == 1) = false) (hj : L c K j) (kk : ∀ g, VI c a b g → x_seq r Γ Z J (ls, st, g)) : x_seq ((nx, x_pfz K k) :: r) Γ Z J (ls, .inl m :: .inr (.inr (K, j)) :: st, h) := by
  refine q_pfz (V.lv hj) hz (kk _ ⟨V.1.puti hr ?_ ?_ ?_, (x_pj_puti hm').trans V.2.1, V.2.2.1, V.2.2.2⟩) <;> (rintro ⟨rfl, rfl⟩; simp at hx)
theorem v_pfr {K k T j j' : Nat} (V : VI c a b h) (hm : (K, k) ∈ x_nul) (hT : x_ft K k = T) (hj : L c K j) (hv : j' ≤ c.1 T) (hm' : xm_k K = false) (kk : ∀ g, VI c a b g → x_seq r Γ Z J (ls, st, g)) : x_seq ((nx, x_pfr K k T) :: r) Γ Z J (ls, .inr (.inr (T, j')) :: .inr (.inr (K, j)) :: st, h) :=
  q_pfr (V.lv hj) (kk _ ⟨V.1.putr hm (by rw [V.cn, hT]; exact hv), (x_pj_putr hm').trans V.2.1, V.2.2.1, V.2.2.2⟩)
/-- an array without null -/
theorem v_aaldn {K T L' j : Nat} {i : Int32} (V : VI c a b h) (hm : (K, L') ∈ x_ael) (hm' : (K, L') ∈ x_lnl) (hT : x_et K = T) (hj : L c K j) (h0 : 0 ≤ i.toInt) (h1 : i.toInt < L') (kk : ∀ j', L c T j' → x_seq r Γ Z J (ls, .inr (.inr (T, j')) :: st, h)) : x_seq ((nx, x_aald K T) :: r) Γ Z J (ls, .inl i :: .inr (.inr (K, j)) :: st, h) := by
  refine q_aald (V.lv hj) (V.inn hm' hj h0 h1) (kk _ ?_)
  have hc := x_clamp h0
  have := V.of (V.1.2.2.2.2.1 K L' j i.toNatClampNeg hm (V.lv hj) (by omega))
  rw [hT] at this
  exact this
/-- the holders -/
theorem v_aald17 {j : Nat} {i : Int32} (V : VI c a b h) (hj : L c 17 j) (h0 : 0 ≤ i.toInt) (h1 : i.toInt < 33) (kk : ∀ j', j' ≤ c.1 1 → x_seq r Γ Z J (ls, .inr (.inr (1, j')) :: st, h)) : x_seq ((nx, x_aald 17 1) :: r) Γ Z J (ls, .inl i :: .inr (.inr (17, j)) :: st, h) := by
  refine q_aald (V.lv hj) (V.inn (L' := 33) (by decide) hj h0 h1) (kk _ ?_)
  rw [← V.cn]
  exact V.1.2.2.2.2.2.1 17 j _ (Or.inr (Or.inl rfl)) (V.lv hj)
theorem v_aast17 {j j' : Nat} {i : Int32} (V : VI c a b h) (hj : L c 17 j) (h0 : 0 ≤ i.toInt) (h1 : i.toInt < 33) (hv : j' ≤ c.1 1) (kk : ∀ g, VI c a b g → x_seq r Γ Z J (ls, st, g)) : x_seq ((nx, x_aast 17 1) :: r) Γ Z J (ls, .inr (.inr (1, j')) :: .inl i :: .inr (.inr (17, j)) :: st, h) :=
  q_aast (V.lv hj) (V.inn (L' := 33) (by decide) hj h0 h1) (kk _ ⟨V.1.put17 (by rw [V.cn]; exact hv), (x_pj_putr rfl).trans V.2.1, V.2.2.1, V.2.2.2⟩)
/-- ints of an array with a fixed length -/
theorem v_ald {K L' j : Nat} {i : Int32} (V : VI c a b h) (hm' : (K, L') ∈ x_lnl) (hj : L c K j) (h0 : 0 ≤ i.toInt) (h1 : i.toInt < L') (kk : ∀ v : Int32, x_seq r Γ Z J (ls, .inl v :: st, h)) : x_seq ((nx, x_ald K) :: r) Γ Z J (ls, .inl i :: .inr (.inr (K, j)) :: st, h) := q_ald (V.lv hj) (V.inn hm' hj h0 h1) (kk _)
theorem v_ast {K L' j : Nat} {i m : Int32} (V : VI c a b h) (hm' : (K, L') ∈ x_lnl) (hK : (K == 7 || K == 3 || K == 5 || xm_k K) = false) (hr : ∀ k lo hi, (K, k, lo, hi) ∉ x_rgl) (hj : L c K j) (h0 : 0 ≤ i.toInt) (h1 : i.toInt < L') (kk : ∀ g, VI c a b g → x_seq r Γ Z J (ls, st, g)) : x_seq ((nx, x_ast K) :: r) Γ Z J (ls, .inl m :: .inl i :: .inr (.inr (K, j)) :: st, h) := by
  refine q_ast (V.lv hj) (V.inn hm' hj h0 h1) (kk _ ⟨V.1.puti (fun lo hi hm => absurd hm (hr _ _ _)) ?_ ?_ ?_, (x_pj_puti (by simp at hK; exact hK.2)).trans V.2.1, V.2.2.1, V.2.2.2⟩) <;> (rintro ⟨rfl, -⟩; simp at hK)
-- comparisons, as of whole numbers
theorem v_if_eq {t : Nat} {x : Int32} (kt : x.toInt = 0 → J t (ls, st, h)) (kf : ¬ x.toInt = 0 → x_seq r Γ Z J (ls, st, h)) : x_seq ((nx, x_if (fun x => x = 0) t) :: r) Γ Z J (ls, .inl x :: st, h) := q_if (fun e => kt (i32_eq.mp e)) (fun e => kf (fun z => e (i32_eq.mpr z)))
theorem v_if_ne {t : Nat} {x : Int32} (kt : ¬ x.toInt = 0 → J t (ls, st, h)) (kf : x.toInt = 0 → x_seq r Γ Z J (ls, st, h)) : x_seq ((nx, x_if (fun x => ¬ x = 0) t) :: r) Γ Z J (ls, .inl x :: st, h) := q_if (fun e => kt (fun z => e (i32_eq.mpr z))) (fun e => kf (i32_eq.mp (Classical.byContradiction e)))
theorem v_if_lt {t : Nat} {x : Int32} (kt : x.toInt < 0 → J t (ls, st, h)) (kf : ¬ x.toInt < 0 → x_seq r Γ Z J (ls, st, h)) : x_seq ((nx, x_if (fun x => x < 0) t) :: r) Γ Z J (ls, .inl x :: st, h) := q_if (fun e => kt (i32_lt.mp e)) (fun e => kf (fun z => e (i32_lt.mpr z)))
theorem v_if_ge {t : Nat} {x : Int32} (kt : 0 ≤ x.toInt → J t (ls, st, h)) (kf : ¬ 0 ≤ x.toInt → x_seq r Γ Z J (ls, st, h)) : x_seq ((nx, x_if (fun x => 0 ≤ x) t) :: r) Γ Z J (ls, .inl x :: st, h) := q_if (fun e => kt (i32_le.mp e)) (fun e => kf (fun z => e (i32_le.mpr z)))
theorem v_if_gt {t : Nat} {x : Int32} (kt : 0 < x.toInt → J t (ls, st, h)) (kf : ¬ 0 < x.toInt → x_seq r Γ Z J (ls, st, h)) : x_seq ((nx, x_if (fun x => 0 < x) t) :: r) Γ Z J (ls, .inl x :: st, h) := q_if (fun e => kt (i32_lt.mp e)) (fun e => kf (fun z => e (i32_lt.mpr z)))
theorem v_if_le {t : Nat} {x : Int32} (kt : x.toInt ≤ 0 → J t (ls, st, h)) (kf : ¬ x.toInt ≤ 0 → x_seq r Γ Z J (ls, st, h)) : x_seq ((nx, x_if (fun x => x ≤ 0) t) :: r) Γ Z J (ls, .inl x :: st, h) := q_if (fun e => kt (i32_le.mp e)) (fun e => kf (fun z => e (i32_le.mpr z)))
theorem v_icmp_eq {t : Nat} {x y : Int32} (kt : x.toInt = y.toInt → J t (ls, st, h)) (kf : ¬ x.toInt = y.toInt → x_seq r Γ Z J (ls, st, h)) : x_seq ((nx, x_icmp (fun x y => x = y) t) :: r) Γ Z J (ls, .inl y :: .inl x :: st, h) := q_icmp (fun e => kt (i32_eq.mp e)) (fun e => kf (fun z => e (i32_eq.mpr z)))
theorem v_icmp_ne {t : Nat} {x y : Int32} (kt : ¬ x.toInt = y.toInt → J t (ls, st, h)) (kf : x.toInt = y.toInt → x_seq r Γ Z J (ls, st, h)) : x_seq ((nx, x_icmp (fun x y => ¬ x = y) t) :: r) Γ Z J (ls, .inl y :: .inl x :: st, h) := q_icmp (fun e => kt (fun z => e (i32_eq.mpr z))) (fun e => kf (i32_eq.mp (Classical.byContradiction e)))
theorem v_icmp_lt {t : Nat} {x y : Int32} (kt : x.toInt < y.toInt → J t (ls, st, h)) (kf : ¬ x.toInt < y.toInt → x_seq r Γ Z J (ls, st, h)) : x_seq ((nx, x_icmp (fun x y => x < y) t) :: r) Γ Z J (ls, .inl y :: .inl x :: st, h) := q_icmp (fun e => kt (i32_lt.mp e)) (fun e => kf (fun z => e (i32_lt.mpr z)))
theorem v_icmp_ge {t : Nat} {x y : Int32} (kt : y.toInt ≤ x.toInt → J t (ls, st, h)) (kf : ¬ y.toInt ≤ x.toInt → x_seq r Γ Z J (ls, st, h)) : x_seq ((nx, x_icmp (fun x y => y ≤ x) t) :: r) Γ Z J (ls, .inl y :: .inl x :: st, h) := q_icmp (fun e => kt (i32_le.mp e)) (fun e => kf (fun z => e (i32_le.mpr z)))
theorem v_icmp_gt {t : Nat} {x y : Int32} (kt : y.toInt < x.toInt → J t (ls, st, h)) (kf : ¬ y.toInt < x.toInt → x_seq r Γ Z J (ls, st, h)) : x_seq ((nx, x_icmp (fun x y => y < x) t) :: r) Γ Z J (ls, .inl y :: .inl x :: st, h) := q_icmp (fun e => kt (i32_lt.mp e)) (fun e => kf (fun z => e (i32_lt.mpr z)))
theorem v_icmp_le {t : Nat} {x y : Int32} (kt : x.toInt ≤ y.toInt → J t (ls, st, h)) (kf : ¬ x.toInt ≤ y.toInt → x_seq r Γ Z J (ls, st, h)) : x_seq ((nx, x_icmp (fun x y => x ≤ y) t) :: r) Γ Z J (ls, .inl y :: .inl x :: st, h) := q_icmp (fun e => kt (i32_le.mp e)) (fun e => kf (fun z => e (i32_le.mpr z)))
end XV
/-- arithmetic without overflow -/
theorem i32_add {x y : Int32} (h1 : -2147483648 ≤ x.toInt + y.toInt) (h2 : x.toInt + y.toInt < 2147483648) : (x + y).toInt = x.toInt + y.toInt := by
  rw [Int32.toInt_add]; exact Int.bmod_eq_of_le (by omega) (by omega)
theorem i32_sub {x y : Int32} (h1 : -2147483648 ≤ x.toInt - y.toInt) (h2 : x.toInt - y.toInt < 2147483648) : (x - y).toInt = x.toInt - y.toInt := by
  rw [Int32.toInt_sub]; exact Int.bmod_eq_of_le (by omega) (by omega)
theorem i32_mul {x y : Int32} (h1 : -2147483648 ≤ x.toInt * y.toInt) (h2 : x.toInt * y.toInt < 2147483648) : (x * y).toInt = x.toInt * y.toInt := by
  rw [Int32.toInt_mul]; exact Int.bmod_eq_of_le (by omega) (by omega)
theorem i32_div {x y : Int32} (h0 : 0 ≤ x.toInt) (h1 : 0 < y.toInt) : (x / y).toInt = x.toInt / y.toInt := by
  rw [Int32.toInt_div, Int.tdiv_eq_ediv_of_nonneg h0]
  have a := Int.ediv_nonneg h0 (Int.le_of_lt h1)
  have b := Int.ediv_le_self y.toInt h0
  have d := x.toInt_lt
  exact Int.bmod_eq_of_le (by omega) (by omega)
theorem i32_rem {x y : Int32} (h0 : 0 ≤ x.toInt) (h1 : 0 < y.toInt) : (x - x / y * y).toInt = x.toInt % y.toInt := by
  rw [rem_toInt, Int.tmod_eq_emod_of_nonneg h0]
section XW
variable {nx n : Nat} {r : List (Nat × xI)} {Z : xO → xH → Prop} {J : Nat → xS → Prop} {ls st : List xV} {h : xH} {Γ : xG}
theorem v_iconst {v : Int32} {k : Int} (hv : v.toInt = k) (kk : ∀ w : Int32, w.toInt = k → x_seq r Γ Z J (ls, .inl w :: st, h)) : x_seq ((nx, x_iconst v) :: r) Γ Z J (ls, st, h) := q_iconst (kk v hv)
theorem v_iinc {a : Nat} {v n : Int32} {k : Int} (hv : v.toInt = k) (ha : ls[a]? = some (.inl n)) (h1 : -2147483648 ≤ n.toInt + k) (h2 : n.toInt + k < 2147483648) (kk : ∀ w : Int32, w.toInt = n.toInt + k → x_seq r Γ Z J (ls.set a (.inl w), st, h)) : x_seq ((nx, x_iinc a v) :: r) Γ Z J (ls, st, h) := q_iinc ha (kk _ (by rw [← hv]; exact i32_add (by rw [hv]; exact h1) (by rw [hv]; exact h2)))
theorem v_iincf {a : Nat} {v n : Int32} (ha : ls[a]? = some (.inl n)) (kk : ∀ w : Int32, x_seq r Γ Z J (ls.set a (.inl w), st, h)) : x_seq ((nx, x_iinc a v) :: r) Γ Z J (ls, st, h) := q_iinc ha (kk _)
theorem v_bin {f : Int32 → Int32 → Int32} {x y : Int32} (kk : ∀ w : Int32, x_seq r Γ Z J (ls, .inl w :: st, h)) : x_seq ((nx, x_bin f) :: r) Γ Z J (ls, .inl y :: .inl x :: st, h) := q_bin (kk _)
theorem v_iadd {x y : Int32} (h1 : -2147483648 ≤ x.toInt + y.toInt ∧ x.toInt + y.toInt < 2147483648) (kk : ∀ w : Int32, w.toInt = x.toInt + y.toInt → x_seq r Γ Z J (ls, .inl w :: st, h)) : x_seq ((nx, x_bin (fun x y => x + y)) :: r) Γ Z J (ls, .inl y :: .inl x :: st, h) := q_bin (kk _ (i32_add h1.1 h1.2))
theorem v_isub {x y : Int32} (h1 : -2147483648 ≤ x.toInt - y.toInt ∧ x.toInt - y.toInt < 2147483648) (kk : ∀ w : Int32, w.toInt = x.toInt - y.toInt → x_seq r Γ Z J (ls, .inl w :: st, h)) : x_seq ((nx, x_bin (fun x y => x - y)) :: r) Γ Z J (ls, .inl y :: .inl x :: st, h) := q_bin (kk _ (i32_sub h1.1 h1.2))
/-- by a constant -/
theorem v_imul {x y : Int32} {k : Int} (hy : y.toInt = k) (h1 : -2147483648 ≤ x.toInt * k ∧ x.toInt * k < 2147483648) (kk : ∀ w : Int32, w.toInt = x.toInt * k → x_seq r Γ Z J (ls, .inl w :: st, h)) : x_seq ((nx, x_bin (fun x y => x * y)) :: r) Γ Z J (ls, .inl y :: .inl x :: st, h) := q_bin (kk _ (by subst hy; exact i32_mul h1.1 h1.2))
theorem v_imul' {x y : Int32} {k : Int} (hx : x.toInt = k) (h1 : -2147483648 ≤ k * y.toInt ∧ k * y.toInt < 2147483648) (kk : ∀ w : Int32, w.toInt = k * y.toInt → x_seq r Γ Z J (ls, .inl w :: st, h)) : x_seq ((nx, x_bin (fun x y => x * y)) :: r) Γ Z J (ls, .inl y :: .inl x :: st, h) := q_bin (kk _ (by subst hx; exact i32_mul h1.1 h1.2))
theorem v_idiv {x y : Int32} {k : Int} (hy : y.toInt = k) (hk : 0 < k) (h0 : 0 ≤ x.toInt) (kk : ∀ w : Int32, w.toInt = x.toInt / k → x_seq r Γ Z J (ls, .inl w :: st, h)) : x_seq ((nx, x_idiv) :: r) Γ Z J (ls, .inl y :: .inl x :: st, h) := by
  subst hy
  refine q_idiv (fun e => ?_) (kk _ (i32_div h0 hk))
  rw [e] at hk
  exact absurd hk (by decide)
theorem v_idivf {x y : Int32} (hy : y.toInt ≠ 0) (kk : ∀ w : Int32, x_seq r Γ Z J (ls, .inl w :: st, h)) : x_seq ((nx, x_idiv) :: r) Γ Z J (ls, .inl y :: .inl x :: st, h) := q_idiv (fun e => hy (by rw [e]; rfl)) (kk _)
theorem v_irem {x y : Int32} {k : Int} (hy : y.toInt = k) (hk : 0 < k) (h0 : 0 ≤ x.toInt) (kk : ∀ w : Int32, w.toInt = x.toInt % k → x_seq r Γ Z J (ls, .inl w :: st, h)) : x_seq ((nx, x_irem) :: r) Γ Z J (ls, .inl y :: .inl x :: st, h) := by
  subst hy
  refine q_irem (fun e => ?_) (kk _ (i32_rem h0 hk))
  rw [e] at hk
  exact absurd hk (by decide)
theorem v_iremf {x y : Int32} (hy : y.toInt ≠ 0) (kk : ∀ w : Int32, x_seq r Γ Z J (ls, .inl w :: st, h)) : x_seq ((nx, x_irem) :: r) Γ Z J (ls, .inl y :: .inl x :: st, h) := q_irem (fun e => hy (by rw [e]; rfl)) (kk _)
end XW
theorem i32_01 {x : Int32} (h : 0 ≤ x.toInt ∧ x.toInt ≤ 1) : x = 0 ∨ x = 1 := by
  rcases (show x.toInt = 0 ∨ x.toInt = 1 by omega) with e | e
  · exact Or.inl (i32_eq.mpr e)
  · exact Or.inr (i32_eq.mpr e)
theorem xC.up {n m μ : Nat} {a : List xV} {h : xH} {Z : xO → xH → Prop} (hc : xC n μ a h Z) (hn : n ≤ m) : xC m μ a h Z := hc.mono hn (fun _ _ z => z)
theorem xR.up {n m μ pc : Nat} {S : xS} {Z : xO → xH → Prop} (hc : xR n μ pc S Z) (hn : n ≤ m) : xR m μ pc S Z := hc.mono hn (fun _ _ z => z)
theorem VI.after {c : xP} {a b mc ms : Nat} {h g : xH} (V : VI c a b h) (hg : CI g ∧ x_pj g = c) : VI c (a + mc) (b + ms) (x_setc g (x_ce h + mc) (x_so h + ms)) := ⟨hg.1, hg.2, by show x_ce h + mc = _; rw [V.2.2.1], by show x_so h + ms = _; rw [V.2.2.2]⟩
theorem x_setc_eta {h : xH} : x_setc (x_setc h 0 0) (x_ce h + 0) (x_so h + 0) = h := rfl
theorem VI.exc {c : xP} {a b d : Nat} {h : xH} (V : VI c a b h) : CI (x_exc h d) ∧ x_pj (x_exc h d) = c := ⟨V.1, V.2.1⟩
section XW2
variable {nx n : Nat} {r : List (Nat × xI)} {Z : xO → xH → Prop} {J : Nat → xS → Prop} {ls st : List xV} {h : xH} {Γ : xG}
theorem v_idivc {x y : Int32} {k : Int} (hy : y.toInt = k) (hk : 0 < k) (kk : ∀ w : Int32, (x.toInt < 0 ∨ w.toInt = x.toInt / k) → x_seq r Γ Z J (ls, .inl w :: st, h)) : x_seq ((nx, x_idiv) :: r) Γ Z J (ls, .inl y :: .inl x :: st, h) := by
  subst hy
  refine q_idiv (fun e => ?_) (kk _ ?_)
  · rw [e] at hk; exact absurd hk (by decide)
  · by_cases h0 : 0 ≤ x.toInt
    · exact Or.inr (i32_div h0 hk)
    · exact Or.inl (by omega)
theorem v_iremc {x y : Int32} {k : Int} (hy : y.toInt = k) (hk : 0 < k) (kk : ∀ w : Int32, (x.toInt < 0 ∨ w.toInt = x.toInt % k) → x_seq r Γ Z J (ls, .inl w :: st, h)) : x_seq ((nx, x_irem) :: r) Γ Z J (ls, .inl y :: .inl x :: st, h) := by
  subst hy
  refine q_irem (fun e => ?_) (kk _ ?_)
  · rw [e] at hk; exact absurd hk (by decide)
  · by_cases h0 : 0 ≤ x.toInt
    · exact Or.inr (i32_rem h0 hk)
    · exact Or.inl (by omega)
end XW2
