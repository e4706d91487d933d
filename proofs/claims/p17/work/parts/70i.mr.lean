/-! THE REFERENCE'S STATE: its ints F, as the heap shows them -/
def MR (F : xF) (h : xH) : Prop := x_cn h 8 = 1 ∧ (∀ k K n, (k, K, n) ∈ msl → x_vr h 8 k 1 = 1 ∧ x_cn h K = 1 ∧ x_ln h K 1 = n) ∧ (∀ k, x_vi h 8 k 1 = F 8 k) ∧ ∀ K i, 22 ≤ K → K ≤ 64 → x_vi h K 1 i = F K i
theorem mr_rs : RS MR := ⟨fun _ _ _ _ C => C, fun _ _ _ C => C⟩
theorem MR.of {h : xH} {F : xF} (S : MS h) : MR F (mh h F) := by
  refine ⟨S.1, S.2.1, fun k => ?_, fun K i h1 h2 => ?_⟩
  · rfl
  · show (if K = 8 ∧ i = 1 then F 8 1 else if (22 ≤ K ∧ K ≤ 64) ∧ 1 = 1 then F K i else _) = _
    rw [if_neg (by omega), if_pos ⟨⟨h1, h2⟩, rfl⟩]
theorem MR.eq {h : xH} {F F' : xF} (C : MR F' (mh h F)) : (∀ k, F' 8 k = F 8 k) ∧ ∀ K i, 22 ≤ K → K ≤ 64 → F' K i = F K i := by
  refine ⟨fun k => ?_, fun K i h1 h2 => ?_⟩
  · rw [← C.2.2.1 k]
    rfl
  · rw [← C.2.2.2 K i h1 h2]
    show (if K = 8 ∧ i = 1 then F 8 1 else if (22 ≤ K ∧ K ≤ 64) ∧ 1 = 1 then F K i else _) = _
    rw [if_neg (by omega), if_pos ⟨⟨h1, h2⟩, rfl⟩]
section XMR
variable {F : xF} {h : xH}
theorem MR.ar (C : MR F h) {k K n : Nat} (hm : (k, K, n) ∈ msl) : x_vr h 8 k 1 = 1 := (C.2.1 k K n hm).1
theorem MR.f (C : MR F h) (k : Nat) : x_vi h 8 k 1 = F 8 k := C.2.2.1 k
theorem MR.an (C : MR F h) {k K n a : Nat} {i : Int32} (hm : (k, K, n) ∈ msl) (hi : x_in h K 1 i) (e : i.toNatClampNeg = a) : (0 ≤ i.toInt ∧ i.toInt < n) ∧ x_vi h K 1 i.toNatClampNeg = F K a := by
  have hK := msl_K hm
  have := hi.2
  rw [(C.2.1 k K n hm).2.2] at this
  exact ⟨⟨hi.1, this⟩, by rw [C.2.2.2 K _ hK.1 hK.2, e]⟩
theorem MR.sn (C : MR F h) {k K n a : Nat} {i x : Int32} (hm : (k, K, n) ∈ msl) (hi : x_in h K 1 i) (e : i.toNatClampNeg = a) : (0 ≤ i.toInt ∧ i.toInt < n) ∧ MR (x_u2 F K a x) (x_puti h K 1 i.toNatClampNeg x) := by
  have hK := msl_K hm
  have := hi.2
  rw [(C.2.1 k K n hm).2.2] at this
  refine ⟨⟨hi.1, this⟩, C.1, C.2.1, fun k' => ?_, fun K' i' h1 h2 => ?_⟩
  · rw [e]
    exact ((u3_ne (fun z _ => by omega)).trans (C.2.2.1 k')).trans (u2_ne (fun z => by omega)).symm
  · rw [e]
    show x_u3 (x_vi h) K 1 a x K' 1 i' = x_u2 F K a x K' i'
    unfold x_u3 x_u2
    rw [C.2.2.2 K' i' h1 h2]
    by_cases q : K' = K ∧ i' = a
    · rw [if_pos ⟨q.1, rfl, q.2⟩, if_pos q]
    · rw [if_neg (fun z => q ⟨z.1, z.2.2⟩), if_neg q]
theorem MR.pf (C : MR F h) {k : Nat} {x : Int32} : MR (x_u2 F 8 k x) (x_puti h 8 k 1 x) := by
  refine ⟨C.1, C.2.1, fun k' => ?_, fun K' i' h1 h2 => ?_⟩
  · show x_u3 (x_vi h) 8 k 1 x 8 k' 1 = x_u2 F 8 k x 8 k'
    unfold x_u3 x_u2
    rw [C.2.2.1 k']
    by_cases q : k' = k
    · rw [if_pos ⟨rfl, q, rfl⟩, if_pos ⟨rfl, q⟩]
    · rw [if_neg (fun z => q z.2.1), if_neg (fun z => q z.2)]
  · exact ((u3_ne (fun z _ => by omega)).trans (C.2.2.2 K' i' h1 h2)).trans (u2_ne (fun z => by omega)).symm
end XMR
/-! THE REFERENCE, method by method -/
/-- where the reference keeps who holds the thing with this code -/
def gp (x : Int32) : Nat × Nat :=
  if 5000 ≤ x.toInt then (41, (x - 5000).toNatClampNeg)
  else if 30 ≤ (x - x / 1000 * 1000).toInt then (38, (3 * (x / 1000) + (x - x / 1000 * 1000) - 30).toNatClampNeg)
  else if 20 ≤ (x - x / 1000 * 1000).toInt then (37, (5 * (x / 1000) + (x - x / 1000 * 1000) - 20).toNatClampNeg)
  else (36, (12 * (x / 1000) + (x - x / 1000 * 1000)).toNatClampNeg)
def gset (F : xF) (x y : Int32) : xF := x_u2 F (gp x).1 (gp x).2 y
theorem gp_k {x : Int32} : 36 ≤ (gp x).1 ∧ (gp x).1 ≤ 41 := by
  unfold gp
  split
  · exact ⟨Nat.le_of_ble_eq_true rfl, Nat.le_of_ble_eq_true rfl⟩
  · split
    · exact ⟨Nat.le_of_ble_eq_true rfl, Nat.le_of_ble_eq_true rfl⟩
    · split
      · exact ⟨Nat.le_of_ble_eq_true rfl, Nat.le_of_ble_eq_true rfl⟩
      · exact ⟨Nat.le_of_ble_eq_true rfl, Nat.le_of_ble_eq_true rfl⟩
theorem gset_ne {F : xF} {x y : Int32} {K i : Nat} (h : K < 36 ∨ 41 < K) : gset F x y K i = F K i := u2_ne (by have := gp_k (x := x); omega)
/-- a stretch of an array, as f says -/
def seg (F : xF) (K s c : Nat) (f : Nat → Int32) : xF := fun K' i => if K' = K ∧ s * c ≤ i ∧ i < s * c + s then f (i - s * c) else F K' i
theorem seg_in {F : xF} {K s c k : Nat} {f : Nat → Int32} (hk : k < s) : seg F K s c f K (s * c + k) = f k := by
  unfold seg
  rw [if_pos ⟨rfl, by omega, by omega⟩, show s * c + k - s * c = k by omega]
theorem seg_ne {F : xF} {K s c K' i : Nat} {f : Nat → Int32} (h : K' ≠ K) : seg F K s c f K' i = F K' i := if_neg (fun z => h z.1)
theorem seg_out {F : xF} {K s c i : Nat} {f : Nat → Int32} (h : i < s * c ∨ s * c + s ≤ i) : seg F K s c f K i = F K i := if_neg (fun z => by omega)
theorem seg_self {F : xF} {K s c : Nat} : seg F K s c (fun k => F K (s * c + k)) = F := by
  funext K' i
  unfold seg
  by_cases e : K' = K ∧ s * c ≤ i ∧ i < s * c + s
  · rw [if_pos e, e.1]
    show F K (s * c + (i - s * c)) = F K i
    rw [show s * c + (i - s * c) = i by omega]
  · rw [if_neg e]
theorem seg_put {F : xF} {K s c k : Nat} {f : Nat → Int32} {y : Int32} (hk : k < s) : x_u2 (seg F K s c f) K (s * c + k) y = seg F K s c (x_u1 f k y) := by
  funext K' i
  unfold x_u2 seg x_u1
  by_cases e : K' = K ∧ s * c ≤ i ∧ i < s * c + s
  · by_cases q : i = s * c + k
    · rw [if_pos ⟨e.1, q⟩, if_pos e, if_pos (show i - s * c = k by omega)]
    · rw [if_neg (fun z => q z.2), if_pos e, if_pos e, if_neg (show ¬ i - s * c = k by omega)]
  · rw [if_neg e, if_neg (fun z => e ⟨z.1, by omega, by omega⟩), if_neg e]
def rseize (F : xF) (c n : Nat) (x : Int32) : xF := gset (x_u2 (x_u2 F 64 (16 * c + n) x) 63 c (Int32.ofNat (n + 1))) x (Int32.ofNat c)
def raddj (F : xF) (c o n : Nat) : xF := x_u2 (x_u2 (x_u2 (x_u2 (x_u2 F 47 c 2) 50 c (Int32.ofNat o)) 59 c (F 8 1)) 46 (72 * o + n) (Int32.ofNat c)) 45 o (Int32.ofNat (n + 1))
/-- behind release -/
def RE (F : xF) (c : Nat) (x : Int32) (l : List Int32) (t : xF) : Prop := (∀ K i, K ≠ 63 → K ≠ 64 → t K i = gset F x (-1) K i) ∧ (∀ i, i ≠ c → t 63 i = F 63 i) ∧ (∀ i, i < 16 * c ∨ 16 * c + 16 ≤ i → t 64 i = F 64 i) ∧ LV t 63 64 16 c (rdel l x)
/-- behind dropJob -/
def DJ (F : xF) (c : Nat) (l : Nat → List Int32) (t : xF) : Prop := (∀ K i, K ≠ 45 → K ≠ 46 → t K i = F K i) ∧ ∀ o, o < 3 → LV t 45 46 72 o (rdel (l o) (Int32.ofNat c))
/-- behind end's loop: l is what the call held -/
def EL (F : xF) (c : Nat) (l : List Int32) (t : xF) : Prop := (∀ x ∈ l, t (gp x).1 (gp x).2 = -1) ∧ (∀ K i, K ≠ 63 → K ≠ 64 → (∀ x ∈ l, gp x ≠ (K, i)) → t K i = F K i) ∧ (∀ i, i ≠ c → t 63 i = F 63 i) ∧ (∀ i, i < 16 * c ∨ 16 * c + 16 ≤ i → t 64 i = F 64 i) ∧ t 63 c = 0
/-- behind end -/
def EN (F : xF) (c : Nat) (l : List Int32) (lj : Nat → List Int32) (t : xF) : Prop := ∃ t1 t2, EL F c l t1 ∧ DJ t1 c lj t2 ∧ t = if (F 57 c).toInt < 0 then x_u2 t2 47 c 0 else x_u2 (x_u2 t2 47 c 0) 28 (F 57 c).toNatClampNeg (-1)
def rover (F t1 : xF) (c : Nat) (x : Int32) : xF := if 0 ≤ (F 57 c).toInt ∧ ¬ F 22 (F 57 c).toNatClampNeg = 0 then x_u2 (if F 22 c = 0 then x_u2 t1 57 c (-1) else x_u2 (x_u2 t1 57 c (-1)) 23 c x) 23 (F 57 c).toNatClampNeg 3 else if F 22 c = 0 then x_u2 t1 57 c (-1) else x_u2 (x_u2 t1 57 c (-1)) 23 c x
/-- the first below n with P, or -1 -/
def FS (P : Nat → Prop) (n : Nat) (r : Int32) : Prop := (r = -1 ∧ ∀ k, k < n → ¬ P k) ∨ ∃ k, k < n ∧ r = Int32.ofNat k ∧ P k ∧ ∀ k', k' < k → ¬ P k'
/-- .. from above: those from i on have been looked at -/
def FD (P : Nat → Prop) (n : Nat) (i : Int) (r : Int32) : Prop := (r = -1 ∧ ∀ k : Nat, i ≤ k → k < n → ¬ P k) ∨ ∃ k : Nat, i ≤ k ∧ k < n ∧ r = Int32.ofNat k ∧ P k ∧ ∀ k' : Nat, i ≤ k' → k' < k → ¬ P k'
theorem FD.start {P : Nat → Prop} {n : Nat} {i : Int} (h : (n : Int) ≤ i) : FD P n i (-1) := Or.inl ⟨rfl, fun k h1 h2 => absurd h1 (by omega)⟩
theorem FD.yes {P : Nat → Prop} {n q : Nat} (h : q < n) (hp : P q) : FD P n q (Int32.ofNat q) := Or.inr ⟨q, Int.le_refl _, h, rfl, hp, fun k' h1 h2 => absurd h1 (by omega)⟩
theorem FD.no {P : Nat → Prop} {n q : Nat} {r : Int32} (f : FD P n (q + 1 : Nat) r) (hp : ¬ P q) : FD P n q r := by
  rcases f with ⟨e, h⟩ | ⟨k, h1, h2, e, p, h⟩
  · refine Or.inl ⟨e, fun k k1 k2 => ?_⟩
    by_cases z : k = q
    · rw [z]; exact hp
    · exact h k (by omega) k2
  · refine Or.inr ⟨k, by omega, h2, e, p, fun k' k1 k2 => ?_⟩
    by_cases z : k' = q
    · rw [z]; exact hp
    · exact h k' (by omega) k2
theorem FD.done {P : Nat → Prop} {n : Nat} {i : Int} {r : Int32} (f : FD P n i r) (hi : i ≤ 0) : FS P n r := by
  rcases f with ⟨e, h⟩ | ⟨k, h1, h2, e, p, h⟩
  · exact Or.inl ⟨e, fun k hk => h k (by omega) hk⟩
  · exact Or.inr ⟨k, h2, e, p, fun k' hk => h k' (by omega) hk⟩
theorem FS.eq {P P' : Nat → Prop} {n : Nat} {r r' : Int32} (f : FS P n r) (f' : FS P' n r') (hp : ∀ k, k < n → (P k ↔ P' k)) : r = r' := by
  rcases f with ⟨e, h⟩ | ⟨k, h1, e, p, h⟩
  · rcases f' with ⟨e', h'⟩ | ⟨k', h1', e', p', h'⟩
    · rw [e, e']
    · exact absurd ((hp k' h1').mpr p') (h k' h1')
  · rcases f' with ⟨e', h'⟩ | ⟨k', h1', e', p', h'⟩
    · exact absurd ((hp k h1).mp p) (h' k h1)
    · have : k = k' := by
        rcases Nat.lt_trichotomy k k' with z | z | z
        · exact absurd ((hp k h1).mp p) (h' k z)
        · exact z
        · exact absurd ((hp k' h1').mpr p') (h k' z)
      rw [e, e', this]
theorem i32_ex {i : Int32} (h : 0 ≤ i.toInt) : ∃ q : Nat, i = Int32.ofNat q ∧ (q : Int) = i.toInt := ⟨i.toNatClampNeg, i32_nat h, x_clamp h⟩
def DW (F : xF) (o : Nat) (r : Int32) : Prop := (r = 1 ∧ ∃ n, n < 24 ∧ 0 ≤ (F 24 (24 * o + n)).toInt) ∨ (r = 0 ∧ ∀ n, n < 24 → (F 24 (24 * o + n)).toInt < 0)
def rbeg0 (F : xF) (l : Nat) (r : Int32) : xF := x_u2 (x_u2 (x_u2 (x_u2 (x_u2 (x_u2 (x_u2 (x_u2 (x_u2 (x_u2 F 24 l (-1)) 47 l 1) 48 l 0) 56 l 0) 50 l (Int32.ofNat (l / 24))) 51 l r) 55 l (1 <<< (Int32.ofNat (l / 24) &&& 31))) 57 l (-1)) 60 l 0) 63 l 0
def rbeg (F : xF) (l : Nat) (r : Int32) : xF := rseize (rbeg0 F l r) l 0 (1000 * Int32.ofNat (l / 24) + 30 + r)
def DJo (F : xF) (c : Nat) (l : Nat → List Int32) (o : Nat) (t : xF) : Prop := (∀ K i, K ≠ 45 → K ≠ 46 → t K i = F K i) ∧ (∀ o', o' < o → LV t 45 46 72 o' (rdel (l o') (Int32.ofNat c))) ∧ ∀ o', o ≤ o' → o' < 3 → LV t 45 46 72 o' (l o')
theorem DJo.step {F t : xF} {c o i k : Nat} {l : Nat → List Int32} {f : Nat → Int32} (D : DJo F c l o t) (ho : o < 3) (cp : CP f (l o) (fun y => !(y == Int32.ofNat c)) i k) (hi : (l o).length ≤ i) (h72 : ∀ o, o < 3 → (l o).length ≤ 72) : DJo F c l (o + 1) (x_u2 (seg t 46 72 o f) 45 o (Int32.ofNat k)) := by
  obtain ⟨a, b, d⟩ := D
  have cd := cp.done hi
  refine ⟨fun K i h1 h2 => (u2_ne h1).trans ((seg_ne h2).trans (a K i h1 h2)), fun o' ho' => ?_, fun o' h1 h2 => ?_⟩
  · by_cases e : o' = o
    · subst e
      refine ⟨u2_eq.trans (congrArg Int32.ofNat cd.1), fun q y hy => (u2_ne (by decide)).trans ((seg_in ?_).trans (cd.2 q y hy))⟩
      have h9 := (List.getElem?_eq_some_iff.mp hy).1
      have h8 : (rdel (l o') (Int32.ofNat c)).length ≤ (l o').length := List.length_filter_le _ _
      have h7 := h72 o' ho
      omega
    · have q := b o' (by omega)
      refine ⟨(u2_ni e).trans ((seg_ne (by decide)).trans q.1), fun k y hy => (u2_ne (by decide)).trans ((seg_out ?_).trans (q.2 k y hy))⟩
      have h9 := (List.getElem?_eq_some_iff.mp hy).1
      have h8 : (rdel (l o') (Int32.ofNat c)).length ≤ (l o').length := List.length_filter_le _ _
      have h7 := h72 o' (by omega)
      omega
  · have q := d o' (by omega) h2
    refine ⟨(u2_ni (by omega)).trans ((seg_ne (by decide)).trans q.1), fun k y hy => (u2_ne (by decide)).trans ((seg_out (by omega)).trans (q.2 k y hy))⟩
def ELo (F : xF) (c : Nat) (l l' : List Int32) (t : xF) : Prop := (∀ x ∈ l, x ∉ l' → t (gp x).1 (gp x).2 = -1) ∧ (∀ K i, K ≠ 63 → K ≠ 64 → (∀ x ∈ l, x ∉ l' → gp x ≠ (K, i)) → t K i = F K i) ∧ (∀ i, i ≠ c → t 63 i = F 63 i) ∧ (∀ i, i < 16 * c ∨ 16 * c + 16 ≤ i → t 64 i = F 64 i) ∧ LV t 63 64 16 c l' ∧ (∀ x ∈ l', x ∈ l) ∧ l'.length ≤ 16
theorem mem_rdel {l : List Int32} {x y : Int32} : y ∈ rdel l x ↔ y ∈ l ∧ y ≠ x := by
  unfold rdel
  rw [List.mem_filter]
  simp
theorem ELo.k {F t : xF} {c : Nat} {l l' : List Int32} (E : ELo F c l l' t) {K i : Nat} (hK : K < 36 ∨ (41 < K ∧ K < 63) ∨ 64 < K) : t K i = F K i := by
  refine E.2.1 K i (by omega) (by omega) (fun x _ _ z => ?_)
  have := gp_k (x := x)
  rw [z] at this
  have h1 : 36 ≤ K := this.1
  have h2 : K ≤ 41 := this.2
  omega
theorem ELo.step {F t t' : xF} {c : Nat} {l l' : List Int32} {x : Int32} (E : ELo F c l l' t) (hx : x ∈ l') (r : RE t c x l' t') : ELo F c l (rdel l' x) t' := by
  obtain ⟨a1, a2, a3, a4, a5, a6, a7⟩ := E
  obtain ⟨r1, r2, r3, r4⟩ := r
  have hg : ∀ y : Int32, t' (gp y).1 (gp y).2 = if gp y = gp x then -1 else t (gp y).1 (gp y).2 := by
    intro y
    have hk := gp_k (x := y)
    rw [r1 _ _ (by omega) (by omega)]
    show x_u2 t (gp x).1 (gp x).2 (-1) (gp y).1 (gp y).2 = _
    unfold x_u2
    by_cases e : gp y = gp x
    · rw [if_pos ⟨by rw [e], by rw [e]⟩, if_pos e]
    · rw [if_neg (fun z => e (Prod.ext z.1 z.2)), if_neg e]
  refine ⟨fun y hy hn => ?_, fun K i h1 h2 hn => ?_, fun i hi => (r2 i hi).trans (a3 i hi), fun i hi => (r3 i hi).trans (a4 i hi), r4, fun y hy => a6 y (mem_rdel.mp hy).1, Nat.le_trans (List.length_filter_le _ _) a7⟩
  · rw [hg y]
    by_cases e : gp y = gp x
    · rw [if_pos e]
    · rw [if_neg e]
      refine a1 y hy (fun z => hn (mem_rdel.mpr ⟨z, fun q => e (by rw [q])⟩))
  · have e : ¬ (K = (gp x).1 ∧ i = (gp x).2) := fun z => hn x (a6 x hx) (fun q => (mem_rdel.mp q).2 rfl) (Prod.ext z.1.symm z.2.symm)
    rw [r1 K i h1 h2]
    show x_u2 t (gp x).1 (gp x).2 (-1) K i = _
    unfold x_u2
    rw [if_neg e]
    exact a2 K i h1 h2 (fun y hy hyn => hn y hy (fun q => hyn (mem_rdel.mp q).1))
theorem ELo.done {F t : xF} {c : Nat} {l : List Int32} (E : ELo F c l [] t) : EL F c l t := ⟨fun x hx => E.1 x hx (by simp), fun K i h1 h2 hn => E.2.1 K i h1 h2 (fun x hx _ => hn x hx), E.2.2.1, E.2.2.2.1, E.2.2.2.2.1.1⟩
theorem ELo.init {F : xF} {c : Nat} {l : List Int32} (hl : LV F 63 64 16 c l) (h : l.length ≤ 16) : ELo F c l l F := ⟨fun x hx hn => absurd hx hn, fun K i _ _ _ => rfl, fun _ _ => rfl, fun _ _ => rfl, hl, fun x hx => hx, h⟩
theorem ofN_dec {q : Nat} (h : q ≤ 100000) : (Int32.ofNat q + -1).toInt = (q : Int) - 1 := by
  have e := (ofN h).1
  rw [i32_add (by rw [e, show (-1 : Int32).toInt = -1 from rfl]; omega) (by rw [e, show (-1 : Int32).toInt = -1 from rfl]; omega), e]
  rfl
theorem EN.k {F t : xF} {c : Nat} {l : List Int32} {lj : Nat → List Int32} (E : EN F c l lj t) {K i : Nat} (hK : K < 36 ∧ K ≠ 28 ∨ (41 < K ∧ K < 63 ∧ K ≠ 45 ∧ K ≠ 46 ∧ K ≠ 47) ∨ 64 < K) : t K i = F K i := by
  obtain ⟨t1, t2, e1, e2, e3⟩ := E
  have a : t2 K i = F K i := by
    rw [e2.1 K i (by omega) (by omega)]
    refine e1.2.1 K i (by omega) (by omega) (fun x _ z => ?_)
    have := gp_k (x := x)
    rw [z] at this
    have h1 : 36 ≤ K := this.1
    have h2 : K ≤ 41 := this.2
    omega
  rw [e3]
  split
  · exact (u2_ne (by omega)).trans a
  · exact (u2_ne (by omega)).trans ((u2_ne (by omega)).trans a)
/-- the line is free -/
def fre (F : xF) (x : Nat) : Prop := F 22 x = 0 ∧ (F 28 x).toInt < 0 ∧ F 47 x = 0
/-- the trunk joins x and y and is idle -/
def TP (F : xF) (x y : Int32) (t : Nat) : Prop := ((F 39 t = x ∧ F 40 t = y) ∨ (F 39 t = y ∧ F 40 t = x)) ∧ (F 41 t).toInt < 0 ∧ F 42 t = 0
theorem e91 {F : xF} {x : Int32} : ED MR 91 [rf 8 1, .inl x] F (oi (b2i (0 < x.toInt))) (x_u2 F 8 0 x) := by
  refine EC.mk (fun n0 => ?_)
  show BC _ n0 91 0 [rf 8 1, .inl x] [] _ _
  refine BC.blk c91_0 (fun m1 hm1 => ?_)
  refine c_aload rfl ?_
  refine c_iload rfl ?_
  refine c_pfi (fun _ C _ => C.pf) ?_
  refine c_iload rfl ?_
  refine c_if_le (fun d1 => ?_) (fun d1 => ?_)
  · skip
    refine BC.blk c91_13 (fun m2 hm2 => ?_)
    refine c_iconst ?_
    refine c_goto ?_
    refine BC.blk c91_14 (fun m3 hm3 => ?_)
    exact c_zret ⟨by rw [b2i_neg (by omega)], rfl⟩
  · skip
    refine c_iconst ?_
    refine c_goto ?_
    refine BC.blk c91_14 (fun m4 hm4 => ?_)
    exact c_zret ⟨by rw [b2i_pos (by omega)], rfl⟩
theorem e92 {F : xF} {x y z : Int32} : ED MR 92 [.inl x, .inl y, .inl z] F (oi (b2i (y.toInt ≤ x.toInt ∧ x.toInt ≤ z.toInt))) (F) := by
  refine EC.mk (fun n0 => ?_)
  show BC _ n0 92 0 [.inl x, .inl y, .inl z] [] _ _
  refine BC.blk c92_0 (fun m1 hm1 => ?_)
  refine c_iload rfl ?_
  refine c_iload rfl ?_
  refine c_icmp_lt (fun d1 => ?_) (fun d1 => ?_)
  · skip
    refine BC.blk c92_14 (fun m2 hm2 => ?_)
    refine c_iconst ?_
    refine c_goto ?_
    refine BC.blk c92_15 (fun m3 hm3 => ?_)
    exact c_zret ⟨by rw [b2i_neg (by omega)], rfl⟩
  · skip
    refine c_iload rfl ?_
    refine c_iload rfl ?_
    refine c_icmp_gt (fun d2 => ?_) (fun d2 => ?_)
    · skip
      refine BC.blk c92_14 (fun m4 hm4 => ?_)
      refine c_iconst ?_
      refine c_goto ?_
      refine BC.blk c92_15 (fun m5 hm5 => ?_)
      exact c_zret ⟨by rw [b2i_neg (by omega)], rfl⟩
    · skip
      refine c_iconst ?_
      refine c_goto ?_
      refine BC.blk c92_15 (fun m6 hm6 => ?_)
      exact c_zret ⟨by rw [b2i_pos (by omega)], rfl⟩
theorem e93 {F : xF} {x y : Int32} : ED MR 93 [.inl x, .inl y] F (oi (b2i (lnok x y))) (F) := by
  refine EC.mk (fun n0 => ?_)
  show BC _ n0 93 0 [.inl x, .inl y] [] _ _
  refine BC.blk c93_0 (fun m1 hm1 => ?_)
  refine c_iload rfl ?_
  refine c_iconst ?_
  refine c_iconst ?_
  refine d_call mr_rs (e92) ?_
  refine c_if_eq (fun d1 => ?_) (fun d1 => ?_)
  · skip
    refine BC.blk c93_23 (fun m2 hm2 => ?_)
    refine c_iconst ?_
    refine c_goto ?_
    refine BC.blk c93_24 (fun m3 hm3 => ?_)
    exact c_zret ⟨by rw [b2i_neg (fun z => b2i0.mp d1 z.1)], rfl⟩
  · skip
    refine c_iload rfl ?_
    refine c_iconst ?_
    refine c_iconst ?_
    refine d_call mr_rs (e92) ?_
    refine c_if_eq (fun d2 => ?_) (fun d2 => ?_)
    · skip
      refine BC.blk c93_23 (fun m4 hm4 => ?_)
      refine c_iconst ?_
      refine c_goto ?_
      refine BC.blk c93_24 (fun m5 hm5 => ?_)
      exact c_zret ⟨by rw [b2i_neg (fun z => b2i0.mp d2 z.2)], rfl⟩
    · skip
      refine c_iconst ?_
      refine c_goto ?_
      refine BC.blk c93_24 (fun m6 hm6 => ?_)
      exact c_zret ⟨by rw [b2i_pos ⟨b2i1.mp d1, b2i1.mp d2⟩], rfl⟩
theorem e95 {F : xF} {x : Int32} : ED MR 95 [.inl x] F (oi (if 999 < x.toInt then 3 else if 99 < x.toInt then 2 else 1)) (F) := by
  refine EC.mk (fun n0 => ?_)
  show BC _ n0 95 0 [.inl x] [] _ _
  refine BC.blk c95_0 (fun m1 hm1 => ?_)
  refine c_iload rfl ?_
  refine c_iconst ?_
  refine c_icmpk_le (k := 999) rfl (fun d1 => ?_) (fun d1 => ?_)
  · skip
    refine BC.blk c95_11 (fun m2 hm2 => ?_)
    refine c_iload rfl ?_
    refine c_iconst ?_
    refine c_icmpk_le (k := 99) rfl (fun d2 => ?_) (fun d2 => ?_)
    · skip
      refine BC.blk c95_21 (fun m3 hm3 => ?_)
      refine c_iconst ?_
      refine c_goto ?_
      refine BC.blk c95_22 (fun m4 hm4 => ?_)
      exact c_iret ⟨by rw [if_neg (Int.not_lt.mpr d1), if_neg (Int.not_lt.mpr d2)], rfl⟩
    · skip
      refine c_iconst ?_
      refine c_goto ?_
      refine BC.blk c95_22 (fun m5 hm5 => ?_)
      exact c_iret ⟨by rw [if_neg (Int.not_lt.mpr d1), if_pos (Int.not_le.mp d2)], rfl⟩
  · skip
    refine c_iconst ?_
    refine c_goto ?_
    refine BC.blk c95_22 (fun m6 hm6 => ?_)
    exact c_iret ⟨by rw [if_pos (Int.not_le.mp d1)], rfl⟩
theorem e99 {F : xF} {x y : Int32} : ED MR 99 [rf 8 1, .inl x, .inl y] F (ov) (gset F x y) := by
  refine EC.mk (fun n0 => ?_)
  show BC _ n0 99 0 [rf 8 1, .inl x, .inl y, rf 0 0, rf 0 0] [] _ _
  refine BC.blk c99_0 (fun m1 hm1 => ?_)
  refine c_iload rfl ?_
  refine c_iconst ?_
  refine c_icmpk_lt (k := 5000) rfl (fun d1 => ?_) (fun d1 => ?_)
  · skip
    refine BC.blk c99_19 (fun m2 hm2 => ?_)
    refine c_iload rfl ?_
    refine c_iconst ?_
    refine c_idiv rfl ?_
    refine c_istore rfl ?_
    refine c_iload rfl ?_
    refine c_iconst ?_
    refine c_irem rfl ?_
    refine c_istore rfl ?_
    refine c_iload rfl ?_
    refine c_iconst ?_
    refine c_icmpk_lt (k := 30) rfl (fun d2 => ?_) (fun d2 => ?_)
    · skip
      refine BC.blk c99_57 (fun m3 hm3 => ?_)
      refine c_iload rfl ?_
      refine c_iconst ?_
      refine c_icmpk_lt (k := 20) rfl (fun d3 => ?_) (fun d3 => ?_)
      · skip
        refine BC.blk c99_82 (fun m4 hm4 => ?_)
        refine c_aload rfl ?_
        refine c_gfr (fun _ C _ => C.ar (k := 17) (K := 36) (n := 36) (by decide)) ?_
        refine c_iconst ?_
        refine c_iload rfl ?_
        refine c_bin rfl ?_
        refine c_iload rfl ?_
        refine c_bin rfl ?_
        refine c_iload rfl ?_
        refine c_ast (fun _ C l9 i9 => C.sn (k := 17) (K := 36) (n := 36) (by decide) i9 rfl) (fun p1 => ?_)
        refine c_goto ?_
        refine BC.blk c99_95 (fun m5 hm5 => ?_)
        exact c_ret ⟨rfl, by rw [gset, gp, if_neg (Int.not_le.mpr d1), if_neg (Int.not_le.mpr d2), if_neg (Int.not_le.mpr d3)]⟩
      · skip
        refine c_aload rfl ?_
        refine c_gfr (fun _ C _ => C.ar (k := 18) (K := 37) (n := 15) (by decide)) ?_
        refine c_iconst ?_
        refine c_iload rfl ?_
        refine c_bin rfl ?_
        refine c_iload rfl ?_
        refine c_bin rfl ?_
        refine c_iconst ?_
        refine c_bin rfl ?_
        refine c_iload rfl ?_
        refine c_ast (fun _ C l9 i9 => C.sn (k := 18) (K := 37) (n := 15) (by decide) i9 rfl) (fun p2 => ?_)
        refine c_goto ?_
        refine BC.blk c99_95 (fun m6 hm6 => ?_)
        exact c_ret ⟨rfl, by rw [gset, gp, if_neg (Int.not_le.mpr d1), if_neg (Int.not_le.mpr d2), if_pos (Int.not_lt.mp d3)]⟩
    · skip
      refine c_aload rfl ?_
      refine c_gfr (fun _ C _ => C.ar (k := 19) (K := 38) (n := 9) (by decide)) ?_
      refine c_iconst ?_
      refine c_iload rfl ?_
      refine c_bin rfl ?_
      refine c_iload rfl ?_
      refine c_bin rfl ?_
      refine c_iconst ?_
      refine c_bin rfl ?_
      refine c_iload rfl ?_
      refine c_ast (fun _ C l9 i9 => C.sn (k := 19) (K := 38) (n := 9) (by decide) i9 rfl) (fun p3 => ?_)
      refine c_goto ?_
      refine BC.blk c99_95 (fun m7 hm7 => ?_)
      exact c_ret ⟨rfl, by rw [gset, gp, if_neg (Int.not_le.mpr d1), if_pos (Int.not_lt.mp d2)]⟩
  · skip
    refine c_aload rfl ?_
    refine c_gfr (fun _ C _ => C.ar (k := 23) (K := 41) (n := 16) (by decide)) ?_
    refine c_iload rfl ?_
    refine c_iconst ?_
    refine c_bin rfl ?_
    refine c_iload rfl ?_
    refine c_ast (fun _ C l9 i9 => C.sn (k := 23) (K := 41) (n := 16) (by decide) i9 rfl) (fun p4 => ?_)
    exact c_ret ⟨rfl, by rw [gset, gp, if_pos (Int.not_lt.mp d1)]⟩
theorem e100 {F : xF} {c n : Nat} {x : Int32} (hc : c < 72) (hn : F 63 c = Int32.ofNat n) (h16 : n < 16) : ED MR 100 [rf 8 1, .inl (Int32.ofNat c), .inl x] F (ov) (rseize F c n x) := by
  refine EC.mk (fun n0 => ?_)
  show BC _ n0 100 0 [rf 8 1, .inl (Int32.ofNat c), .inl x] [] _ _
  refine BC.blk c100_0 (fun m1 hm1 => ?_)
  refine c_aload rfl ?_
  refine c_gfr (fun _ C _ => C.ar (k := 46) (K := 64) (n := 1152) (by decide)) ?_
  refine c_iconst ?_
  refine c_iload rfl ?_
  refine c_bin (ofN_mul (16) (c)) ?_
  refine c_aload rfl ?_
  refine c_gfr (fun _ C _ => C.ar (k := 45) (K := 63) (n := 72) (by decide)) ?_
  refine c_iload rfl ?_
  refine c_ald (fun _ C l9 i9 => (fun z => ⟨z.1, z.2.trans hn⟩) (C.an (k := 45) (K := 63) (n := 72) (by decide) i9 (ofN (by omega)).2)) (fun p1 => ?_)
  refine c_bin (ofN_add ((16 * c)) (n)) ?_
  refine c_iload rfl ?_
  refine c_ast (fun _ C l9 i9 => C.sn (k := 46) (K := 64) (n := 1152) (by decide) i9 (ofN (by omega)).2) (fun p2 => ?_)
  refine c_aload rfl ?_
  refine c_gfr (fun _ C _ => C.ar (k := 45) (K := 63) (n := 72) (by decide)) ?_
  refine c_iload rfl ?_
  refine c_dup2 ?_
  refine c_ald (fun _ C l9 i9 => (fun z => ⟨z.1, z.2.trans ((u2_ne (by decide)).trans hn)⟩) (C.an (k := 45) (K := 63) (n := 72) (by decide) i9 (ofN (by omega)).2)) (fun p3 => ?_)
  refine c_iconst ?_
  refine c_bin (ofN_add (n) (1)) ?_
  refine c_ast (fun _ C l9 i9 => C.sn (k := 45) (K := 63) (n := 72) (by decide) i9 (ofN (by omega)).2) (fun p4 => ?_)
  refine c_aload rfl ?_
  refine c_iload rfl ?_
  refine c_iload rfl ?_
  refine d_callv mr_rs (e99) ?_
  exact c_ret ⟨rfl, rfl⟩
theorem e101 {F : xF} {c : Nat} {x : Int32} {l : List Int32} (hc : c < 72) (hl : LV F 63 64 16 c l) (h16 : l.length ≤ 16) : EC MR 101 [rf 8 1, .inl (Int32.ofNat c), .inl x] F (fun o t => o = ov ∧ RE F c x l t) := by
  have hl1 : gset F x (-1) 63 c = Int32.ofNat l.length := (gset_ne (by omega)).trans hl.1
  have hl2 : ∀ (k : Nat) (y : Int32), l[k]? = some y → gset F x (-1) 64 (16 * c + k) = y := fun k y hy => (gset_ne (by omega)).trans (hl.2 k y hy)
  refine EC.mk (fun n0 => ?_)
  show BC _ n0 101 0 [rf 8 1, .inl (Int32.ofNat c), .inl x, rf 0 0, rf 0 0] [] _ _
  refine BC.blk c101_0 (fun m1 hm1 => ?_)
  refine c_aload rfl ?_
  refine c_iload rfl ?_
  refine c_iconst ?_
  refine d_callv mr_rs (e99) ?_
  refine c_iconst ?_
  refine c_istore rfl ?_
  refine c_iconst ?_
  refine c_istore rfl ?_
  refine c_goto ?_
  have lp11 : ∀ (n : Nat) (k i : Nat) (f : Nat → Int32), i ≤ l.length → CP f l (fun y => !(y == x)) i k → BC MR n 101 11 [rf 8 1, .inl (Int32.ofNat c), .inl x, .inl (Int32.ofNat k), .inl (Int32.ofNat i)] [] (seg (gset F x (-1)) 64 16 c f) (fun o t => o = ov ∧ RE F c x l t) := by
    intro n11
    induction n11 using Nat.strongRecOn with
    | ind n11 ih11 =>
      intro k i f hil cp
      have cl := cp.le
      refine BC.blk c101_11 (fun m2 hm2 => ?_)
      refine c_iload rfl ?_
      refine c_aload rfl ?_
      refine c_gfr (fun _ C _ => C.ar (k := 45) (K := 63) (n := 72) (by decide)) ?_
      refine c_iload rfl ?_
      refine c_ald (fun _ C l9 i9 => (fun z => ⟨z.1, z.2.trans ((seg_ne (by decide)).trans hl1)⟩) (C.an (k := 45) (K := 63) (n := 72) (by decide) i9 (ofN (by omega)).2)) (fun p1 => ?_)
      have o1 := ofN (n := l.length) (by omega)
      have o2 := ofN (n := i) (by omega)
      refine c_icmp_ge (fun d1 => ?_) (fun d1 => ?_)
      · skip
        refine BC.blk c101_70 (fun m3 hm3 => ?_)
        have cd := cp.done (by omega)
        refine c_aload rfl ?_
        refine c_gfr (fun _ C _ => C.ar (k := 45) (K := 63) (n := 72) (by decide)) ?_
        refine c_iload rfl ?_
        refine c_iload rfl ?_
        refine c_ast (fun _ C l9 i9 => C.sn (k := 45) (K := 63) (n := 72) (by decide) i9 (ofN (by omega)).2) (fun p2 => ?_)
        exact c_ret ⟨rfl, fun K i h1 h2 => (u2_ne h1).trans (seg_ne h2), fun i hi => (u2_ni hi).trans ((seg_ne (by decide)).trans (gset_ne (by omega))), fun i hi => (u2_ne (by decide)).trans ((seg_out hi).trans (gset_ne (by omega))), u2_eq.trans (congrArg Int32.ofNat cd.1), fun t y hy => (u2_ne (by decide)).trans ((seg_in (by have := (List.getElem?_eq_some_iff.mp hy).1; have := List.length_filter_le (fun y => !(y == x)) l; unfold rdel at *; omega)).trans (cd.2 t y hy))⟩
      · skip
        have hit : i < l.length := by omega
        have hy := List.getElem?_eq_getElem hit
        have fy := cp.2.2 _ _ (Nat.le_refl _) hy
        generalize l[i] = y at hy fy
        refine c_aload rfl ?_
        refine c_gfr (fun _ C _ => C.ar (k := 46) (K := 64) (n := 1152) (by decide)) ?_
        refine c_iconst ?_
        refine c_iload rfl ?_
        refine c_bin (ofN_mul (16) (c)) ?_
        refine c_iload rfl ?_
        refine c_bin (ofN_add ((16 * c)) (i)) ?_
        refine c_ald (fun _ C l9 i9 => (fun z => ⟨z.1, z.2.trans ((seg_in (by omega)).trans fy)⟩) (C.an (k := 46) (K := 64) (n := 1152) (by decide) i9 (ofN (by omega)).2)) (fun p3 => ?_)
        refine c_iload rfl ?_
        refine c_icmp_eq (fun d2 => ?_) (fun d2 => ?_)
        · skip
          refine BC.blk c101_64 (fun m4 hm4 => ?_)
          refine c_iincN (i := i) (k := 1) rfl rfl rfl ?_
          refine c_goto ?_
          exact ih11 m4 (by omega) k (i + 1) f (by omega) (cp.skip hy (by simp [d2]))
        · skip
          refine c_aload rfl ?_
          refine c_gfr (fun _ C _ => C.ar (k := 46) (K := 64) (n := 1152) (by decide)) ?_
          refine c_iconst ?_
          refine c_iload rfl ?_
          refine c_bin (ofN_mul (16) (c)) ?_
          refine c_iload rfl ?_
          refine c_bin (ofN_add ((16 * c)) (k)) ?_
          refine c_aload rfl ?_
          refine c_gfr (fun _ C _ => C.ar (k := 46) (K := 64) (n := 1152) (by decide)) ?_
          refine c_iconst ?_
          refine c_iload rfl ?_
          refine c_bin (ofN_mul (16) (c)) ?_
          refine c_iload rfl ?_
          refine c_bin (ofN_add ((16 * c)) (i)) ?_
          refine c_ald (fun _ C l9 i9 => (fun z => ⟨z.1, z.2.trans ((seg_in (by omega)).trans fy)⟩) (C.an (k := 46) (K := 64) (n := 1152) (by decide) i9 (ofN (by omega)).2)) (fun p4 => ?_)
          refine c_ast (fun _ C l9 i9 => C.sn (k := 46) (K := 64) (n := 1152) (by decide) i9 (ofN (by omega)).2) (fun p5 => ?_)
          refine c_iincN (i := k) (k := 1) rfl rfl rfl ?_
          refine c_goto ?_
          refine BC.blk c101_64 (fun m5 hm5 => ?_)
          refine c_iincN (i := i) (k := 1) rfl rfl rfl ?_
          refine c_goto ?_
          have e9 := ih11 m5 (by omega) (k + 1) (i + 1) _ (by omega) (cp.keep hy (by simp [d2]))
          rw [← seg_put (by omega)] at e9
          exact e9
  have e9 := lp11 m1 0 0 _ (Nat.zero_le _) (CP.init hl2)
  rw [seg_self] at e9
  exact e9
theorem e103 {F : xF} {c o n : Nat} (hc : c < 72) (ho : o < 3) (hn : F 45 o = Int32.ofNat n) (h72 : n < 72) : ED MR 103 [rf 8 1, .inl (Int32.ofNat c), .inl (Int32.ofNat o)] F (ov) (raddj F c o n) := by
  refine EC.mk (fun n0 => ?_)
  show BC _ n0 103 0 [rf 8 1, .inl (Int32.ofNat c), .inl (Int32.ofNat o)] [] _ _
  refine BC.blk c103_0 (fun m1 hm1 => ?_)
  refine c_aload rfl ?_
  refine c_gfr (fun _ C _ => C.ar (k := 29) (K := 47) (n := 72) (by decide)) ?_
  refine c_iload rfl ?_
  refine c_iconst ?_
  refine c_ast (fun _ C l9 i9 => C.sn (k := 29) (K := 47) (n := 72) (by decide) i9 (ofN (by omega)).2) (fun p1 => ?_)
  refine c_aload rfl ?_
  refine c_gfr (fun _ C _ => C.ar (k := 32) (K := 50) (n := 72) (by decide)) ?_
  refine c_iload rfl ?_
  refine c_iload rfl ?_
  refine c_ast (fun _ C l9 i9 => C.sn (k := 32) (K := 50) (n := 72) (by decide) i9 (ofN (by omega)).2) (fun p2 => ?_)
  refine c_aload rfl ?_
  refine c_gfr (fun _ C _ => C.ar (k := 41) (K := 59) (n := 72) (by decide)) ?_
  refine c_iload rfl ?_
  refine c_aload rfl ?_
  refine c_gfi (fun _ C _ => C.f _) ?_
  refine c_ast (fun _ C l9 i9 => C.sn (k := 41) (K := 59) (n := 72) (by decide) i9 (ofN (by omega)).2) (fun p3 => ?_)
  refine c_aload rfl ?_
  refine c_gfr (fun _ C _ => C.ar (k := 28) (K := 46) (n := 216) (by decide)) ?_
  refine c_iconst ?_
  refine c_iload rfl ?_
  refine c_bin (ofN_mul (72) (o)) ?_
  refine c_aload rfl ?_
  refine c_gfr (fun _ C _ => C.ar (k := 27) (K := 45) (n := 3) (by decide)) ?_
  refine c_iload rfl ?_
  refine c_ald (fun _ C l9 i9 => (fun z => ⟨z.1, z.2.trans hn⟩) (C.an (k := 27) (K := 45) (n := 3) (by decide) i9 (ofN (by omega)).2)) (fun p4 => ?_)
  refine c_bin (ofN_add ((72 * o)) (n)) ?_
  refine c_iload rfl ?_
  refine c_ast (fun _ C l9 i9 => C.sn (k := 28) (K := 46) (n := 216) (by decide) i9 (ofN (by omega)).2) (fun p5 => ?_)
  refine c_aload rfl ?_
  refine c_gfr (fun _ C _ => C.ar (k := 27) (K := 45) (n := 3) (by decide)) ?_
  refine c_iload rfl ?_
  refine c_dup2 ?_
  refine c_ald (fun _ C l9 i9 => (fun z => ⟨z.1, z.2.trans hn⟩) (C.an (k := 27) (K := 45) (n := 3) (by decide) i9 (ofN (by omega)).2)) (fun p6 => ?_)
  refine c_iconst ?_
  refine c_bin (ofN_add (n) (1)) ?_
  refine c_ast (fun _ C l9 i9 => C.sn (k := 27) (K := 45) (n := 3) (by decide) i9 (ofN (by omega)).2) (fun p7 => ?_)
  exact c_ret ⟨rfl, rfl⟩
