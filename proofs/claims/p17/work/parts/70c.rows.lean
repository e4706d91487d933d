def rwl (v : vS) (r : Nat) : Prop := 1 ≤ r ∧ r ≤ v.2.2.2 5
theorem CR.rl {v : vS} {h : xH} {r : Nat} (C : CR v h) (l : x_live h 5 r) : rwl v r := ⟨l.1, by rw [← C.1.cn (by unfold ck; omega)]; exact l.2⟩
theorem CR0.lr {v : vS} {h : xH} {r : Nat} (C : CR0 v h) (hr : rwl v r) : x_live h 5 r := ⟨hr.1, by rw [C.cn (by unfold ck; omega)]; exact hr.2⟩
theorem CR.cx {v : vS} {h : xH} {r : Nat} (C : CR v h) (hr : rwl v r) : CX r (v, x_vi h 20 r, x_vi h 5 1 r) h := ⟨C.1, fun r' l _ => C.2 r' l, C.1.lr hr, fun _ => rfl, rfl⟩
theorem vi_ne {h : xH} {K k j K' k' j' : Nat} {x : Int32} (hn : K' = K → k' = k → False) : x_vi (x_puti h K k j x) K' k' j' = x_vi h K' k' j' := u3_ne hn
section XCX
variable {v : vS} {h : xH} {r : Nat} {f : Nat → Int32} {n : Int32}
theorem CR0.px (C : CR0 v h) {K k j : Nat} {x : Int32} (hk : cri K = false) : CR0 v (x_puti h K k j x) := by
  refine ⟨C.1, fun K' k' j' hk' => ?_, C.2.2.1, C.2.2.2.1, C.2.2.2.2.1, C.2.2.2.2.2⟩
  refine (u3_ne ?_).trans (C.2.1 K' k' j' hk')
  rintro rfl _
  rw [hk] at hk'; cases hk'
theorem CX.ps (C : CX r (v, f, n) h) {i : Nat} {x : Int32} : CX r (v, x_u1 f i x, n) (x_puti h 20 r i x) := by
  obtain ⟨c1, c2, c3, c4, c5⟩ := C
  refine ⟨c1.px rfl, fun r' l hn => ?_, c3, fun t => ?_, Eq.trans (vi_ne (fun a _ => absurd a (by decide))) c5⟩
  · obtain ⟨a, b, c⟩ := c2 r' l hn
    exact ⟨Eq.trans (vi_ne (fun a _ => absurd a (by decide))) a, b, fun t y hy => Eq.trans (vi_ne (fun _ z => hn z)) (c t y hy)⟩
  · show x_u3 (x_vi h) 20 r i x 20 r t = x_u1 f i x t
    unfold x_u3 x_u1
    by_cases e : t = i
    · rw [if_pos ⟨rfl, rfl, e⟩, if_pos e]
    · rw [if_neg (fun z => e z.2.2), if_neg e]
      exact c4 t
theorem CX.pn (C : CX r (v, f, n) h) {x : Int32} : CX r (v, f, x) (x_puti h 5 1 r x) := by
  obtain ⟨c1, c2, c3, c4, c5⟩ := C
  refine ⟨c1.px rfl, fun r' l hn => ?_, c3, fun t => Eq.trans (vi_ne (fun a _ => absurd a (by decide))) (c4 t), if_pos ⟨rfl, rfl, rfl⟩⟩
  obtain ⟨a, b, c⟩ := c2 r' l hn
  refine ⟨?_, b, fun t y hy => Eq.trans (vi_ne (fun a _ => absurd a (by decide))) (c t y hy)⟩
  show x_u3 (x_vi h) 5 1 r x 5 1 r' = _
  unfold x_u3
  rw [if_neg (fun z => hn z.2.2)]
  exact a
theorem CX.cnt (C : CX r (v, f, n) h) : x_vi h 5 1 r = n := C.2.2.2.2
theorem CX.itm (C : CX r (v, f, n) h) {i : Nat} : x_vi h 20 r i = f i := C.2.2.2.1 i
theorem CX.back (C : CX r (v, f, n) h) {l : List Int32} (hn : n = Int32.ofNat l.length) (hc : l.length ≤ cap r) (hf : ∀ (i : Nat) (x : Int32), l[i]? = some x → f i = x) : CR (vrw v r l) h := by
  obtain ⟨c1, c2, c3, c4, c5⟩ := C
  refine ⟨⟨c1.1, c1.2.1, c1.2.2.1, c1.2.2.2.1, c1.2.2.2.2.1, c1.2.2.2.2.2⟩, fun r' l' => ?_⟩
  show RWL h r' (x_u1 v.2.2.1 r l r')
  unfold x_u1
  by_cases e : r' = r
  · rw [if_pos e, e]
    exact ⟨c5.trans hn, hc, fun i x hx => (c4 i).trans (hf i x hx)⟩
  · rw [if_neg e]
    exact c2 r' l' e
end XCX
theorem vrw_self {v : vS} {r : Nat} {l : List Int32} (e : l = v.2.2.1 r) : vrw v r l = v := by
  subst e
  refine Prod.ext rfl (Prod.ext rfl (Prod.ext ?_ rfl))
  funext r'
  show (if r' = r then _ else _) = _
  by_cases e : r' = r
  · rw [if_pos e, e]
  · rw [if_neg e]
def radd (c : Nat) (l : List Int32) (x : Int32) : List Int32 := if l.length < c then l ++ [x] else l
def rdel (l : List Int32) (x : Int32) : List Int32 := l.filter (fun y => !(y == x))
/-- squeezing a list in place: f stands for l, of whose first i the ones with p are kept -/
def CP (f : Nat → Int32) (l : List Int32) (p : Int32 → Bool) (i k : Nat) : Prop := k = ((l.take i).filter p).length ∧ (∀ (t : Nat) (y : Int32), ((l.take i).filter p)[t]? = some y → f t = y) ∧ ∀ (t : Nat) (y : Int32), i ≤ t → l[t]? = some y → f t = y
theorem CP.init {f : Nat → Int32} {l : List Int32} {p : Int32 → Bool} (hf : ∀ (t : Nat) (y : Int32), l[t]? = some y → f t = y) : CP f l p 0 0 := ⟨by simp, fun t y hy => by simp at hy, fun t y _ hy => hf t y hy⟩
theorem CP.le {f : Nat → Int32} {l : List Int32} {p : Int32 → Bool} {i k : Nat} (c : CP f l p i k) : k ≤ i := by
  rw [c.1]
  exact Nat.le_trans (List.length_filter_le _ _) (by rw [List.length_take]; omega)
theorem take_s {l : List Int32} {i : Nat} {y : Int32} (hy : l[i]? = some y) : l.take (i + 1) = l.take i ++ [y] := by
  rw [List.take_succ, hy]; rfl
theorem CP.skip {f : Nat → Int32} {l : List Int32} {p : Int32 → Bool} {i k : Nat} {y : Int32} (c : CP f l p i k) (hy : l[i]? = some y) (hp : p y = false) : CP f l p (i + 1) k := by
  obtain ⟨c1, c2, c3⟩ := c
  have e : (l.take (i + 1)).filter p = (l.take i).filter p := by rw [take_s hy, List.filter_append]; simp [hp]
  exact ⟨by rw [e]; exact c1, fun t z hz => c2 t z (by rw [← e]; exact hz), fun t z ht hz => c3 t z (by omega) hz⟩
theorem CP.keep {f : Nat → Int32} {l : List Int32} {p : Int32 → Bool} {i k : Nat} {y : Int32} (c : CP f l p i k) (hy : l[i]? = some y) (hp : p y = true) : CP (x_u1 f k y) l p (i + 1) (k + 1) := by
  have hle := c.le
  obtain ⟨c1, c2, c3⟩ := c
  have e : (l.take (i + 1)).filter p = (l.take i).filter p ++ [y] := by rw [take_s hy, List.filter_append]; simp [hp]
  refine ⟨by rw [e, List.length_append, ← c1]; rfl, fun t z hz => ?_, fun t z ht hz => ?_⟩
  · rw [e] at hz
    unfold x_u1
    by_cases q : t = k
    · rw [if_pos q]
      rw [List.getElem?_append_right (by omega), show t - ((l.take i).filter p).length = 0 by omega] at hz
      simpa using hz
    · rw [if_neg q]
      by_cases q2 : t < k
      · rw [List.getElem?_append_left (by omega)] at hz
        exact c2 t z hz
      · rw [List.getElem?_eq_none (by rw [List.length_append, ← c1]; simp; omega)] at hz
        cases hz
  · unfold x_u1
    rw [if_neg (by omega)]
    exact c3 t z (by omega) hz
theorem CP.done {f : Nat → Int32} {l : List Int32} {p : Int32 → Bool} {i k : Nat} (c : CP f l p i k) (hi : l.length ≤ i) : k = (l.filter p).length ∧ ∀ (t : Nat) (y : Int32), (l.filter p)[t]? = some y → f t = y := by
  have e : l.take i = l := List.take_of_length_le hi
  obtain ⟨c1, c2, -⟩ := c
  rw [e] at c1 c2
  exact ⟨c1, c2⟩
theorem CR.l20 {v : vS} {h : xH} {r : Nat} (C : CR0 v h) (l : x_live h 5 r) : Int32.ofNat (x_ln h 20 r) = Int32.ofNat (cap r) := by rw [(C.2.2.2.2.1 r l).2]
theorem e37 {v : vS} {r : Nat} {x : Int32} (hr : rwl v r) : ED CR 37 [.inr (.inr (5, r)), .inl x] v (.inl none) (vrw v r (radd (cap r) (v.2.2.1 r) x)) := by
  refine EC.sw (R' := CX r) (fun h C => ⟨_, C.cx hr, ?_⟩)
  obtain ⟨hl1, hb, hl3⟩ := C.2 r (C.1.lr hr)
  have hc := cap_le r
  rw [hl1]
  generalize x_vi h 20 r = f at hl3 ⊢
  clear hl1
  generalize v.2.2.1 r = l at hb hl3 ⊢
  have o1 := ofN (n := l.length) (by omega)
  have o2 := ofN (n := cap r) (by omega)
  refine EC.mk (fun n0 => ?_)
  show BC _ n0 37 0 [.inr (.inr (5, r)), .inl x] [] _ _
  refine BC.blk c37_0 (fun m1 hm1 => ?_)
  refine c_aload rfl ?_
  refine c_gfi (fun _ C _ => C.cnt) ?_
  refine c_aload rfl ?_
  refine c_gfr (fun _ C _ => C.r50) ?_
  refine c_alen (fun _ C _ => CR.l20 C.1 C.2.2.1) ?_
  refine c_icmp_ge (fun d1 => ?_) (fun d1 => ?_)
  · refine BC.blk c37_32 (fun m2 hm2 => ?_)
    refine c_ret (fun g C' => ⟨_, C'.back rfl hb hl3, rfl, ?_⟩)
    show vrw v r l = vrw v r (radd (cap r) l x)
    rw [radd, if_neg (by omega)]
  · refine c_aload rfl ?_
    refine c_gfr (fun _ C _ => C.r50) ?_
    refine c_aload rfl ?_
    refine c_gfi (fun _ C _ => C.cnt) ?_
    refine c_iload rfl ?_
    refine c_ast (P := True) (fun _ C _ _ => ⟨trivial, C.ps⟩) (fun _ => ?_)
    refine c_aload rfl ?_
    refine c_dup ?_
    refine c_gfi (fun _ C _ => C.cnt) ?_
    refine c_iconst ?_
    refine c_bin rfl ?_
    refine c_pfi (fun _ C _ => C.pn) ?_
    refine c_goto ?_
    refine BC.blk c37_32 (fun m2 hm2 => ?_)
    refine c_ret (fun g C' => ⟨_, C'.back (l := l ++ [x]) ?_ (by rw [List.length_append]; show l.length + 1 ≤ _; omega) (fun i y hy => ?_), rfl, ?_⟩)
    · show Int32.ofNat l.length + 1 = Int32.ofNat (l ++ [x]).length
      rw [List.length_append]
      exact (Int32.ofNat_add _ _).symm
    · show x_u1 f (Int32.ofNat l.length).toNatClampNeg x i = y
      rw [o1.2]
      unfold x_u1
      by_cases q : i = l.length
      · rw [if_pos q]
        rw [q, List.getElem?_append_right (Nat.le_refl _), Nat.sub_self] at hy
        simpa using hy
      · rw [if_neg q]
        by_cases q2 : i < l.length
        · rw [List.getElem?_append_left q2] at hy
          exact hl3 i y hy
        · rw [List.getElem?_eq_none (by rw [List.length_append]; simp; omega)] at hy
          cases hy
    · show vrw v r (l ++ [x]) = vrw v r (radd (cap r) l x)
      rw [radd, if_pos (by omega)]
theorem e39 {v : vS} {r : Nat} (hr : rwl v r) : ED CR 39 [.inr (.inr (5, r))] v (.inl none) (vrw v r []) := by
  refine EC.sw (R' := CX r) (fun h C => ⟨_, C.cx hr, ?_⟩)
  refine EC.mk (fun n0 => ?_)
  show BC _ n0 39 0 [.inr (.inr (5, r))] [] _ _
  refine BC.blk c39_0 (fun m1 hm1 => ?_)
  refine c_aload rfl ?_
  refine c_iconst ?_
  refine c_pfi (fun _ C _ => C.pn) ?_
  exact c_ret (fun g C' => ⟨_, C'.back (l := []) rfl (Nat.zero_le _) (fun i y hy => by simp at hy), rfl, rfl⟩)
theorem e38 {v : vS} {r : Nat} {x : Int32} (hr : rwl v r) : ED CR 38 [.inr (.inr (5, r)), .inl x] v (.inl none) (vrw v r (rdel (v.2.2.1 r) x)) := by
  refine EC.sw (R' := CX r) (fun h C => ⟨_, C.cx hr, ?_⟩)
  obtain ⟨hl1, hb, hl3⟩ := C.2 r (C.1.lr hr)
  have hc := cap_le r
  rw [hl1]
  generalize x_vi h 20 r = f at hl3 ⊢
  clear hl1
  generalize v.2.2.1 r = l at hb hl3 ⊢
  have o1 := ofN (n := l.length) (by omega)
  refine EC.mk (fun n0 => ?_)
  show BC _ n0 38 0 [.inr (.inr (5, r)), .inl x, .inr (.inr (0, 0)), .inr (.inr (0, 0))] [] _ _
  refine BC.blk c38_0 (fun m1 hm1 => ?_)
  refine c_iconst ?_
  refine c_istore rfl ?_
  refine c_iconst ?_
  refine c_istore rfl ?_
  refine c_goto ?_
  have lp : ∀ (n : Nat) (k i : Int32) (f : Nat → Int32), 0 ≤ k.toInt → 0 ≤ i.toInt → i.toInt ≤ l.length → CP f l (fun y => !(y == x)) i.toNatClampNeg k.toNatClampNeg → BC (CX r) n 38 4 [.inr (.inr (5, r)), .inl x, .inl k, .inl i] [] (v, f, Int32.ofNat l.length) (fun o t' => ∀ g, CX r t' g → ∃ s', CR s' g ∧ o = .inl none ∧ s' = vrw v r (rdel l x)) := by
    intro n
    induction n using Nat.strongRecOn with
    | ind n ih =>
      intro k i f hk hi hil cp
      have ck := x_clamp hk
      have ci := x_clamp hi
      have cl := cp.le
      refine BC.blk c38_4 (fun m2 hm2 => ?_)
      refine c_iload rfl ?_
      refine c_aload rfl ?_
      refine c_gfi (fun _ C _ => C.cnt) ?_
      refine c_icmp_ge (fun d1 => ?_) (fun d1 => ?_)
      · refine BC.blk c38_43 (fun m3 hm3 => ?_)
        refine c_aload rfl ?_
        refine c_iload rfl ?_
        refine c_pfi (fun _ C _ => C.pn) ?_
        have cd := cp.done (by omega)
        refine c_ret (fun g C' => ⟨_, C'.back (l := rdel l x) ?_ (Nat.le_trans (List.length_filter_le _ _) hb) cd.2, rfl, rfl⟩)
        refine i32_eq.mpr ?_
        have : (rdel l x).length = k.toNatClampNeg := cd.1.symm
        have o3 := ofN (n := (rdel l x).length) (by omega)
        omega
      · have hit : i.toNatClampNeg < l.length := by omega
        have hy := List.getElem?_eq_getElem hit
        have fy := cp.2.2 _ _ (Nat.le_refl _) hy
        generalize l[i.toNatClampNeg] = y at hy fy
        refine c_aload rfl ?_
        refine c_gfr (fun _ C _ => C.r50) ?_
        refine c_iload rfl ?_
        refine c_ald (P := True) (fun _ C _ _ => ⟨trivial, C.itm⟩) (fun _ => ?_)
        refine c_iload rfl ?_
        have i1 : (i + 1).toInt = i.toInt + 1 := i32_add (by show _ ≤ _ + 1; omega) (by show _ + 1 < _; omega)
        have k1 : (k + 1).toInt = k.toInt + 1 := i32_add (by show _ ≤ _ + 1; omega) (by show _ + 1 < _; omega)
        have ci1 := x_clamp (n := i + 1) (by omega)
        have ck1 := x_clamp (n := k + 1) (by omega)
        refine c_icmp_eq (fun d2 => ?_) (fun d2 => ?_)
        · rw [fy] at d2
          refine BC.blk c38_37 (fun m3 hm3 => ?_)
          refine c_iinc rfl rfl ?_
          refine c_goto ?_
          refine ih m3 (by omega) k (i + 1) f hk (by omega) (by omega) ?_
          rw [show (i + 1).toNatClampNeg = i.toNatClampNeg + 1 by omega]
          exact cp.skip hy (by simp [d2])
        · rw [fy] at d2
          refine c_aload rfl ?_
          refine c_gfr (fun _ C _ => C.r50) ?_
          refine c_iload rfl ?_
          refine c_aload rfl ?_
          refine c_gfr (fun _ C _ => C.r50) ?_
          refine c_iload rfl ?_
          refine c_ald (P := True) (fun _ C _ _ => ⟨trivial, C.itm⟩) (fun _ => ?_)
          refine c_ast (P := True) (fun _ C _ _ => ⟨trivial, C.ps⟩) (fun _ => ?_)
          refine c_iinc rfl rfl ?_
          refine c_goto ?_
          refine BC.blk c38_37 (fun m3 hm3 => ?_)
          refine c_iinc rfl rfl ?_
          refine c_goto ?_
          refine ih m3 (by omega) (k + 1) (i + 1) _ (by omega) (by omega) (by omega) ?_
          rw [show (i + 1).toNatClampNeg = i.toNatClampNeg + 1 by omega, show (k + 1).toNatClampNeg = k.toNatClampNeg + 1 by omega]
          show CP (x_u1 f k.toNatClampNeg (f i.toNatClampNeg)) _ _ _ _
          rw [fy]
          exact cp.keep hy (by simp [d2])
  exact lp _ 0 0 f (by decide) (by decide) (by show (0 : Int) ≤ _; omega) (CP.init hl3)
