/-! EXACT RULES -/
theorem i32_1 : (1 : Int32).toInt = 1 := rfl
theorem tx46 {c : xP} {h : xH} {Z : xO → xH → Prop} {x0 : Int32} (V : VI c 0 0 h) (hZ : ∀ (o : xO) (g : xH), (g = h ∧ (o = .inl none ∧ (x0.toInt ≠ 0))) ∨ ((CI g ∧ x_pj g = c) ∧ o = .inr 2 ∧ (x0.toInt = 0)) → Z o g) : xC 10 46 [.inl x0] h Z := by
  refine ⟨rfl, V.2.2.1, V.2.2.2, ?_⟩
  show xR _ 46 0 ([.inl x0], [], h) Z
  refine xR.blk c46_0 ?_
  refine q_iload rfl ?_
  refine v_if_ne (fun d1 => ?_) (fun d1 => ?_)
  · refine xR.blk c46_12 ?_
    exact q_ret (hZ _ _ (Or.inl ⟨rfl, ⟨rfl, by omega⟩⟩))
  · exact q_throw (Nat.le_of_ble_eq_true rfl) (by rw [V.2.2.1]; decide) (by rw [V.2.2.2]; decide) (fun d => hZ _ _ (Or.inr ⟨V.exc, rfl, by omega⟩))
theorem CI.r11 {h : xH} (hC : CI h) : x_vr h 7 0 1 = 1 := by
  have l7 : x_live h 7 1 := ⟨Nat.le_refl 1, by rw [hC.2.2.2.2.2.2.1 7 1 (by decide)]; exact Nat.le_refl 1⟩
  have q := hC.1 7 0 1 (by decide) l7
  have a := q.1
  have b : x_vr h 7 0 1 ≤ x_cn h 11 := q.2
  rw [hC.2.2.2.2.2.2.1 11 1 (by decide)] at b
  omega
section XLX
variable {nx n : Nat} {r : List (Nat × xI)} {Z : xO → xH → Prop} {J : Nat → xS → Prop} {ls st : List xV} {h : xH} {c : xP} {a b : Nat} {Γ : xG}
theorem v_gfrx {K k T j j' : Nat} (V : VI c a b h) (hj : L c K j) (e : x_vr h K k j = j') (kk : x_seq r Γ Z J (ls, .inr (.inr (T, j')) :: st, h)) : x_seq ((nx, x_gfr K k T) :: r) Γ Z J (ls, .inr (.inr (K, j)) :: st, h) := by
  subst e
  exact q_gfr (V.lv hj) kk
theorem v_gfix {K k j : Nat} {z : Int32} (V : VI c a b h) (hj : L c K j) (e : x_vi h K k j = z) (kk : x_seq r Γ Z J (ls, .inl z :: st, h)) : x_seq ((nx, x_gfi K k) :: r) Γ Z J (ls, .inr (.inr (K, j)) :: st, h) := by
  subst e
  exact q_gfi (V.lv hj) kk
theorem v_aaldx {K T L' j j' : Nat} {i : Int32} (V : VI c a b h) (hm' : (K, L') ∈ x_lnl) (hj : L c K j) (h0 : 0 ≤ i.toInt) (h1 : i.toInt < L') (e : x_vr h K j i.toNatClampNeg = j') (kk : x_seq r Γ Z J (ls, .inr (.inr (T, j')) :: st, h)) : x_seq ((nx, x_aald K T) :: r) Γ Z J (ls, .inl i :: .inr (.inr (K, j)) :: st, h) := by
  subst e
  exact q_aald (V.lv hj) (V.inn hm' hj h0 h1) kk
end XLX
/-! HUNT IN THE CLASS: exact -/
/-- x is among the first n -/
def hs (f : Nat → Int32) (n : Int) (x : Int32) : Prop := ∃ i : Nat, (i : Int) < n ∧ f i = x
theorem tx24 {c : xP} {h : xH} {Z : xO → xH → Prop} {x0 : Nat} (V : VI c 0 0 h) (g0 : L c 5 x0) (hZ : Z (.inl (some (.inl (x_vi h 5 1 x0)))) h) : xC 10 24 [.inr (.inr (5, x0))] h Z := by
  refine ⟨rfl, V.2.2.1, V.2.2.2, xR.blk c24_0 ?_⟩
  exact q_aload rfl (by decide) (q_gfi (V.lv g0) (q_iret hZ))
theorem tx21 {c : xP} {h : xH} {Z : xO → xH → Prop} {x0 : Nat} {x1 : Int32} (V : VI c 0 0 h) (g0 : L c 5 x0) (hZ : ∀ (o : xO) (g : xH), g = h ∧ (∃ b : Int32, o = .inl (some (.inl b)) ∧ ((b.toInt = 1 ∧ hs (x_vi h 20 (x_vr h 5 0 x0)) (x_vi h 5 1 x0).toInt x1) ∨ (b.toInt = 0 ∧ ¬ hs (x_vi h 20 (x_vr h 5 0 x0)) (x_vi h 5 1 x0).toInt x1))) → Z o g) : xC 300 21 [.inr (.inr (5, x0)), .inl x1] h Z := by
  refine ⟨rfl, V.2.2.1, V.2.2.2, ?_⟩
  show xR _ 21 0 ([.inr (.inr (5, x0)), .inl x1, .inr (.inr (0, 0))], [], h) Z
  refine xR.blk c21_0 ?_
  refine v_iconst (k := 0) rfl (fun v1 e2 => ?_)
  refine q_istore (Nat.le_of_ble_eq_true rfl) ?_
  show x_seq _ _ _ _ ([.inr (.inr (5, x0)), .inl x1, .inl v1], [], h)
  refine q_goto ?_
  have e8 := V.1.2.2.2.2.2.2.2.2.2 x0 (V.lv g0)
  have lp4 : ∀ (m3 : Nat) (y : Int32), (0 ≤ y.toInt ∧ y.toInt ≤ 24) → (∀ i : Nat, (i : Int) < y.toInt → x_vi h 20 (x_vr h 5 0 x0) i ≠ x1) → (24 - y.toInt).toNat < m3 → xR (10 + 6 * m3) 21 2 ([.inr (.inr (5, x0)), .inl x1, .inl y], [], h) Z := by
    intro m3
    induction m3 with
    | zero => intro y ky kn km; exact absurd km (by omega)
    | succ m3 ih5 =>
      intro y ky kn km
      have hc := x_clamp ky.1
      rw [show 10 + 6 * (m3 + 1) = 10 + 6 * m3 + 6 by omega]
      refine xR.blk c21_2 ?_
      refine q_iload rfl ?_
      refine q_aload rfl (by decide) ?_
      refine q_gfi (V.lv g0) ?_
      refine v_icmp_ge (fun d9 => ?_) (fun d9 => ?_)
      · refine xR.blk c21_28 ?_
        refine v_iconst (k := 0) rfl (fun v10 e11 => ?_)
        exact q_zret (i32_01 (by omega)) (hZ _ _ ⟨rfl, _, rfl, Or.inr ⟨e11, fun ⟨i, hi, e⟩ => kn i (by omega) e⟩⟩)
      · refine q_aload rfl (by decide) ?_
        refine q_gfr (V.lv g0) ?_
        refine q_iload rfl ?_
        refine q_ald (V.lv (V.nn (K := 5) (k := 0) (by decide) g0)) ⟨by omega, by omega⟩ ?_
        refine q_iload rfl ?_
        refine v_icmp_ne (fun d12 => ?_) (fun d12 => ?_)
        · refine xR.blk c21_22 ?_
          refine v_iinc (k := 1) rfl rfl (by omega) (by have b9 := Int32.toInt_lt y; omega) (fun v13 e14 => ?_)
          show x_seq _ _ _ _ ([.inr (.inr (5, x0)), .inl x1, .inl v13], [], h)
          refine q_goto ?_
          refine (ih5 v13 (by omega) (fun i hi e => ?_) (by omega)).up (by omega)
          by_cases e9 : i = y.toNatClampNeg
          · rw [e9] at e
            exact d12 (by rw [e])
          · exact kn i (by omega) e
        · refine v_iconst (k := 1) rfl (fun v15 e16 => ?_)
          exact q_zret (i32_01 (by omega)) (hZ _ _ ⟨rfl, _, rfl, Or.inl ⟨e16, y.toNatClampNeg, by omega, i32_eq.mpr (by omega)⟩⟩)
  exact (lp4 25 v1 (by omega) (fun i hi => absurd hi (by omega)) (by omega)).up (by omega)
theorem hw_o {o t : Nat} (ht : t < 4) : hw (4 * o + t) = 30 * o + 3 + t := by
  unfold hw
  rw [show (4 * o + t) / 4 = o by omega, show (4 * o + t) % 4 = t by omega]
/-- the hunts in the heap, as the word says -/
theorem kC_hs {v : (Nat → Int32) × (Nat → Nat → Int32)} {h : xH} {g : Nat} {x : Int32} (K : kC v h) (hg : g < 12) (h6 : (v.1 g).toInt ≤ 6) : hs (x_vi h 20 (x_vr h 5 0 (hw g))) (x_vi h 5 1 (hw g)).toInt x ↔ hs (v.2 g) (v.1 g).toInt x := by
  rw [((K.2.1 (hw g)).2.2.2.2 (hw_hr hg)).1, (K.2.2.2 g hg).1]
  refine ⟨fun ⟨i, hi, e⟩ => ⟨i, hi, ?_⟩, fun ⟨i, hi, e⟩ => ⟨i, hi, ?_⟩⟩
  · rw [← (K.2.2.2 g hg).2 i (by omega)]; exact e
  · rw [(K.2.2.2 g hg).2 i (by omega)]; exact e
/-- the line is in a hunt of the office -/
def inh (v : (Nat → Int32) × (Nat → Nat → Int32)) (o : Nat) (x : Int32) : Prop := ∃ t : Nat, t < 4 ∧ hs (v.2 (4 * o + t)) (v.1 (4 * o + t)).toInt x
theorem tx22 {c : xP} {h : xH} {Z : xO → xH → Prop} {o : Nat} {x1 : Int32} {v w : (Nat → Int32) × (Nat → Nat → Int32)} (V : VI c 0 0 h) (ho : o < 3) (K : kP v w h) (hr6 : ∀ g, g < 12 → (v.1 g).toInt ≤ 6) (hZ : ∀ (q : xO) (g : xH), g = h ∧ (∃ b : Int32, q = .inl (some (.inl b)) ∧ ((b.toInt = 1 ∧ inh v o x1) ∨ (b.toInt = 0 ∧ ¬ inh v o x1))) → Z q g) : xC 400 22 [.inr (.inr (3, o + 1)), .inl x1] h Z := by
  have g0 : L c 3 (o + 1) := ⟨by omega, by rw [V.cnt (K := 3) (n := 3) (by decide)]; omega⟩
  have l19 : L c 19 (o + 1) := ⟨by omega, by rw [V.cnt (K := 19) (n := 3) (by decide)]; omega⟩
  have k3 := K.1.2.2.1 o ho
  refine ⟨rfl, V.2.2.1, V.2.2.2, ?_⟩
  show xR _ 22 0 ([.inr (.inr (3, o + 1)), .inl x1, .inr (.inr (0, 0))], [], h) Z
  refine xR.blk c22_0 ?_
  refine v_iconst (k := 0) rfl (fun v1 e2 => ?_)
  refine q_istore (Nat.le_of_ble_eq_true rfl) ?_
  show x_seq _ _ _ _ ([.inr (.inr (3, o + 1)), .inl x1, .inl v1], [], h)
  refine q_goto ?_
  have lp4 : ∀ (m3 : Nat) (y : Int32), (0 ≤ y.toInt ∧ y.toInt ≤ 4) → (∀ t : Nat, (t : Int) < y.toInt → ¬ hs (v.2 (4 * o + t)) (v.1 (4 * o + t)).toInt x1) → (4 - y.toInt).toNat < m3 → xR (310 + 8 * m3) 22 2 ([.inr (.inr (3, o + 1)), .inl x1, .inl y], [], h) Z := by
    intro m3
    induction m3 with
    | zero => intro y ky kn km; exact absurd km (by omega)
    | succ m3 ih5 =>
      intro y ky kn km
      have hc := x_clamp ky.1
      rw [show 310 + 8 * (m3 + 1) = 310 + 8 * m3 + 8 by omega]
      refine xR.blk c22_2 ?_
      refine q_iload rfl ?_
      refine v_iconst (k := 4) rfl (fun v8 e9 => ?_)
      refine v_icmp_ge (fun d10 => ?_) (fun d10 => ?_)
      · refine xR.blk c22_28 ?_
        refine v_iconst (k := 0) rfl (fun v11 e12 => ?_)
        exact q_zret (i32_01 (by omega)) (hZ _ _ ⟨rfl, _, rfl, Or.inr ⟨e12, fun ⟨t, ht, e⟩ => kn t (by omega) e⟩⟩)
      · have ht : y.toNatClampNeg < 4 := by omega
        have f16 : L c 5 (30 * o + 3 + y.toNatClampNeg) := ⟨by omega, by rw [← V.cn]; have := K.1.1.1; omega⟩
        refine q_aload rfl (by decide) ?_
        refine v_gfrx V g0 k3.2.1 ?_
        refine q_iload rfl ?_
        refine v_aaldx (L' := 4) V (by decide) l19 (by omega) (by omega) (k3.2.2 y.toNatClampNeg ht) ?_
        refine q_iload rfl ?_
        refine q_callv rfl (by decide) (V.lv f16) (Nat.le_of_ble_eq_true rfl) (Nat.le_of_ble_eq_true rfl) (by rw [V.2.2.1]; decide) (by rw [V.2.2.2]; decide) ?_
        refine xC.up (tx21 (x0 := 30 * o + 3 + y.toNatClampNeg) (x1 := x1) V.set f16 (fun o17 g18 hp => ?_)) (by omega)
        obtain ⟨rfl, ⟨v20, rfl, f21⟩⟩ := hp
        have hh := kC_hs (x := x1) K.1 (g := 4 * o + y.toNatClampNeg) (by omega) (hr6 _ (by omega))
        rw [hw_o ht] at hh
        have f21 : (v20.toInt = 1 ∧ hs (x_vi h 20 (x_vr h 5 0 (30 * o + 3 + y.toNatClampNeg))) (x_vi h 5 1 (30 * o + 3 + y.toNatClampNeg)).toInt x1) ∨ (v20.toInt = 0 ∧ ¬ hs (x_vi h 20 (x_vr h 5 0 (30 * o + 3 + y.toNatClampNeg))) (x_vi h 5 1 (30 * o + 3 + y.toNatClampNeg)).toInt x1) := f21
        rw [hh] at f21
        show x_seq _ _ _ _ ([.inr (.inr (3, o + 1)), .inl x1, .inl y], [.inl v20], h)
        refine v_if_eq (fun d22 => ?_) (fun d22 => ?_)
        · refine xR.blk c22_22 ?_
          refine v_iinc (k := 1) rfl rfl (by omega) (by have b9 := Int32.toInt_lt y; omega) (fun v23 e24 => ?_)
          show x_seq _ _ _ _ ([.inr (.inr (3, o + 1)), .inl x1, .inl v23], [], h)
          refine q_goto ?_
          refine (ih5 v23 (by omega) (fun t ht' e => ?_) (by omega)).up (by omega)
          by_cases e9 : t = y.toNatClampNeg
          · rw [e9] at e
            rcases f21 with ⟨q, -⟩ | ⟨-, q⟩
            · omega
            · exact q e
          · exact kn t (by omega) e
        · refine v_iconst (k := 1) rfl (fun v25 e26 => ?_)
          rcases f21 with ⟨-, q⟩ | ⟨q, -⟩
          · exact q_zret (i32_01 (by omega)) (hZ _ _ ⟨rfl, _, rfl, Or.inl ⟨e26, y.toNatClampNeg, ht, q⟩⟩)
          · exact absurd q d22
  exact (lp4 5 v1 (by omega) (fun t ht => absurd ht (by omega)) (by omega)).up (by omega)
/-- line x is the last of hunt g -/
def uph (v : (Nat → Int32) × (Nat → Nat → Int32)) (g : Nat) (x : Int32) : (Nat → Int32) × (Nat → Nat → Int32) := (fun t => if t = g then v.1 g + 1 else v.1 t, fun t i => if t = g ∧ i = (v.1 g).toNatClampNeg then x else v.2 t i)
theorem hw_inj {g t : Nat} (h : hw t = hw g) (hg : g < 12) (ht : t < 12) : t = g := by unfold hw at h; omega
theorem kP.hunt {v w : (Nat → Int32) × (Nat → Nat → Int32)} {h : xH} {g : Nat} {x : Int32} (K : kP v w h) (hg : g < 12) : kP (uph v g x) w (x_puti (x_puti h 20 (hw g) (v.1 g).toNatClampNeg x) 5 1 (hw g) (v.1 g + 1)) := by
  obtain ⟨⟨c1, c2, c3, c4⟩, r⟩ := K
  refine ⟨⟨c1, c2, c3, fun t ht => ⟨?_, fun i hi => ?_⟩⟩, fun t ht => ⟨?_, fun i hi => ?_⟩⟩
  · show _ = if t = g then v.1 g + 1 else v.1 t
    rw [x_vi_puti]
    by_cases e : t = g
    · rw [if_pos ⟨rfl, rfl, by rw [e]⟩, if_pos e]
    · rw [if_neg (fun z => e (hw_inj z.2.2 hg ht)), if_neg e, x_vi_puti, if_neg (by omega)]
      exact (c4 t ht).1
  · show _ = if t = g ∧ i = (v.1 g).toNatClampNeg then x else v.2 t i
    rw [x_vi_puti, if_neg (by omega), x_vi_puti]
    by_cases e : t = g ∧ i = (v.1 g).toNatClampNeg
    · rw [if_pos ⟨rfl, by rw [e.1], e.2⟩, if_pos e]
    · rw [if_neg (fun z => e ⟨hw_inj z.2.1 hg ht, z.2.2⟩), if_neg e]
      exact (c4 t ht).2 i hi
  · rw [x_vi_puti, if_neg (by omega), x_vi_puti, if_neg (by omega)]; exact (r t ht).1
  · rw [x_vi_puti, if_neg (by omega), x_vi_puti, if_neg (by omega)]; exact (r t ht).2 i hi
theorem tx37 {c : xP} {h : xH} {Z : xO → xH → Prop} {g : Nat} {x1 : Int32} {v w : (Nat → Int32) × (Nat → Nat → Int32)} (V : VI c 0 0 h) (hg : g < 12) (K : kP v w h) (h5 : 0 ≤ (v.1 g).toInt ∧ (v.1 g).toInt ≤ 5) (hZ : ∀ (o : xO) (g' : xH), (CI g' ∧ x_pj g' = c) ∧ o = .inl none ∧ kP (uph v g x1) w g' → Z o g') : xC 10 37 [.inr (.inr (5, hw g)), .inl x1] h Z := by
  have g0 : L c 5 (hw g) := ⟨by unfold hw; omega, by rw [← V.cn]; have := K.1.1.1; unfold hw; omega⟩
  have hrow := V.row g0
  have r5 := (K.1.2.1 (hw g)).2.2.2.2 (hw_hr hg)
  have k4 := (K.1.2.2.2 g hg).1
  have hl : (Int32.ofNat (x_ln h 20 (x_vr h 5 0 (hw g)))).toInt = x_ln h 20 (x_vr h 5 0 (hw g)) := toInt_of rfl (by omega)
  have K2 : kP (uph v g x1) w (x_puti (x_puti h 20 (x_vr h 5 0 (hw g)) (x_vi h 5 1 (hw g)).toNatClampNeg x1) 5 1 (hw g) (x_vi h 5 1 (hw g) + 1)) := by
    rw [r5.1, k4]
    exact kP.hunt K hg
  have l6 : x_ln h 20 (x_vr h 5 0 (hw g)) = 6 := by rw [r5.1]; exact r5.2
  rw [k4] at hrow
  refine ⟨rfl, V.2.2.1, V.2.2.2, xR.blk c37_0 ?_⟩
  refine q_aload rfl (by decide) (q_gfi (V.lv g0) (q_aload rfl (by decide) (q_gfr (V.lv g0) (q_alen (V.lv (V.nn (K := 5) (k := 0) (by decide) g0)) (v_icmp_ge (fun d => ?_) (fun d => ?_))))))
  · rw [k4] at d
    exact absurd d (by omega)
  · refine q_aload rfl (by decide) (q_gfr (V.lv g0) (q_aload rfl (by decide) (q_gfi (V.lv g0) (q_iload rfl (q_ast (V.lv (V.nn (K := 5) (k := 0) (by decide) g0)) ⟨by rw [k4]; omega, by rw [k4]; omega⟩ ?_)))))
    have V2 := VI.put20 (k := x_vr h 5 0 (hw g)) (i := (x_vi h 5 1 (hw g)).toNatClampNeg) (v := x1) V
    refine q_aload rfl (by decide) (q_dup rfl (q_gfi (V2.lv g0) (q_iconst (q_bin (q_pfi (V2.lv g0) (q_goto (xR.blk c37_32 (q_ret (hZ _ _ ⟨⟨CI.put51 V2.1 ?_, (x_pj_puti rfl).trans V2.2.1⟩, rfl, K2⟩)))))))))
    show 0 ≤ (x_vi h 5 1 (hw g) + 1).toInt ∧ (x_vi h 5 1 (hw g) + 1).toInt ≤ x_ln h 20 (x_vr h 5 0 (hw g))
    have e1 : (1 : Int32).toInt = 1 := rfl
    rw [k4, i32_add (by rw [e1]; omega) (by rw [e1]; omega), e1]
    omega
/-- good office, hunt and line -/
def hA (x1 x2 x3 : Int32) : Prop := (0 ≤ x1.toInt ∧ x1.toInt ≤ 2) ∧ (0 ≤ x2.toInt ∧ x2.toInt ≤ 3) ∧ 0 ≤ x3.toInt ∧ x3.toInt ≤ 23
/-- the hunt's number -/
def gi (x1 x2 : Int32) : Nat := 4 * x1.toNatClampNeg + x2.toNatClampNeg
/-- full, or the line is in a hunt -/
def hb (v : (Nat → Int32) × (Nat → Nat → Int32)) (x1 x2 x3 : Int32) : Prop := 6 ≤ (v.1 (gi x1 x2)).toInt ∨ inh v x1.toNatClampNeg x3
theorem gi_lt {x1 x2 x3 : Int32} (h : hA x1 x2 x3) : gi x1 x2 < 12 := by
  have h1 := x_clamp h.1.1
  have h2 := x_clamp h.2.1.1
  have a := h.1.2
  have b := h.2.1.2
  unfold gi
  omega
theorem tx50 {c : xP} {h : xH} {Z : xO → xH → Prop} {x1 x2 x3 : Int32} {v w : (Nat → Int32) × (Nat → Nat → Int32)} (V : VI c 0 0 h) (g0 : L c 7 1) (K : kP v w h) (hr6 : ∀ g, g < 12 → 0 ≤ (v.1 g).toInt ∧ (v.1 g).toInt ≤ 6)
    (hZ : ∀ (o : xO) (g : xH), ((CI g ∧ x_pj g = c) ∧ (∃ b : Int32, o = .inl (some (.inl b)) ∧ hA x1 x2 x3 ∧ ¬ hb v x1 x2 x3 ∧ b = v.1 (gi x1 x2) + 1 ∧ kP (uph v (gi x1 x2) x3) w g)) ∨ ((CI g ∧ x_pj g = c) ∧ o = .inr 1 ∧ ¬ hA x1 x2 x3 ∧ kP v w g) ∨ ((CI g ∧ x_pj g = c) ∧ o = .inr 2 ∧ hA x1 x2 x3 ∧ hb v x1 x2 x3 ∧ kP v w g) → Z o g) : xC 1000 50 [.inr (.inr (7, 1)), .inl x1, .inl x2, .inl x3] h Z := by
  refine ⟨rfl, V.2.2.1, V.2.2.2, ?_⟩
  show xR _ 50 0 ([.inr (.inr (7, 1)), .inl x1, .inl x2, .inl x3, .inr (.inr (0, 0))], [], h) Z
  have jn28 : ∀ b : Int32, ((b.toInt = 1 ∧ hA x1 x2 x3) ∨ (b.toInt = 0 ∧ ¬ hA x1 x2 x3)) → xR 900 50 28 ([.inr (.inr (7, 1)), .inl x1, .inl x2, .inl x3, .inr (.inr (0, 0))], [.inl b], h) Z := by
    intro b hb9
    refine xR.blk c50_28 ?_
    refine q_call (Nat.le_of_ble_eq_true rfl) (Nat.le_of_ble_eq_true rfl) (by rw [V.2.2.1]; decide) (by rw [V.2.2.2]; decide) ?_
    refine ((tw45 (x0 := b) V.set (fun _ _ hp => hp)).kp (v := v) (w := w) rfl K).mono (by omega) (fun o9 g10 hp => ?_)
    obtain ⟨hp, K9⟩ := hp
    rcases hp with ⟨rfl, rfl, f13⟩ | ⟨hg11, rfl, f9⟩
    · have hA9 : hA x1 x2 x3 := by
        rcases hb9 with ⟨-, q⟩ | ⟨q, -⟩
        · exact q
        · exact absurd q f13
      have hgi := gi_lt hA9
      obtain ⟨a1, a2, a3⟩ := id hA9
      have hc1 := x_clamp a1.1
      have hc2 := x_clamp a2.1
      have V14 : VI c 1 6 (x_setc (x_setc h 0 0) (x_ce h + 1) (x_so h + 6)) := VI.after (mc := 1) (ms := 6) V ⟨V.1, V.2.1⟩
      have K14 : kP v w (x_setc (x_setc h 0 0) (x_ce h + 1) (x_so h + 6)) := K
      show x_seq _ _ _ _ ([.inr (.inr (7, 1)), .inl x1, .inl x2, .inl x3, .inr (.inr (0, 0))], [], (x_setc (x_setc h 0 0) (x_ce h + 1) (x_so h + 6)))
      generalize x_setc (x_setc h 0 0) (x_ce h + 1) (x_so h + 6) = h8 at V14 K14 ⊢
      have k3 := K14.1.2.2.1 x1.toNatClampNeg (by omega)
      have l11 : L c 11 1 := ⟨Nat.le_refl 1, by rw [V.cnt (K := 11) (n := 1) (by decide)]; exact Nat.le_refl 1⟩
      have l3 : L c 3 (x1.toNatClampNeg + 1) := ⟨by omega, by rw [V.cnt (K := 3) (n := 3) (by decide)]; omega⟩
      have l19 : L c 19 (x1.toNatClampNeg + 1) := ⟨by omega, by rw [V.cnt (K := 19) (n := 3) (by decide)]; omega⟩
      have f22 : L c 5 (hw (gi x1 x2)) := ⟨by unfold hw; omega, by rw [← V14.cn]; have := K14.1.1.1; unfold hw; omega⟩
      refine q_aload rfl (by decide) ?_
      refine v_gfrx (j' := 1) V14 g0 V14.1.r11 ?_
      refine q_iload rfl ?_
      refine v_aaldx (L' := 3) V14 (by decide) l11 (by omega) (by omega) k3.1 ?_
      refine v_gfrx V14 l3 k3.2.1 ?_
      refine q_iload rfl ?_
      refine v_aaldx (j' := hw (gi x1 x2)) (L' := 4) V14 (by decide) l19 (by omega) (by omega) ((k3.2.2 x2.toNatClampNeg (by omega)).trans (hw_o (by omega)).symm) ?_
      refine q_astore (Nat.le_of_ble_eq_true rfl) ?_
      show x_seq _ _ _ _ ([.inr (.inr (7, 1)), .inl x1, .inl x2, .inl x3, .inr (.inr (5, hw (gi x1 x2)))], [], h8)
      refine q_aload rfl (by decide) ?_
      refine q_callv rfl (by decide) (V14.lv f22) (Nat.le_of_ble_eq_true rfl) (Nat.le_of_ble_eq_true rfl) (by rw [V14.2.2.1]; decide) (by rw [V14.2.2.2]; decide) ?_
      refine xC.up (tx24 (x0 := hw (gi x1 x2)) V14.set f22 ?_) (by omega)
      show x_seq _ _ _ _ ([.inr (.inr (7, 1)), .inl x1, .inl x2, .inl x3, .inr (.inr (5, hw (gi x1 x2)))], [.inl (x_vi h8 5 1 (hw (gi x1 x2)))], h8)
      rw [(K14.1.2.2.2 (gi x1 x2) hgi).1]
      have jn72 : ∀ b : Int32, ((b.toInt = 1 ∧ ¬ hb v x1 x2 x3) ∨ (b.toInt = 0 ∧ hb v x1 x2 x3)) → xR 400 50 72 ([.inr (.inr (7, 1)), .inl x1, .inl x2, .inl x3, .inr (.inr (5, hw (gi x1 x2)))], [.inl b], h8) Z := by
        intro b hb8
        refine xR.blk c50_72 ?_
        refine q_call (Nat.le_of_ble_eq_true rfl) (Nat.le_of_ble_eq_true rfl) (by rw [V14.2.2.1]; decide) (by rw [V14.2.2.2]; decide) ?_
        refine ((tx46 (x0 := b) V14.set (fun _ _ hp => hp)).kp (v := v) (w := w) rfl K14).mono (by omega) (fun o33 g34 hp => ?_)
        obtain ⟨hp, K34⟩ := hp
        rcases hp with ⟨rfl, rfl, f37⟩ | ⟨hg35, rfl, f9⟩
        · have nb : ¬ hb v x1 x2 x3 := by
            rcases hb8 with ⟨-, q⟩ | ⟨q, -⟩
            · exact q
            · exact absurd q f37
          have n6 : ¬ 6 ≤ (v.1 (gi x1 x2)).toInt := fun q => nb (Or.inl q)
          have V38 : VI c 2 12 (x_setc (x_setc h8 0 0) (x_ce h8 + 1) (x_so h8 + 6)) := VI.after (mc := 1) (ms := 6) V14 ⟨V14.1, V14.2.1⟩
          have K38 : kP v w (x_setc (x_setc h8 0 0) (x_ce h8 + 1) (x_so h8 + 6)) := K14
          show x_seq _ _ _ _ ([.inr (.inr (7, 1)), .inl x1, .inl x2, .inl x3, .inr (.inr (5, hw (gi x1 x2)))], [], (x_setc (x_setc h8 0 0) (x_ce h8 + 1) (x_so h8 + 6)))
          generalize x_setc (x_setc h8 0 0) (x_ce h8 + 1) (x_so h8 + 6) = h9 at V38 K38 ⊢
          refine q_aload rfl (by decide) ?_
          refine q_iload rfl ?_
          refine q_callv rfl (by decide) (V38.lv f22) (Nat.le_of_ble_eq_true rfl) (Nat.le_of_ble_eq_true rfl) (by rw [V38.2.2.1]; decide) (by rw [V38.2.2.2]; decide) ?_
          refine xC.up (tx37 (g := gi x1 x2) (x1 := x3) (v := v) (w := w) V38.set hgi K38 ⟨(hr6 _ hgi).1, by omega⟩ (fun o39 g40 hp => ?_)) (by omega)
          obtain ⟨hg41, rfl, K41⟩ := hp
          have V44 := VI.after (mc := 0) (ms := 0) V38 hg41
          show x_seq _ _ _ _ ([.inr (.inr (7, 1)), .inl x1, .inl x2, .inl x3, .inr (.inr (5, hw (gi x1 x2)))], [], x_setc g40 (x_ce h9 + 0) (x_so h9 + 0))
          have K44 : kP (uph v (gi x1 x2) x3) w (x_setc g40 (x_ce h9 + 0) (x_so h9 + 0)) := K41
          generalize x_setc g40 (x_ce h9 + 0) (x_so h9 + 0) = h45 at V44 K44 ⊢
          refine q_aload rfl (by decide) ?_
          refine q_callv rfl (by decide) (V44.lv f22) (Nat.le_of_ble_eq_true rfl) (Nat.le_of_ble_eq_true rfl) (by rw [V44.2.2.1]; decide) (by rw [V44.2.2.2]; decide) ?_
          refine xC.up (tx24 (x0 := hw (gi x1 x2)) V44.set f22 ?_) (by omega)
          show x_seq _ _ _ _ ([.inr (.inr (7, 1)), .inl x1, .inl x2, .inl x3, .inr (.inr (5, hw (gi x1 x2)))], [.inl (x_vi h45 5 1 (hw (gi x1 x2)))], h45)
          exact q_iret (hZ _ _ (Or.inl ⟨⟨V44.1, V44.2.1⟩, _, rfl, hA9, nb, (K44.1.2.2.2 (gi x1 x2) hgi).1.trans (if_pos rfl), K44⟩))
        · refine hZ _ _ (Or.inr (Or.inr ⟨hg35, rfl, hA9, ?_, K34⟩))
          rcases hb8 with ⟨q, -⟩ | ⟨-, q⟩
          · omega
          · exact q
      refine v_iconst (k := 6) rfl (fun v28 e29 => ?_)
      refine v_icmp_ge (fun d30 => ?_) (fun d30 => ?_)
      · refine xR.blk c50_71 ?_
        refine v_iconst (k := 0) rfl (fun v31 e32 => ?_)
        refine q_goto ?_
        exact (jn72 v31 (Or.inr ⟨e32, Or.inl (by omega)⟩)).up (by omega)
      · refine q_aload rfl (by decide) ?_
        refine v_gfrx (j' := 1) V14 g0 V14.1.r11 ?_
        refine q_iload rfl ?_
        refine v_aaldx (L' := 3) V14 (by decide) l11 (by omega) (by omega) k3.1 ?_
        refine q_iload rfl ?_
        refine q_callv rfl (by decide) (V14.lv l3) (Nat.le_of_ble_eq_true rfl) (Nat.le_of_ble_eq_true rfl) (by rw [V14.2.2.1]; decide) (by rw [V14.2.2.2]; decide) ?_
        refine xC.up (tx22 (o := x1.toNatClampNeg) (x1 := x3) (v := v) (w := w) V14.set (by omega) K14 (fun g hg => (hr6 g hg).2) (fun o55 g56 hp => ?_)) (by omega)
        obtain ⟨rfl, v58, rfl, f59⟩ := hp
        show x_seq _ _ _ _ ([.inr (.inr (7, 1)), .inl x1, .inl x2, .inl x3, .inr (.inr (5, hw (gi x1 x2)))], [.inl v58], h8)
        refine v_if_ne (fun d60 => ?_) (fun d60 => ?_)
        · refine xR.blk c50_71 ?_
          refine v_iconst (k := 0) rfl (fun v61 e62 => ?_)
          refine q_goto ?_
          refine (jn72 v61 (Or.inr ⟨e62, Or.inr ?_⟩)).up (by omega)
          rcases f59 with ⟨-, q⟩ | ⟨q, -⟩
          · exact q
          · exact absurd q d60
        · refine v_iconst (k := 1) rfl (fun v81 e82 => ?_)
          refine q_goto ?_
          refine (jn72 v81 (Or.inl ⟨e82, fun q => ?_⟩)).up (by omega)
          rcases q with q | q
          · omega
          · rcases f59 with ⟨z, -⟩ | ⟨-, z⟩
            · omega
            · exact z q
    · refine hZ _ _ (Or.inr (Or.inl ⟨hg11, rfl, ?_, K9⟩))
      rcases hb9 with ⟨q, -⟩ | ⟨-, q⟩
      · omega
      · exact q
  refine xR.blk c50_0 ?_
  refine q_iload rfl ?_
  refine q_call (Nat.le_of_ble_eq_true rfl) (Nat.le_of_ble_eq_true rfl) (by rw [V.2.2.1]; decide) (by rw [V.2.2.2]; decide) ?_
  refine xC.up (tv44 (x0 := x1) V.set (fun o1 g2 hp => ?_)) (by omega)
  obtain ⟨rfl, ⟨v4, rfl, f5⟩⟩ := hp
  show x_seq _ _ _ _ ([.inr (.inr (7, 1)), .inl x1, .inl x2, .inl x3, .inr (.inr (0, 0))], [.inl v4], h)
  refine v_if_eq (fun d6 => ?_) (fun d6 => ?_)
  · refine xR.blk c50_27 ?_
    refine v_iconst (k := 0) rfl (fun v7 e8 => ?_)
    refine q_goto ?_
    exact (jn28 v7 (Or.inr ⟨e8, fun q => by have := q.1; omega⟩)).up (by omega)
  · refine q_iload rfl ?_
    refine v_iconst (k := 0) rfl (fun v101 e102 => ?_)
    refine v_iconst (k := 3) rfl (fun v103 e104 => ?_)
    refine q_call (Nat.le_of_ble_eq_true rfl) (Nat.le_of_ble_eq_true rfl) (by rw [V.2.2.1]; decide) (by rw [V.2.2.2]; decide) ?_
    refine xC.up (tv25 (x0 := x2) (x1 := v101) (x2 := v103) V.set (fun o105 g106 hp => ?_)) (by omega)
    obtain ⟨rfl, ⟨v108, rfl, f109⟩⟩ := hp
    show x_seq _ _ _ _ ([.inr (.inr (7, 1)), .inl x1, .inl x2, .inl x3, .inr (.inr (0, 0))], [.inl v108], h)
    refine v_if_eq (fun d110 => ?_) (fun d110 => ?_)
    · refine xR.blk c50_27 ?_
      refine v_iconst (k := 0) rfl (fun v111 e112 => ?_)
      refine q_goto ?_
      exact (jn28 v111 (Or.inr ⟨e112, fun q => by have := q.2.1; omega⟩)).up (by omega)
    · refine q_iload rfl ?_
      refine q_call (Nat.le_of_ble_eq_true rfl) (Nat.le_of_ble_eq_true rfl) (by rw [V.2.2.1]; decide) (by rw [V.2.2.2]; decide) ?_
      refine xC.up (tv26 (x0 := x3) V.set (fun o205 g206 hp => ?_)) (by omega)
      obtain ⟨rfl, ⟨v208, rfl, f209⟩⟩ := hp
      show x_seq _ _ _ _ ([.inr (.inr (7, 1)), .inl x1, .inl x2, .inl x3, .inr (.inr (0, 0))], [.inl v208], h)
      refine v_if_eq (fun d210 => ?_) (fun d210 => ?_)
      · refine xR.blk c50_27 ?_
        refine v_iconst (k := 0) rfl (fun v211 e212 => ?_)
        refine q_goto ?_
        exact (jn28 v211 (Or.inr ⟨e212, fun q => by have := q.2.2; omega⟩)).up (by omega)
      · refine v_iconst (k := 1) rfl (fun v301 e302 => ?_)
        refine q_goto ?_
        exact (jn28 v301 (Or.inl ⟨e302, by unfold hA; omega⟩)).up (by omega)
/-! HUNT IN THE REFERENCE: exact -/
def wF (F : xF) : (Nat → Int32) × (Nat → Nat → Int32) := (F 26, fun g i => F 27 (6 * g + i))
/-- seen so far: all of the hunts below g, the first k of hunt g -/
def sn (F : xF) (o : Nat) (x : Int32) (g k : Nat) : Prop := (∃ t : Nat, t < 4 ∧ 4 * o + t < g ∧ hs ((wF F).2 (4 * o + t)) ((wF F).1 (4 * o + t)).toInt x) ∨ ∃ i : Nat, i < k ∧ F 27 (6 * g + i) = x
theorem sn_end {F : xF} {o g k : Nat} {x : Int32} (h : (F 26 g).toInt ≤ k) (h' : (k : Int) ≤ (F 26 g).toInt) (hg : 4 * o ≤ g ∧ g < 4 * o + 4) : sn F o x g k ↔ sn F o x (g + 1) 0 := by
  constructor
  · rintro (⟨t, ht, hl, q⟩ | ⟨i, hi, q⟩)
    · exact Or.inl ⟨t, ht, by omega, q⟩
    · refine Or.inl ⟨g - 4 * o, by omega, by omega, ?_⟩
      rw [show 4 * o + (g - 4 * o) = g by omega]
      exact ⟨i, by show (i : Int) < (F 26 g).toInt; omega, q⟩
  · rintro (⟨t, ht, hl, q⟩ | ⟨i, hi, q⟩)
    · by_cases e : 4 * o + t = g
      · rw [e] at q
        obtain ⟨i, hi, q⟩ := q
        have hi : (i : Int) < (F 26 g).toInt := hi
        exact Or.inr ⟨i, by omega, q⟩
      · exact Or.inl ⟨t, ht, by omega, q⟩
    · omega
theorem sn_all {F : xF} {o : Nat} {x : Int32} : sn F o x (4 * o + 4) 0 ↔ inh (wF F) o x := by
  constructor
  · rintro (⟨t, ht, hl, q⟩ | ⟨i, hi, q⟩)
    · exact ⟨t, ht, q⟩
    · omega
  · rintro ⟨t, ht, q⟩
    exact Or.inl ⟨t, ht, by omega, q⟩
theorem sn_no {F : xF} {o : Nat} {x : Int32} : ¬ sn F o x (4 * o) 0 := by
  rintro (⟨t, ht, hl, q⟩ | ⟨i, hi, q⟩) <;> omega
theorem sn_up {F : xF} {o g k : Nat} {x : Int32} : sn F o x g (k + 1) ↔ sn F o x g k ∨ F 27 (6 * g + k) = x := by
  constructor
  · rintro (q | ⟨i, hi, q⟩)
    · exact Or.inl (Or.inl q)
    · by_cases e : i = k
      · rw [e] at q; exact Or.inr q
      · exact Or.inl (Or.inr ⟨i, by omega, q⟩)
  · rintro ((q | ⟨i, hi, q⟩) | q)
    · exact Or.inl q
    · exact Or.inr ⟨i, by omega, q⟩
    · exact Or.inr ⟨k, by omega, q⟩
