/-! LINES, LIFT, HANG in the class: exact (printed by make_lift.py) -/
/-- the line's number -/
def lx (x1 x2 : Int32) : Nat := 24 * x1.toNatClampNeg + x2.toNatClampNeg
/-- line i is lifted, or not -/
def upl (v : Nat → Int32) (i : Nat) (x : Int32) : Nat → Int32 := fun t => if t = i then x else v t
theorem tx46 {c : xP} {h : xH} {Z : xO → xH → Prop} {x0 : Int32} (V : VI c 0 0 h) (hZ : ∀ (o : xO) (g : xH), (g = h ∧ (o = .inl none ∧ (x0.toInt ≠ 0))) ∨ ((CI g ∧ x_pj g = c) ∧ o = .inr 2 ∧ (x0.toInt = 0)) → Z o g) : xC 10 46 [.inl x0] h Z := by
  refine ⟨rfl, V.2.2.1, V.2.2.2, ?_⟩
  show xR _ 46 0 ([.inl x0], [], h) Z
  refine xR.blk c46_0 ?_
  refine q_iload rfl ?_
  refine v_if_ne (fun d1 => ?_) (fun d1 => ?_)
  · refine xR.blk c46_12 ?_
    exact q_ret (hZ _ _ (Or.inl ⟨rfl, ⟨rfl, by omega⟩⟩))
  · exact q_throw (Nat.le_of_ble_eq_true rfl) (by rw [V.2.2.1]; decide) (by rw [V.2.2.2]; decide) (fun d => hZ _ _ (Or.inr ⟨V.exc, rfl, by omega⟩))
theorem CI.r11 {h : xH} (hC : CI h) : x_vr h 7 0 1 = 1 := by
  have l7 : x_live h 7 1 := ⟨Nat.le_refl 1, by rw [hC.2.2.2.2.2.2.1 7 1 (by decide)]; exact Nat.le_refl 1⟩
  have q := hC.1 7 0 1 (by decide) l7
  have a := q.1
  have b : x_vr h 7 0 1 ≤ x_cn h 11 := q.2
  rw [hC.2.2.2.2.2.2.1 11 1 (by decide)] at b
  omega
section XLX
variable {nx n : Nat} {r : List (Nat × xI)} {Z : xO → xH → Prop} {J : Nat → xS → Prop} {ls st : List xV} {h : xH} {c : xP} {a b : Nat} {Γ : xG}
theorem v_gfrx {K k T j j' : Nat} (V : VI c a b h) (hj : L c K j) (e : x_vr h K k j = j') (kk : x_seq r Γ Z J (ls, .inr (.inr (T, j')) :: st, h)) : x_seq ((nx, x_gfr K k T) :: r) Γ Z J (ls, .inr (.inr (K, j)) :: st, h) := by
  subst e
  exact q_gfr (V.lv hj) kk
theorem v_gfix {K k j : Nat} {z : Int32} (V : VI c a b h) (hj : L c K j) (e : x_vi h K k j = z) (kk : x_seq r Γ Z J (ls, .inl z :: st, h)) : x_seq ((nx, x_gfi K k) :: r) Γ Z J (ls, .inr (.inr (K, j)) :: st, h) := by
  subst e
  exact q_gfi (V.lv hj) kk
theorem v_aaldx {K T L' j j' : Nat} {i : Int32} (V : VI c a b h) (hm' : (K, L') ∈ x_lnl) (hj : L c K j) (h0 : 0 ≤ i.toInt) (h1 : i.toInt < L') (e : x_vr h K j i.toNatClampNeg = j') (kk : x_seq r Γ Z J (ls, .inr (.inr (T, j')) :: st, h)) : x_seq ((nx, x_aald K T) :: r) Γ Z J (ls, .inl i :: .inr (.inr (K, j)) :: st, h) := by
  subst e
  exact q_aald (V.lv hj) (V.inn hm' hj h0 h1) kk
end XLX
theorem kP.lf {v w : Nat → Int32} {h : xH} {i : Nat} {x : Int32} (K : kP v w h) : kP (upl v i x) w (x_puti h 2 2 (i + 1) x) := by
  obtain ⟨⟨c1, c2⟩, r⟩ := K
  refine ⟨⟨fun t ht => ?_, c2⟩, fun t ht => ?_⟩
  · show x_vi (x_puti h 2 2 (i + 1) x) 2 2 (t + 1) = if t = i then x else v t
    rw [x_vi_puti]
    by_cases e9 : t = i
    · rw [if_pos ⟨rfl, rfl, by omega⟩, if_pos e9]
    · rw [if_neg (by omega), if_neg e9]; exact c1 t ht
  · rw [x_vi_puti, if_neg (by omega)]; exact r t ht
theorem kP.sn {v w : Nat → Int32} {h : xH} {K k j : Nat} {x : Int32} (q : kP v w h) (hw : kwf K k = true) : kP v w (x_puti h K k j x) := (kB v w).2.2.1 h K k j x hw q
theorem tx51 {c : xP} {h : xH} {Z : xO → xH → Prop} {x1 : Int32} {x2 : Int32} {v w : Nat → Int32} (V : VI c 0 0 h) (g0 : L c 7 1) (K : kP v w h) (hZ : ∀ (o : xO) (g : xH), ((CI g ∧ x_pj g = c) ∧ kP v w g ∧ o = .inl (some (.inr (.inr (2, lx x1 x2 + 1)))) ∧ (0 ≤ x1.toInt ∧ x1.toInt ≤ 2 ∧ 0 ≤ x2.toInt ∧ x2.toInt ≤ 23)) ∨ ((CI g ∧ x_pj g = c) ∧ o = .inr 1 ∧ ¬ (0 ≤ x1.toInt ∧ x1.toInt ≤ 2 ∧ 0 ≤ x2.toInt ∧ x2.toInt ≤ 23) ∧ kP v w g) → Z o g) : xC 30 51 [.inr (.inr (7, 1)), .inl x1, .inl x2] h Z := by
  refine ⟨rfl, V.2.2.1, V.2.2.2, ?_⟩
  show xR _ 51 0 ([.inr (.inr (7, 1)), .inl x1, .inl x2], [], h) Z
  refine xR.blk c51_0 ?_
  refine q_iload rfl ?_
  refine q_call (Nat.le_of_ble_eq_true rfl) (Nat.le_of_ble_eq_true rfl) (by rw [V.2.2.1]; decide) (by rw [V.2.2.2]; decide) ?_
  refine xC.up (tv44 (x0 := x1) V.set  (fun o1 g2 hp => ?_)) (by omega)
  obtain ⟨rfl, ⟨v4, rfl, f5⟩⟩ := hp
  show x_seq _ _ _ _ ([.inr (.inr (7, 1)), .inl x1, .inl x2], [.inl v4], h)
  refine v_if_eq (fun d6 => ?_) (fun d6 => ?_)
  · skip
    refine xR.blk c51_18 ?_
    refine v_iconst (k := 0) rfl (fun v7 e8 => ?_)
    refine q_goto ?_
    refine xR.blk c51_19 ?_
    refine q_call (Nat.le_of_ble_eq_true rfl) (Nat.le_of_ble_eq_true rfl) (by rw [V.2.2.1]; decide) (by rw [V.2.2.2]; decide) ?_
    refine ((tw45 (x0 := v7) V.set (fun _ _ hp => hp)).kp (v := v) (w := w) rfl K).mono (by omega) (fun o9 g10 hp => ?_)
    obtain ⟨hp, K9⟩ := hp
    rcases hp with ⟨rfl, rfl, f13⟩ | ⟨hg11, rfl, f9⟩
    · skip
      have V14 : VI c 1 6 (x_setc (x_setc h 0 0) (x_ce h + 1) (x_so h + 6)) := VI.after (mc := 1) (ms := 6) V ⟨V.1, V.2.1⟩
      show x_seq _ _ _ _ ([.inr (.inr (7, 1)), .inl x1, .inl x2], [], (x_setc (x_setc h 0 0) (x_ce h + 1) (x_so h + 6)))
      refine q_aload rfl (by decide) ?_
      have hc1 := x_clamp (n := x1) (by omega)
      have hc2 := x_clamp (n := x2) (by omega)
      obtain ⟨a1, a2, a3⟩ := K.1.2 x1.toNatClampNeg (by omega)
      have l11 : L c 11 1 := ⟨Nat.le_refl 1, by rw [V.cnt (K := 11) (n := 1) (by decide)]; exact Nat.le_refl 1⟩
      have l3 : L c 3 (x1.toNatClampNeg + 1) := ⟨by omega, by rw [V.cnt (K := 3) (n := 3) (by decide)]; omega⟩
      have l16 : L c 16 (x1.toNatClampNeg + 1) := ⟨by omega, by rw [V.cnt (K := 16) (n := 3) (by decide)]; omega⟩
      refine v_gfrx (j' := 1) V14 g0 V.1.r11 ?_
      refine q_iload rfl ?_
      refine v_aaldx (L' := 3) V14 (by decide) l11 (by omega) (by omega) a1 ?_
      refine v_gfrx V14 l3 a2 ?_
      refine q_iload rfl ?_
      refine v_aaldx (L' := 24) V14 (by decide) l16 (by omega) (by omega) (a3 x2.toNatClampNeg (by omega)) ?_
      exact q_aret (hZ _ _ (Or.inl ⟨⟨V14.1, V14.2.1⟩, K, rfl, by omega⟩))
    · exact hZ _ _ (Or.inr ⟨hg11, rfl, by omega, K9⟩)
  · skip
    refine q_iload rfl ?_
    refine q_call (Nat.le_of_ble_eq_true rfl) (Nat.le_of_ble_eq_true rfl) (by rw [V.2.2.1]; decide) (by rw [V.2.2.2]; decide) ?_
    refine xC.up (tv26 (x0 := x2) V.set  (fun o23 g24 hp => ?_)) (by omega)
    obtain ⟨rfl, ⟨v26, rfl, f27⟩⟩ := hp
    show x_seq _ _ _ _ ([.inr (.inr (7, 1)), .inl x1, .inl x2], [.inl v26], h)
    refine v_if_eq (fun d28 => ?_) (fun d28 => ?_)
    · skip
      refine xR.blk c51_18 ?_
      refine v_iconst (k := 0) rfl (fun v29 e30 => ?_)
      refine q_goto ?_
      refine xR.blk c51_19 ?_
      refine q_call (Nat.le_of_ble_eq_true rfl) (Nat.le_of_ble_eq_true rfl) (by rw [V.2.2.1]; decide) (by rw [V.2.2.2]; decide) ?_
      refine ((tw45 (x0 := v29) V.set (fun _ _ hp => hp)).kp (v := v) (w := w) rfl K).mono (by omega) (fun o31 g32 hp => ?_)
      obtain ⟨hp, K9⟩ := hp
      rcases hp with ⟨rfl, rfl, f35⟩ | ⟨hg33, rfl, f9⟩
      · skip
        have V36 : VI c 1 6 (x_setc (x_setc h 0 0) (x_ce h + 1) (x_so h + 6)) := VI.after (mc := 1) (ms := 6) V ⟨V.1, V.2.1⟩
        show x_seq _ _ _ _ ([.inr (.inr (7, 1)), .inl x1, .inl x2], [], (x_setc (x_setc h 0 0) (x_ce h + 1) (x_so h + 6)))
        refine q_aload rfl (by decide) ?_
        have hc1 := x_clamp (n := x1) (by omega)
        have hc2 := x_clamp (n := x2) (by omega)
        obtain ⟨a1, a2, a3⟩ := K.1.2 x1.toNatClampNeg (by omega)
        have l11 : L c 11 1 := ⟨Nat.le_refl 1, by rw [V.cnt (K := 11) (n := 1) (by decide)]; exact Nat.le_refl 1⟩
        have l3 : L c 3 (x1.toNatClampNeg + 1) := ⟨by omega, by rw [V.cnt (K := 3) (n := 3) (by decide)]; omega⟩
        have l16 : L c 16 (x1.toNatClampNeg + 1) := ⟨by omega, by rw [V.cnt (K := 16) (n := 3) (by decide)]; omega⟩
        refine v_gfrx (j' := 1) V36 g0 V.1.r11 ?_
        refine q_iload rfl ?_
        refine v_aaldx (L' := 3) V36 (by decide) l11 (by omega) (by omega) a1 ?_
        refine v_gfrx V36 l3 a2 ?_
        refine q_iload rfl ?_
        refine v_aaldx (L' := 24) V36 (by decide) l16 (by omega) (by omega) (a3 x2.toNatClampNeg (by omega)) ?_
        exact q_aret (hZ _ _ (Or.inl ⟨⟨V36.1, V36.2.1⟩, K, rfl, by omega⟩))
      · exact hZ _ _ (Or.inr ⟨hg33, rfl, by omega, K9⟩)
    · skip
      refine v_iconst (k := 1) rfl (fun v45 e46 => ?_)
      refine q_goto ?_
      refine xR.blk c51_19 ?_
      refine q_call (Nat.le_of_ble_eq_true rfl) (Nat.le_of_ble_eq_true rfl) (by rw [V.2.2.1]; decide) (by rw [V.2.2.2]; decide) ?_
      refine ((tw45 (x0 := v45) V.set (fun _ _ hp => hp)).kp (v := v) (w := w) rfl K).mono (by omega) (fun o47 g48 hp => ?_)
      obtain ⟨hp, K9⟩ := hp
      rcases hp with ⟨rfl, rfl, f51⟩ | ⟨hg49, rfl, f9⟩
      · skip
        have V52 : VI c 1 6 (x_setc (x_setc h 0 0) (x_ce h + 1) (x_so h + 6)) := VI.after (mc := 1) (ms := 6) V ⟨V.1, V.2.1⟩
        show x_seq _ _ _ _ ([.inr (.inr (7, 1)), .inl x1, .inl x2], [], (x_setc (x_setc h 0 0) (x_ce h + 1) (x_so h + 6)))
        refine q_aload rfl (by decide) ?_
        have hc1 := x_clamp (n := x1) (by omega)
        have hc2 := x_clamp (n := x2) (by omega)
        obtain ⟨a1, a2, a3⟩ := K.1.2 x1.toNatClampNeg (by omega)
        have l11 : L c 11 1 := ⟨Nat.le_refl 1, by rw [V.cnt (K := 11) (n := 1) (by decide)]; exact Nat.le_refl 1⟩
        have l3 : L c 3 (x1.toNatClampNeg + 1) := ⟨by omega, by rw [V.cnt (K := 3) (n := 3) (by decide)]; omega⟩
        have l16 : L c 16 (x1.toNatClampNeg + 1) := ⟨by omega, by rw [V.cnt (K := 16) (n := 3) (by decide)]; omega⟩
        refine v_gfrx (j' := 1) V52 g0 V.1.r11 ?_
        refine q_iload rfl ?_
        refine v_aaldx (L' := 3) V52 (by decide) l11 (by omega) (by omega) a1 ?_
        refine v_gfrx V52 l3 a2 ?_
        refine q_iload rfl ?_
        refine v_aaldx (L' := 24) V52 (by decide) l16 (by omega) (by omega) (a3 x2.toNatClampNeg (by omega)) ?_
        exact q_aret (hZ _ _ (Or.inl ⟨⟨V52.1, V52.2.1⟩, K, rfl, by omega⟩))
      · exact hZ _ _ (Or.inr ⟨hg49, rfl, by omega, K9⟩)
theorem tx58 {c : xP} {h : xH} {Z : xO → xH → Prop} {x1 : Int32} {x2 : Int32} {v w : Nat → Int32} (V : VI c 0 0 h) (g0 : L c 7 1) (K : kP v w h) (hZ : ∀ (o : xO) (g : xH), ((CI g ∧ x_pj g = c) ∧ o = .inl none ∧ (0 ≤ x1.toInt ∧ x1.toInt ≤ 2 ∧ 0 ≤ x2.toInt ∧ x2.toInt ≤ 23) ∧ (v (lx x1 x2)).toInt = 0 ∧ kP (upl v (lx x1 x2) 1) w g) ∨ ((CI g ∧ x_pj g = c) ∧ o = .inr 1 ∧ ¬ (0 ≤ x1.toInt ∧ x1.toInt ≤ 2 ∧ 0 ≤ x2.toInt ∧ x2.toInt ≤ 23) ∧ kP v w g) ∨ ((CI g ∧ x_pj g = c) ∧ o = .inr 2 ∧ (0 ≤ x1.toInt ∧ x1.toInt ≤ 2 ∧ 0 ≤ x2.toInt ∧ x2.toInt ≤ 23) ∧ (v (lx x1 x2)).toInt ≠ 0 ∧ kP v w g) → Z o g) : xC 1200 58 [.inr (.inr (7, 1)), .inl x1, .inl x2] h Z := by
  refine ⟨rfl, V.2.2.1, V.2.2.2, ?_⟩
  show xR _ 58 0 ([.inr (.inr (7, 1)), .inl x1, .inl x2, .inr (.inr (0, 0)), .inr (.inr (0, 0))], [], h) Z
  refine xR.blk c58_0 ?_
  refine q_aload rfl (by decide) ?_
  refine q_iload rfl ?_
  refine q_iload rfl ?_
  refine q_callv rfl (by decide) (V.lv g0) (Nat.le_of_ble_eq_true rfl) (Nat.le_of_ble_eq_true rfl) (by rw [V.2.2.1]; decide) (by rw [V.2.2.2]; decide) ?_
  refine xC.up (tx51 (x1 := x1) (x2 := x2) (v := v) (w := w) V.set g0 K (fun o1 g2 hp => ?_)) (by omega)
  rcases hp with ⟨hg3, K3, rfl, e6⟩ | ⟨hg3, rfl, e6, K3⟩
  · skip
    have V7 := VI.after (mc := 1) (ms := 6) V hg3
    have hc1 := x_clamp (n := x1) (by omega)
    have hc2 := x_clamp (n := x2) (by omega)
    have f5 : L c 2 (lx x1 x2 + 1) := ⟨Nat.le_add_left 1 _, by rw [V.cnt (K := 2) (n := 72) (by decide)]; unfold lx; omega⟩
    show x_seq _ _ _ _ ([.inr (.inr (7, 1)), .inl x1, .inl x2, .inr (.inr (0, 0)), .inr (.inr (0, 0))], [.inr (.inr (2, (lx x1 x2 + 1)))], x_setc g2 (x_ce h + 1) (x_so h + 6))
    have K7 : kP v w (x_setc g2 (x_ce h + 1) (x_so h + 6)) := K3
    generalize x_setc g2 (x_ce h + 1) (x_so h + 6) = h8 at V7 K7 ⊢
    refine q_astore (Nat.le_of_ble_eq_true rfl) ?_
    show x_seq _ _ _ _ ([.inr (.inr (7, 1)), .inl x1, .inl x2, .inr (.inr (2, (lx x1 x2 + 1))), .inr (.inr (0, 0))], [], h8)
    refine q_aload rfl (by decide) ?_
    refine v_gfix V7 f5 (K7.1.1 (lx x1 x2) (by unfold lx; omega)) ?_
    refine v_if_ne (fun d11 => ?_) (fun d11 => ?_)
    · skip
      refine xR.blk c58_18 ?_
      refine v_iconst (k := 0) rfl (fun v12 e13 => ?_)
      refine q_goto ?_
      refine xR.blk c58_19 ?_
      refine q_call (Nat.le_of_ble_eq_true rfl) (Nat.le_of_ble_eq_true rfl) (by rw [V7.2.2.1]; decide) (by rw [V7.2.2.2]; decide) ?_
      refine ((tx46 (x0 := v12) V7.set (fun _ _ hp => hp)).kp (v := v) (w := w) rfl K7).mono (by omega) (fun o14 g15 hp => ?_)
      obtain ⟨hp, K4⟩ := hp
      rcases hp with ⟨rfl, rfl, f18⟩ | ⟨hg16, rfl, f9⟩
      · exact absurd f18 (by omega)
      · exact hZ _ _ (Or.inr (Or.inr ⟨hg16, rfl, e6, by omega, K4⟩))
    · skip
      refine v_iconst (k := 1) rfl (fun v45 e46 => ?_)
      refine q_goto ?_
      refine xR.blk c58_19 ?_
      refine q_call (Nat.le_of_ble_eq_true rfl) (Nat.le_of_ble_eq_true rfl) (by rw [V7.2.2.1]; decide) (by rw [V7.2.2.2]; decide) ?_
      refine ((tx46 (x0 := v45) V7.set (fun _ _ hp => hp)).kp (v := v) (w := w) rfl K7).mono (by omega) (fun o47 g48 hp => ?_)
      obtain ⟨hp, K4⟩ := hp
      rcases hp with ⟨rfl, rfl, f51⟩ | ⟨hg49, rfl, f9⟩
      · skip
        have V52 : VI c 2 12 (x_setc (x_setc h8 0 0) (x_ce h8 + 1) (x_so h8 + 6)) := VI.after (mc := 1) (ms := 6) V7 ⟨V7.1, V7.2.1⟩
        show x_seq _ _ _ _ ([.inr (.inr (7, 1)), .inl x1, .inl x2, .inr (.inr (2, (lx x1 x2 + 1))), .inr (.inr (0, 0))], [], (x_setc (x_setc h8 0 0) (x_ce h8 + 1) (x_so h8 + 6)))
        refine q_aload rfl (by decide) ?_
        refine v_iconst (k := 1) rfl (fun v53 e54 => ?_)
        have eb : v53 = 1 := i32_eq.mpr e54
        subst eb
        refine q_pfz (V52.lv f5) (i32_01 (by omega)) ?_
        have V56 : VI c 2 12 (x_puti (x_setc (x_setc h8 0 0) (x_ce h8 + 1) (x_so h8 + 6)) 2 2 (lx x1 x2 + 1) 1) := ⟨V52.1.puti (fun lo hi hm => by simp only [x_rgl, List.mem_cons, Prod.mk.injEq, List.not_mem_nil, or_false] at hm; omega) (by omega) (by omega) (by omega), (x_pj_puti rfl).trans V52.2.1, V52.2.2.1, V52.2.2.2⟩
        have K8 : kP (upl v (lx x1 x2) 1) w (x_puti (x_setc (x_setc h8 0 0) (x_ce h8 + 1) (x_so h8 + 6)) 2 2 (lx x1 x2 + 1) 1) := kP.lf (h := (x_setc (x_setc h8 0 0) (x_ce h8 + 1) (x_so h8 + 6))) K7
        generalize x_puti (x_setc (x_setc h8 0 0) (x_ce h8 + 1) (x_so h8 + 6)) 2 2 (lx x1 x2 + 1) 1 = h55 at V56 K8 ⊢
        refine q_aload rfl (by decide) ?_
        refine q_gfr (V56.lv f5) ?_
        refine q_astore (Nat.le_of_ble_eq_true rfl) ?_
        show x_seq _ _ _ _ ([.inr (.inr (7, 1)), .inl x1, .inl x2, .inr (.inr (2, (lx x1 x2 + 1))), .inr (.inr (1, (x_vr h55 2 5 (lx x1 x2 + 1))))], [], h55)
        refine q_aload rfl (by decide) ?_
        refine q_ifnonnull (fun d57 => ?_) (fun d57 => ?_)
        · skip
          have f58 : L c 1 (x_vr h55 2 5 (lx x1 x2 + 1)) := ⟨Nat.one_le_iff_ne_zero.mpr d57, (V56.nu (K := 2) (k := 5) (by decide) f5)⟩
          refine xR.blk c58_52 ?_
          refine q_aload rfl (by decide) ?_
          refine q_gfr (V56.lv f58) ?_
          refine q_aload rfl (by decide) ?_
          refine q_ane (fun d59 => ?_) (fun d59 => ?_)
          · skip
            refine xR.blk c58_67 ?_
            exact q_ret (hZ _ _ (Or.inl ⟨⟨V56.1, V56.2.1⟩, rfl, e6, by omega, K8⟩))
          · skip
            refine q_aload rfl (by decide) ?_
            refine q_aload rfl (by decide) ?_
            refine q_callv rfl (by decide) (V56.lv g0) (Nat.le_of_ble_eq_true rfl) (Nat.le_of_ble_eq_true rfl) (by rw [V56.2.2.1]; decide) (by rw [V56.2.2.2]; decide) ?_
            refine ((tv57 (x0 := 1) (x1 := (x_vr h55 2 5 (lx x1 x2 + 1))) V56.set g0 f58 (fun _ _ hp => hp)).kp (v := upl v (lx x1 x2) 1) (w := w) rfl K8).mono (by omega) (fun o60 g61 hp => ?_)
            obtain ⟨hp, K4⟩ := hp
            obtain ⟨hg62, rfl⟩ := hp
            have V65 := VI.after (mc := 0) (ms := 0) V56 hg62
            show x_seq _ _ _ _ ([.inr (.inr (7, 1)), .inl x1, .inl x2, .inr (.inr (2, (lx x1 x2 + 1))), .inr (.inr (1, (x_vr h55 2 5 (lx x1 x2 + 1))))], [], x_setc g61 (x_ce h55 + 0) (x_so h55 + 0))
            have K8 : kP (upl v (lx x1 x2) 1) w (x_setc g61 (x_ce h55 + 0) (x_so h55 + 0)) := K4
            generalize x_setc g61 (x_ce h55 + 0) (x_so h55 + 0) = h66 at V65 K8 ⊢
            refine q_goto ?_
            refine xR.blk c58_67 ?_
            exact q_ret (hZ _ _ (Or.inl ⟨⟨V65.1, V65.2.1⟩, rfl, e6, by omega, K8⟩))
        · skip
          refine q_aload rfl (by decide) ?_
          refine q_aload rfl (by decide) ?_
          refine v_gfrn V56 (by decide) rfl g0 (fun j67 f68 => ?_)
          refine q_iload rfl ?_
          refine v_aaldn V56 (L' := 3) (by decide) (by decide) rfl f68 (by omega) (by omega) (fun j69 f70 => ?_)
          refine q_aload rfl (by decide) ?_
          refine q_callv rfl (by decide) (V56.lv g0) (Nat.le_of_ble_eq_true rfl) (Nat.le_of_ble_eq_true rfl) (by rw [V56.2.2.1]; decide) (by rw [V56.2.2.2]; decide) ?_
          refine ((tv55 (x0 := 1) (x1 := j69) (x2 := (lx x1 x2 + 1)) V56.set g0 f70 f5 (fun _ _ hp => hp)).kp (v := upl v (lx x1 x2) 1) (w := w) rfl K8).mono (by omega) (fun o71 g72 hp => ?_)
          obtain ⟨hp, K4⟩ := hp
          obtain ⟨hg73, rfl⟩ := hp
          have V76 := VI.after (mc := 0) (ms := 0) V56 hg73
          show x_seq _ _ _ _ ([.inr (.inr (7, 1)), .inl x1, .inl x2, .inr (.inr (2, (lx x1 x2 + 1))), .inr (.inr (1, (x_vr h55 2 5 (lx x1 x2 + 1))))], [], x_setc g72 (x_ce h55 + 0) (x_so h55 + 0))
          have K8 : kP (upl v (lx x1 x2) 1) w (x_setc g72 (x_ce h55 + 0) (x_so h55 + 0)) := K4
          generalize x_setc g72 (x_ce h55 + 0) (x_so h55 + 0) = h77 at V76 K8 ⊢
          refine q_goto ?_
          refine xR.blk c58_67 ?_
          exact q_ret (hZ _ _ (Or.inl ⟨⟨V76.1, V76.2.1⟩, rfl, e6, by omega, K8⟩))
      · exact absurd f9 (by omega)
  · exact hZ _ _ (Or.inr (Or.inl ⟨hg3, rfl, e6, K3⟩))
theorem tx60 {c : xP} {h : xH} {Z : xO → xH → Prop} {x1 : Int32} {x2 : Int32} {v w : Nat → Int32} (V : VI c 0 0 h) (g0 : L c 7 1) (K : kP v w h) (hZ : ∀ (o : xO) (g : xH), ((CI g ∧ x_pj g = c) ∧ o = .inl none ∧ (0 ≤ x1.toInt ∧ x1.toInt ≤ 2 ∧ 0 ≤ x2.toInt ∧ x2.toInt ≤ 23) ∧ (v (lx x1 x2)).toInt ≠ 0 ∧ kP (upl v (lx x1 x2) 0) w g) ∨ ((CI g ∧ x_pj g = c) ∧ o = .inr 1 ∧ ¬ (0 ≤ x1.toInt ∧ x1.toInt ≤ 2 ∧ 0 ≤ x2.toInt ∧ x2.toInt ≤ 23) ∧ kP v w g) ∨ ((CI g ∧ x_pj g = c) ∧ o = .inr 2 ∧ (0 ≤ x1.toInt ∧ x1.toInt ≤ 2 ∧ 0 ≤ x2.toInt ∧ x2.toInt ≤ 23) ∧ (v (lx x1 x2)).toInt = 0 ∧ kP v w g) → Z o g) : xC 1200 60 [.inr (.inr (7, 1)), .inl x1, .inl x2] h Z := by
  refine ⟨rfl, V.2.2.1, V.2.2.2, ?_⟩
  show xR _ 60 0 ([.inr (.inr (7, 1)), .inl x1, .inl x2, .inr (.inr (0, 0)), .inr (.inr (0, 0))], [], h) Z
  refine xR.blk c60_0 ?_
  refine q_aload rfl (by decide) ?_
  refine q_iload rfl ?_
  refine q_iload rfl ?_
  refine q_callv rfl (by decide) (V.lv g0) (Nat.le_of_ble_eq_true rfl) (Nat.le_of_ble_eq_true rfl) (by rw [V.2.2.1]; decide) (by rw [V.2.2.2]; decide) ?_
  refine xC.up (tx51 (x1 := x1) (x2 := x2) (v := v) (w := w) V.set g0 K (fun o1 g2 hp => ?_)) (by omega)
  rcases hp with ⟨hg3, K3, rfl, e6⟩ | ⟨hg3, rfl, e6, K3⟩
  · skip
    have V7 := VI.after (mc := 1) (ms := 6) V hg3
    have hc1 := x_clamp (n := x1) (by omega)
    have hc2 := x_clamp (n := x2) (by omega)
    have f5 : L c 2 (lx x1 x2 + 1) := ⟨Nat.le_add_left 1 _, by rw [V.cnt (K := 2) (n := 72) (by decide)]; unfold lx; omega⟩
    show x_seq _ _ _ _ ([.inr (.inr (7, 1)), .inl x1, .inl x2, .inr (.inr (0, 0)), .inr (.inr (0, 0))], [.inr (.inr (2, (lx x1 x2 + 1)))], x_setc g2 (x_ce h + 1) (x_so h + 6))
    have K7 : kP v w (x_setc g2 (x_ce h + 1) (x_so h + 6)) := K3
    generalize x_setc g2 (x_ce h + 1) (x_so h + 6) = h8 at V7 K7 ⊢
    refine q_astore (Nat.le_of_ble_eq_true rfl) ?_
    show x_seq _ _ _ _ ([.inr (.inr (7, 1)), .inl x1, .inl x2, .inr (.inr (2, (lx x1 x2 + 1))), .inr (.inr (0, 0))], [], h8)
    refine q_aload rfl (by decide) ?_
    refine v_gfix V7 f5 (K7.1.1 (lx x1 x2) (by unfold lx; omega)) ?_
    refine q_call (Nat.le_of_ble_eq_true rfl) (Nat.le_of_ble_eq_true rfl) (by rw [V7.2.2.1]; decide) (by rw [V7.2.2.2]; decide) ?_
    refine ((tx46 (x0 := v (lx x1 x2)) V7.set (fun _ _ hp => hp)).kp (v := v) (w := w) rfl K7).mono (by omega) (fun o11 g12 hp => ?_)
    obtain ⟨hp, K4⟩ := hp
    rcases hp with ⟨rfl, rfl, f15⟩ | ⟨hg13, rfl, f9⟩
    · skip
      have V16 : VI c 2 12 (x_setc (x_setc h8 0 0) (x_ce h8 + 1) (x_so h8 + 6)) := VI.after (mc := 1) (ms := 6) V7 ⟨V7.1, V7.2.1⟩
      show x_seq _ _ _ _ ([.inr (.inr (7, 1)), .inl x1, .inl x2, .inr (.inr (2, (lx x1 x2 + 1))), .inr (.inr (0, 0))], [], (x_setc (x_setc h8 0 0) (x_ce h8 + 1) (x_so h8 + 6)))
      refine q_aload rfl (by decide) ?_
      refine v_iconst (k := 0) rfl (fun v17 e18 => ?_)
      have eb : v17 = 0 := i32_eq.mpr e18
      subst eb
      refine q_pfz (V16.lv f5) (i32_01 (by omega)) ?_
      have V20 : VI c 2 12 (x_puti (x_setc (x_setc h8 0 0) (x_ce h8 + 1) (x_so h8 + 6)) 2 2 (lx x1 x2 + 1) 0) := ⟨V16.1.puti (fun lo hi hm => by simp only [x_rgl, List.mem_cons, Prod.mk.injEq, List.not_mem_nil, or_false] at hm; omega) (by omega) (by omega) (by omega), (x_pj_puti rfl).trans V16.2.1, V16.2.2.1, V16.2.2.2⟩
      have K8 : kP (upl v (lx x1 x2) 0) w (x_puti (x_setc (x_setc h8 0 0) (x_ce h8 + 1) (x_so h8 + 6)) 2 2 (lx x1 x2 + 1) 0) := kP.lf (h := (x_setc (x_setc h8 0 0) (x_ce h8 + 1) (x_so h8 + 6))) K7
      generalize x_puti (x_setc (x_setc h8 0 0) (x_ce h8 + 1) (x_so h8 + 6)) 2 2 (lx x1 x2 + 1) 0 = h19 at V20 K8 ⊢
      refine q_aload rfl (by decide) ?_
      refine v_iconst (k := 0) rfl (fun v21 e22 => ?_)
      refine q_pfi (V20.lv f5) ?_
      have V24 : VI c 2 12 (x_puti h19 2 3 (lx x1 x2 + 1) v21) := ⟨V20.1.puti (fun lo hi hm => by simp only [x_rgl, List.mem_cons, Prod.mk.injEq, List.not_mem_nil, or_false] at hm; omega) (by omega) (by omega) (by omega), (x_pj_puti rfl).trans V20.2.1, V20.2.2.1, V20.2.2.2⟩
      replace K8 : kP (upl v (lx x1 x2) 0) w (x_puti h19 2 3 (lx x1 x2 + 1) v21) := K8.sn rfl
      generalize x_puti h19 2 3 (lx x1 x2 + 1) v21 = h23 at V24 K8 ⊢
      refine q_aload rfl (by decide) ?_
      refine q_gfr (V24.lv f5) ?_
      refine q_astore (Nat.le_of_ble_eq_true rfl) ?_
      show x_seq _ _ _ _ ([.inr (.inr (7, 1)), .inl x1, .inl x2, .inr (.inr (2, (lx x1 x2 + 1))), .inr (.inr (1, (x_vr h23 2 5 (lx x1 x2 + 1))))], [], h23)
      refine q_aload rfl (by decide) ?_
      refine q_ifnonnull (fun d25 => ?_) (fun d25 => ?_)
      · skip
        have f26 : L c 1 (x_vr h23 2 5 (lx x1 x2 + 1)) := ⟨Nat.one_le_iff_ne_zero.mpr d25, (V24.nu (K := 2) (k := 5) (by decide) f5)⟩
        refine xR.blk c60_51 ?_
        refine q_aload rfl (by decide) ?_
        refine q_gfr (V24.lv f26) ?_
        refine q_aload rfl (by decide) ?_
        refine q_ane (fun d27 => ?_) (fun d27 => ?_)
        · skip
          refine xR.blk c60_69 ?_
          refine q_aload rfl (by decide) ?_
          refine v_gfi V24 f26 (fun v28 => ?_)
          refine v_if_ne (fun d30 => ?_) (fun d30 => ?_)
          · skip
            refine xR.blk c60_84 ?_
            exact q_ret (hZ _ _ (Or.inl ⟨⟨V24.1, V24.2.1⟩, rfl, e6, by omega, K8⟩))
          · skip
            refine q_aload rfl (by decide) ?_
            refine q_aload rfl (by decide) ?_
            refine v_iconst (k := 3) rfl (fun v31 e32 => ?_)
            refine q_callv rfl (by decide) (V24.lv g0) (Nat.le_of_ble_eq_true rfl) (Nat.le_of_ble_eq_true rfl) (by rw [V24.2.2.1]; decide) (by rw [V24.2.2.2]; decide) ?_
            refine ((tv59 (x0 := 1) (x1 := (x_vr h23 2 5 (lx x1 x2 + 1))) (x2 := v31) V24.set g0 f26 (fun _ _ hp => hp)).kp (v := upl v (lx x1 x2) 0) (w := w) rfl K8).mono (by omega) (fun o33 g34 hp => ?_)
            obtain ⟨hp, K4⟩ := hp
            obtain ⟨hg35, rfl⟩ := hp
            have V38 := VI.after (mc := 0) (ms := 0) V24 hg35
            show x_seq _ _ _ _ ([.inr (.inr (7, 1)), .inl x1, .inl x2, .inr (.inr (2, (lx x1 x2 + 1))), .inr (.inr (1, (x_vr h23 2 5 (lx x1 x2 + 1))))], [], x_setc g34 (x_ce h23 + 0) (x_so h23 + 0))
            have K8 : kP (upl v (lx x1 x2) 0) w (x_setc g34 (x_ce h23 + 0) (x_so h23 + 0)) := K4
            generalize x_setc g34 (x_ce h23 + 0) (x_so h23 + 0) = h39 at V38 K8 ⊢
            refine q_goto ?_
            refine xR.blk c60_84 ?_
            exact q_ret (hZ _ _ (Or.inl ⟨⟨V38.1, V38.2.1⟩, rfl, e6, by omega, K8⟩))
        · skip
          refine q_aload rfl (by decide) ?_
          refine v_iconst (k := 0) rfl (fun v40 e41 => ?_)
          refine q_pfi (V24.lv f26) ?_
          have V43 : VI c 2 12 (x_puti h23 1 14 (x_vr h23 2 5 (lx x1 x2 + 1)) v40) := ⟨V24.1.puti (fun lo hi hm => by simp only [x_rgl, List.mem_cons, Prod.mk.injEq, List.not_mem_nil, or_false] at hm; omega) (by omega) (by omega) (by omega), (x_pj_puti rfl).trans V24.2.1, V24.2.2.1, V24.2.2.2⟩
          replace K8 : kP (upl v (lx x1 x2) 0) w (x_puti h23 1 14 (x_vr h23 2 5 (lx x1 x2 + 1)) v40) := K8.sn rfl
          generalize x_puti h23 1 14 (x_vr h23 2 5 (lx x1 x2 + 1)) v40 = h42 at V43 K8 ⊢
          refine q_goto ?_
          refine xR.blk c60_84 ?_
          exact q_ret (hZ _ _ (Or.inl ⟨⟨V43.1, V43.2.1⟩, rfl, e6, by omega, K8⟩))
      · skip
        refine q_aload rfl (by decide) ?_
        refine v_gfrn V24 (by decide) rfl g0 (fun j44 f45 => ?_)
        refine q_iload rfl ?_
        refine v_aaldn V24 (L' := 3) (by decide) (by decide) rfl f45 (by omega) (by omega) (fun j46 f47 => ?_)
        refine v_gfrn V24 (by decide) rfl f47 (fun j48 f49 => ?_)
        refine q_iload rfl ?_
        refine q_callv rfl (by decide) (V24.lv f49) (Nat.le_of_ble_eq_true rfl) (Nat.le_of_ble_eq_true rfl) (by rw [V24.2.2.1]; decide) (by rw [V24.2.2.2]; decide) ?_
        refine ((tv38 (x0 := j48) (x1 := x2) V24.set f49 (fun _ _ hp => hp)).kp (v := upl v (lx x1 x2) 0) (w := w) rfl K8).mono (by omega) (fun o50 g51 hp => ?_)
        obtain ⟨hp, K4⟩ := hp
        obtain ⟨hg52, rfl⟩ := hp
        have V55 := VI.after (mc := 0) (ms := 0) V24 hg52
        show x_seq _ _ _ _ ([.inr (.inr (7, 1)), .inl x1, .inl x2, .inr (.inr (2, (lx x1 x2 + 1))), .inr (.inr (1, (x_vr h23 2 5 (lx x1 x2 + 1))))], [], x_setc g51 (x_ce h23 + 0) (x_so h23 + 0))
        have K8 : kP (upl v (lx x1 x2) 0) w (x_setc g51 (x_ce h23 + 0) (x_so h23 + 0)) := K4
        generalize x_setc g51 (x_ce h23 + 0) (x_so h23 + 0) = h56 at V55 K8 ⊢
        refine q_goto ?_
        refine xR.blk c60_84 ?_
        exact q_ret (hZ _ _ (Or.inl ⟨⟨V55.1, V55.2.1⟩, rfl, e6, by omega, K8⟩))
    · exact hZ _ _ (Or.inr (Or.inr ⟨hg13, rfl, e6, by omega, K4⟩))
  · exact hZ _ _ (Or.inr (Or.inl ⟨hg3, rfl, e6, K3⟩))
