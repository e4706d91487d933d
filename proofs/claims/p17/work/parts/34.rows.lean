/-! ROWS: what changes their counts -/
theorem CI.put51 {h : xH} {j : Nat} {v : Int32} (hC : CI h) (hv : 0 ≤ v.toInt ∧ v.toInt ≤ x_ln h 20 (x_vr h 5 0 j)) : CI (x_puti h 5 1 j v) := by
  obtain ⟨a1, a2, a3, a4, a5, a6, a7, a8, a9, a10⟩ := hC
  refine ⟨a1, a2, fun K' k' lo hi j' hm hj => ?_, a4, a5, a6, a7, a8, a9, fun j' hj => ?_⟩
  · rw [x_vi_puti, if_neg]
    · exact a3 K' k' lo hi j' hm hj
    · rintro ⟨rfl, rfl, -⟩
      simp only [x_rgl, List.mem_cons, Prod.mk.injEq, List.not_mem_nil, or_false] at hm
      omega
  · rw [x_vi_puti]
    by_cases e : 5 = 5 ∧ 1 = 1 ∧ j' = j
    · rw [if_pos e, e.2.2]
      exact ⟨hv.1, hv.2, e.2.2 ▸ (a10 j' hj).2.2⟩
    · rw [if_neg e]; exact a10 j' hj
theorem VI.put51 {c : xP} {a b j : Nat} {h : xH} {v : Int32} (V : VI c a b h) (hv : 0 ≤ v.toInt ∧ v.toInt ≤ x_ln h 20 (x_vr h 5 0 j)) : VI c a b (x_puti h 5 1 j v) := ⟨V.1.put51 hv, (x_pj_puti rfl).trans V.2.1, V.2.2⟩
theorem VI.put20 {c : xP} {a b k i : Nat} {h : xH} {v : Int32} (V : VI c a b h) : VI c a b (x_puti h 20 k i v) := ⟨V.1.puti (fun lo hi hm => by simp [x_rgl] at hm) (by rintro ⟨h, -⟩; omega) (by rintro ⟨h, -⟩; omega) (by rintro ⟨h, -⟩; omega), (x_pj_puti rfl).trans V.2.1, V.2.2⟩
theorem VI.row {c : xP} {a b : Nat} {h : xH} (V : VI c a b h) {j : Nat} (hj : L c 5 j) : 0 ≤ (x_vi h 5 1 j).toInt ∧ (x_vi h 5 1 j).toInt ≤ x_ln h 20 (x_vr h 5 0 j) ∧ x_ln h 20 (x_vr h 5 0 j) ≤ 24 := V.1.2.2.2.2.2.2.2.2.2 j (V.lv hj)
theorem tv39 {c : xP} {h : xH} {Z : xO → xH → Prop} {x0 : Nat} (V : VI c 0 0 h) (g0 : L c 5 x0) (hZ : ∀ (o : xO) (g : xH), (CI g ∧ x_pj g = c) ∧ (o = .inl none) → Z o g) : xC 10 39 [.inr (.inr (5, x0))] h Z := by
  refine ⟨rfl, V.2.2.1, V.2.2.2, xR.blk c39_0 ?_⟩
  refine q_aload rfl (by decide) (q_iconst (q_pfi (V.lv g0) (q_ret (hZ _ _ ⟨⟨?_, (x_pj_puti rfl).trans V.2.1⟩, rfl⟩))))
  exact V.1.put51 ⟨by decide, by have := V.row g0; show (0 : Int) ≤ _; omega⟩
theorem tv37 {c : xP} {h : xH} {Z : xO → xH → Prop} {x0 : Nat} {x1 : Int32} (V : VI c 0 0 h) (g0 : L c 5 x0) (hZ : ∀ (o : xO) (g : xH), (CI g ∧ x_pj g = c) ∧ (o = .inl none) → Z o g) : xC 10 37 [.inr (.inr (5, x0)), .inl x1] h Z := by
  have hrow := V.row g0
  have hl : (Int32.ofNat (x_ln h 20 (x_vr h 5 0 x0))).toInt = x_ln h 20 (x_vr h 5 0 x0) := toInt_of rfl (by omega)
  refine ⟨rfl, V.2.2.1, V.2.2.2, xR.blk c37_0 ?_⟩
  refine q_aload rfl (by decide) (q_gfi (V.lv g0) (q_aload rfl (by decide) (q_gfr (V.lv g0) (q_alen (V.lv (V.nn (K := 5) (k := 0) (by decide) g0)) (v_icmp_ge (fun d => ?_) (fun d => ?_))))))
  · exact xR.blk c37_32 (q_ret (hZ _ _ ⟨⟨V.1, V.2.1⟩, rfl⟩))
  · refine q_aload rfl (by decide) (q_gfr (V.lv g0) (q_aload rfl (by decide) (q_gfi (V.lv g0) (q_iload rfl (q_ast (V.lv (V.nn (K := 5) (k := 0) (by decide) g0)) ⟨by omega, by omega⟩ ?_)))))
    have V2 := VI.put20 (k := x_vr h 5 0 x0) (i := (x_vi h 5 1 x0).toNatClampNeg) (v := x1) V
    refine q_aload rfl (by decide) (q_dup rfl (q_gfi (V2.lv g0) (q_iconst (q_bin (q_pfi (V2.lv g0) (q_goto (xR.blk c37_32 (q_ret (hZ _ _ ⟨⟨CI.put51 V2.1 ?_, (x_pj_puti rfl).trans V2.2.1⟩, rfl⟩)))))))))
    show 0 ≤ (x_vi h 5 1 x0 + 1).toInt ∧ (x_vi h 5 1 x0 + 1).toInt ≤ x_ln h 20 (x_vr h 5 0 x0)
    have e1 : (1 : Int32).toInt = 1 := rfl
    rw [i32_add (by rw [e1]; omega) (by rw [e1]; omega), e1]
    omega
theorem tv38 {c : xP} {h : xH} {Z : xO → xH → Prop} {x0 : Nat} {x1 : Int32} (V : VI c 0 0 h) (g0 : L c 5 x0) (hZ : ∀ (o : xO) (g : xH), (CI g ∧ x_pj g = c) ∧ (o = .inl none) → Z o g) : xC 300 38 [.inr (.inr (5, x0)), .inl x1] h Z := by
  have hrow := V.row g0
  have gi := V.nn (K := 5) (k := 0) (by decide) g0
  refine ⟨rfl, V.2.2.1, V.2.2.2, xR.blk c38_0 ?_⟩
  refine v_iconst (k := 0) rfl (fun k e1 => q_istore (Nat.le_of_ble_eq_true rfl) (v_iconst (k := 0) rfl (fun i e2 => q_istore (Nat.le_of_ble_eq_true rfl) (q_goto ?_))))
  have lp : ∀ (m : Nat) (k i : Int32) (g : xH), VI c 0 0 g → x_vi g 5 1 x0 = x_vi h 5 1 x0 → x_vr g 5 0 x0 = x_vr h 5 0 x0 → x_ln g 20 = x_ln h 20 → 0 ≤ k.toInt ∧ k.toInt ≤ i.toInt ∧ i.toInt ≤ (x_vi h 5 1 x0).toInt → (24 - i.toInt).toNat < m → xR (10 + 8 * m) 38 4 ([.inr (.inr (5, x0)), .inl x1, .inl k, .inl i], [], g) Z := by
    intro m
    induction m with
    | zero => intro k i g _ _ _ _ _ hm; omega
    | succ m ih =>
      intro k i g Vg q1 q2 q3 hb hm
      rw [show 10 + 8 * (m + 1) = 10 + 8 * m + 8 by omega]
      refine xR.blk c38_4 (q_iload rfl (q_aload rfl (by decide) (q_gfi (Vg.lv g0) (v_icmp_ge (fun d => ?_) (fun d => ?_)))))
      · refine xR.blk c38_43 (q_aload rfl (by decide) (q_iload rfl (q_pfi (Vg.lv g0) (q_ret (hZ _ _ ⟨⟨CI.put51 Vg.1 ?_, (x_pj_puti rfl).trans Vg.2.1⟩, rfl⟩)))))
        rw [q2, q3]
        omega
      · rw [q1] at d
        have hin : x_in g 20 (x_vr g 5 0 x0) i := ⟨by omega, by rw [q2, q3]; omega⟩
        have gi' : L c 20 (x_vr g 5 0 x0) := by rw [q2]; exact gi
        refine q_aload rfl (by decide) (q_gfr (Vg.lv g0) (q_iload rfl (q_ald (Vg.lv gi') hin (q_iload rfl (v_icmp_eq (fun d2 => ?_) (fun d2 => ?_))))))
        · refine xR.blk c38_37 (v_iinc (k := 1) rfl rfl (by omega) (by omega) (fun i2 e3 => q_goto ?_))
          exact (ih k i2 g Vg q1 q2 q3 (by omega) (by omega)).up (by omega)
        · have hin2 : x_in g 20 (x_vr g 5 0 x0) k := ⟨by omega, by rw [q2, q3]; omega⟩
          refine q_aload rfl (by decide) (q_gfr (Vg.lv g0) (q_iload rfl (q_aload rfl (by decide) (q_gfr (Vg.lv g0) (q_iload rfl (q_ald (Vg.lv gi') hin (q_ast (Vg.lv gi') hin2 ?_)))))))
          refine v_iinc (k := 1) rfl rfl (by omega) (by omega) (fun k2 e3 => q_goto (xR.blk c38_37 (v_iinc (k := 1) rfl rfl (by omega) (by omega) (fun i2 e4 => q_goto ?_))))
          exact (ih k2 i2 _ Vg.put20 q1 q2 q3 (by omega) (by omega)).up (by omega)
  exact (lp 25 k i h V rfl rfl rfl (by omega) (by omega)).up (by omega)
