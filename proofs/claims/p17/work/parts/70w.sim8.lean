/-! A CALL BEGINS -/
theorem u2_self {F : xF} {K i : Nat} {x : Int32} (h : F K i = x) : x_u2 F K i x = F := by
  funext K' i'
  unfold x_u2
  by_cases e : K' = K ∧ i' = i
  · rw [if_pos e, e.1, e.2, h]
  · rw [if_neg e]
theorem cod_reg {o r : Nat} (hr : r < 3) : Int32.ofNat (1000 * (o + 1 - 1)) + Int32.ofNat (30 + r) = Int32.ofNat (cdo 38 (3 * o + r)) := by
  rw [ofN_add]
  congr 1
  show _ = 1000 * ((3 * o + r) / 3) + (30 + (3 * o + r) % 3)
  omega
theorem cod_regR {o r : Nat} (hr : r < 3) : 1000 * Int32.ofNat o + 30 + Int32.ofNat r = Int32.ofNat (cdo 38 (3 * o + r)) := by
  rw [c1000, ofN_mul, show (30 : Int32) = Int32.ofNat 30 from rfl, ofN_add, ofN_add]
  congr 1
  show _ = 1000 * ((3 * o + r) / 3) + (30 + (3 * o + r) % 3)
  omega
theorem shl_o {o : Nat} (ho : o < 3) : (0 : Int32) ||| (1 <<< (Int32.ofNat o &&& 31)) = 1 <<< (Int32.ofNat o &&& 31) ∧ hbit (1 <<< (Int32.ofNat o &&& 31)) o ∧ mpop (1 <<< (Int32.ofNat o &&& 31) : Int32).toInt = 1 ∧ (0 ≤ (1 <<< (Int32.ofNat o &&& 31) : Int32).toInt ∧ (1 <<< (Int32.ofNat o &&& 31) : Int32).toInt ≤ 7) := by
  unfold hbit
  rcases (show o = 0 ∨ o = 1 ∨ o = 2 by omega) with rfl | rfl | rfl <;> decide
section XBG
variable {D : Int} {v : vS} {F : xF} {c r : Nat}
theorem Sim.begin (S : Sim D v F) (hc : c < 72) (h47 : F 47 c = 0) (h28 : (F 28 c).toInt < 0) (h24 : F 24 c = -1) (h22 : ¬ F 22 c = 0) (h23 : F 23 c = 0) (hr : r < 3) (hid : (F 38 (3 * (c / 24) + r)).toInt < 0) : Sim D (vbeg v (c / 24 + 1) (c + 1) (Int32.ofNat (30 + r))) (rbeg F c (Int32.ofNat r)) := by
  have ho : c / 24 < 3 := by omega
  have sh := shl_o ho
  obtain ⟨p1, p2, p3, p4, p5, p6, p7, p8, p9, p10, -⟩ := S.pl hc
  have hrow : (v.2.2.1 (ri c)).length = 0 := (p7 h47).2
  have hrow0 : v.2.2.1 (ri c) = [] := List.eq_nil_of_length_eq_zero hrow
  have e57 : (F 57 c).toInt < 0 := (p7 h47).1
  have h63 : F 63 c = 0 := by
    have := (S.1.hl hc).1.1
    rw [hrow] at this
    exact this
  have hs : slo (v.2.2.2 6) 38 (3 * (c / 24) + r) := by unfold slo; omega
  have hT := S.1.tr.1
  unfold vbeg rbeg
  rw [cod_reg hr, cod_regR hr]
  have he : c = c := rfl
  have S0 : SX D (fun y => y = c) (fun y => y = c) v F := (S.1.opn (E' := fun y => y = c) (fun _ z => z.elim)).jn (fun y hy z _ => by subst z; exact S.nj hy (by rw [h47]; decide))
  have S1 := (((((((((S0.vr1 he (k := 2) (y := 2)).vr1 he (k := 4) (y := 0)).vi1 he (k := 6) (x := 1)).vi1 he (k := 8) (x := 0)).vi1 he (k := 7) (x := Int32.ofNat ((c + 1 - 1) / 24))).vi1 he (k := 8) (x := (vpi (vpi (vpi (vpr (vpr v 1 2 (c + 1) 2) 1 4 (c + 1) 0) 1 6 (c + 1) 1) 1 8 (c + 1) 0) 1 7 (c + 1) (Int32.ofNat ((c + 1 - 1) / 24))).1 1 8 (c + 1) ||| (1 <<< (Int32.ofNat ((c + 1 - 1) / 24) &&& 31)))).vi1 he (k := 9) (x := Int32.ofNat (cdo 38 (3 * (c / 24) + r)))).vi1 he (k := 12) (x := 0)).vr2 he (k := 5) (y := c + 1)).vi2 he (k := 3) (x := 1)
  have S2 := ((((((((S1.f he he (K := 47) (x := 1) rfl).f he he (K := 48) (x := 0) rfl).f he he (K := 56) (x := 0) rfl).f he he (K := 50) (x := Int32.ofNat (c / 24)) rfl).f he he (K := 51) (x := Int32.ofNat r) rfl).f he he (K := 55) (x := 1 <<< (Int32.ofNat (c / 24) &&& 31)) rfl).f he he (K := 57) (x := -1) rfl).f he he (K := 60) (x := 0) rfl)
  have eG : rbeg0 F c (Int32.ofNat r) = x_u2 (x_u2 (x_u2 (x_u2 (x_u2 (x_u2 (x_u2 (x_u2 F 47 c 1) 48 c 0) 56 c 0) 50 c (Int32.ofNat (c / 24))) 51 c (Int32.ofNat r)) 55 c (1 <<< (Int32.ofNat (c / 24) &&& 31))) 57 c (-1)) 60 c 0 := by
    unfold rbeg0
    rw [u2_self h24]
    exact u2_self h63
  have S3 := S2.seize (K := 38) (i := 3 * (c / 24) + r) hc rfl hs (by
    rw [u2_ne (by decide), u2_ne (by decide), u2_ne (by decide), u2_ne (by decide), u2_ne (by decide), u2_ne (by decide), u2_ne (by decide), u2_ne (by decide)]
    exact hid) (by show (v.2.2.1 (ri c)).length < 8; omega)
  rw [← eG] at S3
  have S3 : SX D (fun y => y = c) (fun y => y = c) (vseize (vpi (vpr (vnew v (c + 1) (Int32.ofNat (cdo 38 (3 * (c / 24) + r)))) 2 5 (c + 1) (c + 1)) 2 3 (c + 1) 1) (c + 1) (Int32.ofNat (cdo 38 (3 * (c / 24) + r)))) (rseize (rbeg0 F c (Int32.ofNat r)) c (v.2.2.1 (ri c)).length (Int32.ofNat (cdo 38 (3 * (c / 24) + r)))) := S3
  rw [hrow] at S3
  have er : (vseize (vpi (vpr (vnew v (c + 1) (Int32.ofNat (cdo 38 (3 * (c / 24) + r)))) 2 5 (c + 1) (c + 1)) 2 3 (c + 1) 1) (c + 1) (Int32.ofNat (cdo 38 (3 * (c / 24) + r)))).2.2.1 (ri c) = [Int32.ofNat (cdo 38 (3 * (c / 24) + r))] := by
    unfold vseize
    show x_u1 _ (ri c) (radd 8 (v.2.2.1 (ri c)) (Int32.ofNat (cdo 38 (3 * (c / 24) + r)))) (ri c) = _
    rw [u1_eq, hrow0]
    rfl
  have gk : ∀ K i, (K < 36 ∨ (41 < K ∧ K < 63)) → rseize (rbeg0 F c (Int32.ofNat r)) c 0 (Int32.ofNat (cdo 38 (3 * (c / 24) + r))) K i = rbeg0 F c (Int32.ofNat r) K i := fun K i h => rseize_k h
  have gn : ∀ K i, (K = 22 ∨ K = 23 ∨ K = 25 ∨ K = 28 ∨ K = 52 ∨ K = 61 ∨ K = 62 ∨ K = 49 ∨ K = 24 ∨ i ≠ c) → (K < 36 ∨ (41 < K ∧ K < 63)) → rseize (rbeg0 F c (Int32.ofNat r)) c 0 (Int32.ofNat (cdo 38 (3 * (c / 24) + r))) K i = F K i := by
    intro K i h h'
    rw [gk K i h', eG]
    unfold x_u2
    rw [if_neg (by omega), if_neg (by omega), if_neg (by omega), if_neg (by omega), if_neg (by omega), if_neg (by omega), if_neg (by omega), if_neg (by omega)]
  have g47 : rseize (rbeg0 F c (Int32.ofNat r)) c 0 (Int32.ofNat (cdo 38 (3 * (c / 24) + r))) 47 c = 1 := by rw [gk _ _ (by omega), eG]; simp [x_u2]
  have g48 : rseize (rbeg0 F c (Int32.ofNat r)) c 0 (Int32.ofNat (cdo 38 (3 * (c / 24) + r))) 48 c = 0 := by rw [gk _ _ (by omega), eG]; simp [x_u2]
  have g56 : rseize (rbeg0 F c (Int32.ofNat r)) c 0 (Int32.ofNat (cdo 38 (3 * (c / 24) + r))) 56 c = 0 := by rw [gk _ _ (by omega), eG]; simp [x_u2]
  have g50 : rseize (rbeg0 F c (Int32.ofNat r)) c 0 (Int32.ofNat (cdo 38 (3 * (c / 24) + r))) 50 c = Int32.ofNat (c / 24) := by rw [gk _ _ (by omega), eG]; simp [x_u2]
  have g51 : rseize (rbeg0 F c (Int32.ofNat r)) c 0 (Int32.ofNat (cdo 38 (3 * (c / 24) + r))) 51 c = Int32.ofNat r := by rw [gk _ _ (by omega), eG]; simp [x_u2]
  have g55 : rseize (rbeg0 F c (Int32.ofNat r)) c 0 (Int32.ofNat (cdo 38 (3 * (c / 24) + r))) 55 c = 1 <<< (Int32.ofNat (c / 24) &&& 31) := by
    rw [gk _ _ (by omega), eG, u2_ne (by decide), u2_ne (by decide), u2_eq]
  have g60 : rseize (rbeg0 F c (Int32.ofNat r)) c 0 (Int32.ofNat (cdo 38 (3 * (c / 24) + r))) 60 c = 0 := by rw [gk _ _ (by omega), eG, u2_eq]
  have g57 : rseize (rbeg0 F c (Int32.ofNat r)) c 0 (Int32.ofNat (cdo 38 (3 * (c / 24) + r))) 57 c = -1 := by
    rw [gk _ _ (by omega), eG, u2_ne (by decide), u2_eq]
  generalize rseize (rbeg0 F c (Int32.ofNat r)) c 0 (Int32.ofNat (cdo 38 (3 * (c / 24) + r))) = G at S3 gn g47 g48 g56 g50 g51 g55 g57 g60 ⊢
  have ei : (vseize (vpi (vpr (vnew v (c + 1) (Int32.ofNat (cdo 38 (3 * (c / 24) + r)))) 2 5 (c + 1) (c + 1)) 2 3 (c + 1) 1) (c + 1) (Int32.ofNat (cdo 38 (3 * (c / 24) + r)))).1 = (vpi (vpr (vnew v (c + 1) (Int32.ofNat (cdo 38 (3 * (c / 24) + r)))) 2 5 (c + 1) (c + 1)) 2 3 (c + 1) 1).1 := vseize_1
  have eR : ∀ K, K ≠ 17 → K ≠ 6 → (vseize (vpi (vpr (vnew v (c + 1) (Int32.ofNat (cdo 38 (3 * (c / 24) + r)))) 2 5 (c + 1) (c + 1)) 2 3 (c + 1) 1) (c + 1) (Int32.ofNat (cdo 38 (3 * (c / 24) + r)))).2.1 K = (vpi (vpr (vnew v (c + 1) (Int32.ofNat (cdo 38 (3 * (c / 24) + r)))) 2 5 (c + 1) (c + 1)) 2 3 (c + 1) 1).2.1 K := fun K a b => vseize_r a b
  generalize vseize (vpi (vpr (vnew v (c + 1) (Int32.ofNat (cdo 38 (3 * (c / 24) + r)))) 2 5 (c + 1) (c + 1)) 2 3 (c + 1) 1) (c + 1) (Int32.ofNat (cdo 38 (3 * (c / 24) + r))) = V at S3 er ei eR ⊢
  have z1 : (1 : Int32).toInt = 1 := rfl
  have oo := ofN (n := c / 24) (by omega)
  refine ⟨(S3.close (E' := fun _ => False) (fun y hy e _ => ?_)).jw (fun _ z => z.elim), fun c' l h1 h2 => ?_, fun c' h1 h5 h6 => ?_⟩
  · subst e
    refine ⟨⟨?_, by rw [g47]; decide, by rw [g47]; decide⟩, ⟨?_, ?_, ?_⟩, ⟨?_, ?_, ?_⟩, ⟨?_, by rw [g57]; decide⟩, ?_, ⟨?_, ?_, ?_, ?_⟩, fun z => absurd (g47.symm.trans z) (by decide), ⟨by rw [gn 24 y (by omega) (by omega)]; exact p8.1, fun z => ?_⟩, fun z => ?_, fun z => ?_, fun _ => ⟨?_, ?_, ?_, ?_, ?_, ?_⟩, fun _ _ => ⟨?_, by rw [g57]; decide, ?_, r, hr, g51, ?_, ?_⟩, fun _ => ⟨g50, ?_, by rw [g56]; decide, by rw [g48]; decide, by rw [er]; exact Nat.le_refl 1⟩, fun z => absurd (g47.symm.trans z) (by decide), fun z => absurd (g47.symm.trans z) (by decide), fun z => absurd z (by rw [g47]; decide), fun z => absurd z (by rw [g47]; decide), fun _ _ => g60⟩
    · rw [eR 1 (by decide) (by decide), g47]
      show ((x_u3 (x_u3 v.2.1 1 2 (y + 1) 2) 1 4 (y + 1) 0 1 2 (y + 1) : Nat) : Int) = _
      rw [u3_ne (fun _ z => absurd z (by decide)), show x_u3 v.2.1 1 2 (y + 1) 2 1 2 (y + 1) = 2 from if_pos ⟨rfl, rfl, rfl⟩]
      decide
    · rw [ei, gn 22 y (by omega) (by omega)]
      exact p2.1
    · rw [ei, gn 25 y (by omega) (by omega)]
      exact p2.2.1
    · rw [ei]
      unfold tnF
      rw [g47, g48, if_pos ⟨rfl, rfl⟩]
      exact if_pos ⟨rfl, rfl, rfl⟩
    · rw [eR 2 (by decide) (by decide), g47, if_neg (by decide)]
      show ((x_u3 (vnew v (y + 1) (Int32.ofNat (cdo 38 (3 * (y / 24) + r)))).2.1 2 5 (y + 1) (y + 1) 2 5 (y + 1) : Nat) : Int) = _
      rw [show x_u3 (vnew v (y + 1) (Int32.ofNat (cdo 38 (3 * (y / 24) + r)))).2.1 2 5 (y + 1) (y + 1) 2 5 (y + 1) = y + 1 from if_pos ⟨rfl, rfl, rfl⟩]
      rfl
    · rw [gn 28 y (by omega) (by omega)]; exact p3.2.1
    · rw [gn 28 y (by omega) (by omega)]; exact p3.2.2
    · rw [eR 1 (by decide) (by decide), g57]
      show ((v.2.1 1 3 (y + 1) : Nat) : Int) = (-1 : Int) + 1
      omega
    · rw [ei, g47, if_neg (by decide)]
      show v.1 1 5 (y + 1) = 0
      rw [p5, h47, if_neg (by decide)]
    · rw [ei, g55]
      have q : (vpi (vpi (vpr (vpr v 1 2 (y + 1) 2) 1 4 (y + 1) 0) 1 6 (y + 1) 1) 1 8 (y + 1) 0).1 1 8 (y + 1) = 0 := if_pos ⟨rfl, rfl, rfl⟩
      refine Eq.trans (if_pos ⟨rfl, rfl, rfl⟩ : _ = (vpi (vpi (vpr (vpr v 1 2 (y + 1) 2) 1 4 (y + 1) 0) 1 6 (y + 1) 1) 1 8 (y + 1) 0).1 1 8 (y + 1) ||| (1 <<< (Int32.ofNat ((y + 1 - 1) / 24) &&& 31))) ?_
      rw [q]
      exact sh.1
    · rw [ei, gn 52 y (by omega) (by omega)]
      exact p6.2.1
    · rw [ei, g56]
      show x_u3 _ 1 12 (y + 1) 0 1 12 (y + 1) = 0
      exact if_pos ⟨rfl, rfl, rfl⟩
    · rw [ei, gn 61 y (by omega) (by omega)]
      exact p6.2.2.2
    · rw [gn 24 y (by omega) (by omega), h24] at z
      exact absurd z (by decide)
    · rw [gn 23 y (by omega) (by omega)] at z
      exact absurd h23 z
    · rw [gn 28 y (by omega) (by omega)] at z
      omega
    · refine ⟨0, by omega, g48, ?_, fun i hi => absurd hi (by omega)⟩
      rw [ei]
      show (x_u3 (vpr (vpr v 1 2 (y + 1) 2) 1 4 (y + 1) 0).1 1 6 (y + 1) 1 1 6 (y + 1)).toInt = 1
      rw [show x_u3 (vpr (vpr v 1 2 (y + 1) 2) 1 4 (y + 1) 0).1 1 6 (y + 1) 1 1 6 (y + 1) = 1 from if_pos ⟨rfl, rfl, rfl⟩]
      rfl
    · rw [g50, oo.1]; omega
    · rw [ei]
      show 0 ≤ (x_u3 _ 1 7 (y + 1) (Int32.ofNat ((y + 1 - 1) / 24)) 1 7 (y + 1)).toInt ∧ (x_u3 _ 1 7 (y + 1) (Int32.ofNat ((y + 1 - 1) / 24)) 1 7 (y + 1)).toInt ≤ 2
      rw [show x_u3 (vpi (vpi (vpr (vpr v 1 2 (y + 1) 2) 1 4 (y + 1) 0) 1 6 (y + 1) 1) 1 8 (y + 1) 0).1 1 7 (y + 1) (Int32.ofNat ((y + 1 - 1) / 24)) 1 7 (y + 1) = Int32.ofNat (y / 24) from if_pos ⟨rfl, rfl, rfl⟩, oo.1]
      omega
    · rw [g55]; exact sh.2.2.2
    · rw [g55]; exact sh.2.1
    · rw [g55, g50, oo.2]; exact sh.2.1
    · rw [gn 22 y (by omega) (by omega)]; exact h22
    · rw [er, g55, sh.2.2.1]; exact Int.le_refl 1
    · rw [ei, g50, oo.2]
      show x_u3 _ 1 9 (y + 1) _ 1 9 (y + 1) = _
      exact if_pos ⟨rfl, rfl, rfl⟩
    · rw [er, ei, show (vpi (vpr (vnew v (y + 1) (Int32.ofNat (cdo 38 (3 * (y / 24) + r)))) 2 5 (y + 1) (y + 1)) 2 3 (y + 1) 1).1 1 9 (y + 1) = Int32.ofNat (cdo 38 (3 * (y / 24) + r)) from vnew_9]
      exact List.mem_singleton.mpr rfl
    · rw [ei, g50]
      show x_u3 _ 1 7 (y + 1) (Int32.ofNat ((y + 1 - 1) / 24)) 1 7 (y + 1) = _
      exact if_pos ⟨rfl, rfl, rfl⟩
  · rw [gn 28 l (by omega) (by omega)]
    by_cases e : c' = c
    · rw [e, g57, ← S.2.1 c l hc h2, show F 57 c = -1 from i32_eq.mpr (by show _ = (-1 : Int); omega)]
    · rw [gn 57 c' (by omega) (by omega)]
      exact S.2.1 c' l h1 h2
  · by_cases e : c' = c
    · rw [e, g47] at h5; exact absurd h5 (by decide)
    · rw [gn 47 c' (by omega) (by omega)] at h5
      rw [gn 57 c' (by omega) (by omega), gn 22 _ (by omega) (by omega)] at h6
      rw [gn 62 c' (by omega) (by omega), ei]
      have := S.2.2 c' h1 h5 h6
      refine ⟨?_, this.2⟩
      rw [← this.1]
      rfl
end XBG
