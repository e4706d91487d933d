/-! SEIZING A WAY -/
theorem rseize_v {F : xF} {c n T K i K' i' : Nat} (h : slo T K i) (hT : T ≤ 16) (h' : K' ≠ 63 ∧ K' ≠ 64) (ne : K' ≠ K ∨ i' ≠ i) : rseize F c n (Int32.ofNat (cdo K i)) K' i' = F K' i' := by
  rw [rseize_c h hT]
  unfold x_u2
  rw [if_neg (by omega), if_neg (by omega), if_neg (by omega)]
theorem rseize_63 {F : xF} {c n : Nat} {x : Int32} : rseize F c n x 63 c = Int32.ofNat (n + 1) := (gset_ne (by omega)).trans u2_eq
theorem cod_l {o r a s : Nat} (hr : r < 4) (ha : a < 24) : 1000 * o + 4 * (a / 8) + (r + s) % 4 = cdo 36 (12 * o + lkn r a s) := by
  have := lkn_b (s := s) hr ha
  unfold cdo
  rw [if_pos rfl, show (12 * o + lkn r a s) / 12 = o by omega, show (12 * o + lkn r a s) % 12 = lkn r a s by omega]
  show _ = 1000 * o + (4 * (a / 8) + (r + s) % 4)
  omega
theorem cod_L {o r a s : Nat} (hr : r < 4) (ha : a < 24) : 1000 * o + lkn r a s = cdo 36 (12 * o + lkn r a s) := by
  rw [← cod_l hr ha]
  show 1000 * o + (4 * (a / 8) + (r + s) % 4) = _
  omega
theorem cod_j {o k : Nat} (hk : k < 5) : 1000 * o + 20 + k = cdo 37 (5 * o + k) := by
  unfold cdo
  rw [if_neg (by decide), if_pos rfl]
  omega
theorem cod_J {o k : Nat} (hk : k < 5) : 1000 * o + (20 + k) = cdo 37 (5 * o + k) := by rw [← cod_j hk]; omega
theorem ocd_e {o k : Nat} : ocd (o + 1) (Int32.ofNat k) = Int32.ofNat (1000 * o + k) := ofN_add _ _
theorem vseize_row {v : vS} {c : Nat} {x : Int32} (h : (v.2.2.1 (ri c)).length < 8) : (vseize v (c + 1) x).2.2.1 (ri c) = v.2.2.1 (ri c) ++ [x] := by
  show x_u1 (hset v x (c + 1)).2.2.1 (ri c) (radd 8 (v.2.2.1 (ri c)) x) (ri c) = _
  rw [u1_eq]
  exact if_pos h
theorem lkn_m {r a s : Nat} : (lkn r a s + 1) % 4 = ((r + s) % 4 + 1) % 4 := by show (4 * (a / 8) + (r + s) % 4 + 1) % 4 = _; omega
theorem vlk_e {v : vS} {o j k : Nat} (hk : k ≤ 1000) : vlk v (o + 1) j (Int32.ofNat k) = vpi (vseize v j (Int32.ofNat (1000 * o + k))) 3 8 (o + 1) (Int32.ofNat ((k + 1) % 4)) := by
  unfold vlk vlink
  rw [if_neg (ofN_m1 (by omega)), show Int32.ofNat (1000 * (o + 1 - 1)) + Int32.ofNat k = Int32.ofNat (1000 * o + k) from ofN_add _ _, show Int32.ofNat k + 1 = Int32.ofNat (k + 1) from ofN_add k 1, show (4 : Int32) = Int32.ofNat 4 from rfl, ofN_rem (by omega) (by omega) (by omega)]
section XW3
variable {D : Int} {J : Nat → Prop} {v : vS} {F : xF} {c o : Nat}
/-- a link alone -/
theorem SX.way1 {i ρ : Nat} (S : SX D (fun y => y = c) J v F) (hc : c < 72) (ho : o < 3) (hi : i < 36) (hid : (F 36 i).toInt < 0) (hl : (v.2.2.1 (ri c)).length < 8) (hρ : ρ < 4) : SX D (fun y => y = c) J (vpi (vseize v (c + 1) (Int32.ofNat (cdo 36 i))) 3 8 (o + 1) (Int32.ofNat ρ)) (x_u2 (rseize F c (v.2.2.1 (ri c)).length (Int32.ofNat (cdo 36 i))) 43 o (Int32.ofNat ρ)) ∧ KP v F (vpi (vseize v (c + 1) (Int32.ofNat (cdo 36 i))) 3 8 (o + 1) (Int32.ofNat ρ)) (x_u2 (rseize F c (v.2.2.1 (ri c)).length (Int32.ofNat (cdo 36 i))) 43 o (Int32.ofNat ρ)) ∧ (vpi (vseize v (c + 1) (Int32.ofNat (cdo 36 i))) 3 8 (o + 1) (Int32.ofNat ρ)).2.2.1 (ri c) = v.2.2.1 (ri c) ++ [Int32.ofNat (cdo 36 i)] :=
  ⟨(S.seize hc rfl (by unfold slo; omega) hid hl).rt8 ho hρ, KP.seize.tr KP.rot, vseize_row hl⟩
/-- a link, a junctor, a link -/
theorem SX.way3 {i i' k ρ : Nat} (S : SX D (fun y => y = c) J v F) (hc : c < 72) (ho : o < 3) (hi : i < 36) (hid : (F 36 i).toInt < 0) (hi' : i' < 36) (hid' : (F 36 i').toInt < 0) (hne : i' ≠ i) (hk : k < 15) (hkd : (F 37 k).toInt < 0) (hl : (v.2.2.1 (ri c)).length < 6) (hρ : ρ < 4) : SX D (fun y => y = c) J (vseize (vseize (vpi (vseize v (c + 1) (Int32.ofNat (cdo 36 i))) 3 8 (o + 1) (Int32.ofNat ρ)) (c + 1) (Int32.ofNat (cdo 37 k))) (c + 1) (Int32.ofNat (cdo 36 i'))) (x_u2 (rseize (rseize (rseize F c (v.2.2.1 (ri c)).length (Int32.ofNat (cdo 36 i))) c ((v.2.2.1 (ri c)).length + 1) (Int32.ofNat (cdo 37 k))) c ((v.2.2.1 (ri c)).length + 2) (Int32.ofNat (cdo 36 i'))) 43 o (Int32.ofNat ρ)) ∧ KP v F (vseize (vseize (vpi (vseize v (c + 1) (Int32.ofNat (cdo 36 i))) 3 8 (o + 1) (Int32.ofNat ρ)) (c + 1) (Int32.ofNat (cdo 37 k))) (c + 1) (Int32.ofNat (cdo 36 i'))) (x_u2 (rseize (rseize (rseize F c (v.2.2.1 (ri c)).length (Int32.ofNat (cdo 36 i))) c ((v.2.2.1 (ri c)).length + 1) (Int32.ofNat (cdo 37 k))) c ((v.2.2.1 (ri c)).length + 2) (Int32.ofNat (cdo 36 i'))) 43 o (Int32.ofNat ρ)) ∧ (vseize (vseize (vpi (vseize v (c + 1) (Int32.ofNat (cdo 36 i))) 3 8 (o + 1) (Int32.ofNat ρ)) (c + 1) (Int32.ofNat (cdo 37 k))) (c + 1) (Int32.ofNat (cdo 36 i'))).2.2.1 (ri c) = v.2.2.1 (ri c) ++ [Int32.ofNat (cdo 36 i)] ++ [Int32.ofNat (cdo 37 k)] ++ [Int32.ofNat (cdo 36 i')] := by
  have hT : v.2.2.2 6 ≤ 16 := S.tr.1
  have s1 : slo (v.2.2.2 6) 36 i := by unfold slo; omega
  have s2 : slo (v.2.2.2 6) 37 k := by unfold slo; omega
  have s3 : slo (v.2.2.2 6) 36 i' := by unfold slo; omega
  rw [vseize_p, vseize_p]
  have A1 := S.seize hc rfl s1 hid (by omega)
  have r1 : (vseize v (c + 1) (Int32.ofNat (cdo 36 i))).2.2.1 (ri c) = v.2.2.1 (ri c) ++ [Int32.ofNat (cdo 36 i)] := vseize_row (by omega)
  have n1 : (vseize v (c + 1) (Int32.ofNat (cdo 36 i))).2.2.2 = v.2.2.2 := by
    unfold vseize
    show (hset v _ _).2.2.2 = _
    rw [hset_i.2]
  have l1 : ((vseize v (c + 1) (Int32.ofNat (cdo 36 i))).2.2.1 (ri c)).length = (v.2.2.1 (ri c)).length + 1 := by rw [r1, List.length_append]; rfl
  have A2 := A1.seize (K := 37) (i := k) hc rfl (by rw [n1]; exact s2) (by rw [rseize_v s1 hT (by omega) (by omega)]; exact hkd) (by omega)
  rw [l1] at A2
  have r2 : (vseize (vseize v (c + 1) (Int32.ofNat (cdo 36 i))) (c + 1) (Int32.ofNat (cdo 37 k))).2.2.1 (ri c) = v.2.2.1 (ri c) ++ [Int32.ofNat (cdo 36 i)] ++ [Int32.ofNat (cdo 37 k)] := by rw [vseize_row (by omega), r1]
  have n2 : (vseize (vseize v (c + 1) (Int32.ofNat (cdo 36 i))) (c + 1) (Int32.ofNat (cdo 37 k))).2.2.2 = v.2.2.2 := by
    unfold vseize
    show (hset (vseize v (c + 1) (Int32.ofNat (cdo 36 i))) _ _).2.2.2 = _
    rw [hset_i.2, n1]
  have l2 : ((vseize (vseize v (c + 1) (Int32.ofNat (cdo 36 i))) (c + 1) (Int32.ofNat (cdo 37 k))).2.2.1 (ri c)).length = (v.2.2.1 (ri c)).length + 2 := by rw [r2, List.length_append, List.length_append]; rfl
  have A3 := A2.seize (K := 36) (i := i') hc rfl (by rw [n2]; exact s3) (by rw [rseize_v s2 hT (by omega) (by omega), rseize_v s1 hT (by omega) (by omega)]; exact hid') (by omega)
  rw [l2] at A3
  exact ⟨A3.rt8 ho hρ, ((KP.seize.tr KP.seize).tr KP.seize).tr KP.rot, by
    show (vseize (vseize (vseize v (c + 1) (Int32.ofNat (cdo 36 i))) (c + 1) (Int32.ofNat (cdo 37 k))) (c + 1) (Int32.ofNat (cdo 36 i'))).2.2.1 (ri c) = _
    rw [vseize_row (by omega), r2]⟩
end XW3
/-- what the search for a way answers -/
theorem wA {F t : xF} {o r a b : Nat} {o9 : xO} (h : (o9 = oi 0 ∧ t = F ∧ ∀ s s', s < 4 → s' < 4 → ¬ FWA F o r a b s s') ∨ ∃ s s', s < 4 ∧ s' < 4 ∧ FWA F o r a b s s' ∧ (∀ s1 s2, s1 < s → s2 < 4 → ¬ FWA F o r a b s1 s2) ∧ (∀ s2, s2 < s' → ¬ FWA F o r a b s s2) ∧ o9 = oi 1 ∧ t = x_u2 (x_u2 F 8 47 (Int32.ofNat ((r + s) % 4))) 8 48 (Int32.ofNat ((r + s') % 4))) : ∃ x, o9 = oi x ∧ ((x = 0 ∧ t = F ∧ ∀ s s', s < 4 → s' < 4 → ¬ FWA F o r a b s s') ∨ (x = 1 ∧ ∃ s s', s < 4 ∧ s' < 4 ∧ FWA F o r a b s s' ∧ (∀ s1 s2, s1 < s → s2 < 4 → ¬ FWA F o r a b s1 s2) ∧ (∀ s2, s2 < s' → ¬ FWA F o r a b s s2) ∧ t = x_u2 (x_u2 F 8 47 (Int32.ofNat ((r + s) % 4))) 8 48 (Int32.ofNat ((r + s') % 4)))) := by
  rcases h with ⟨h1, h2⟩ | ⟨s, s', h1, h2, h3, h4, h5, h6, h7⟩
  · exact ⟨0, h1, Or.inl ⟨rfl, h2⟩⟩
  · exact ⟨1, h6, Or.inr ⟨rfl, s, s', h1, h2, h3, h4, h5, h7⟩⟩
theorem wB {F t : xF} {o r b : Nat} {o9 : xO} {T : Nat → xF} (h : (o9 = oi 0 ∧ t = F ∧ ∀ s, s < 4 → ¬ FWB F o r b s) ∨ ∃ s, s < 4 ∧ FWB F o r b s ∧ (∀ s1, s1 < s → ¬ FWB F o r b s1) ∧ o9 = oi 1 ∧ t = T s) : ∃ x, o9 = oi x ∧ ((x = 0 ∧ t = F ∧ ∀ s, s < 4 → ¬ FWB F o r b s) ∨ (x = 1 ∧ ∃ s, s < 4 ∧ FWB F o r b s ∧ (∀ s1, s1 < s → ¬ FWB F o r b s1) ∧ t = T s)) := by
  rcases h with ⟨h1, h2⟩ | ⟨s, h1, h3, h4, h6, h7⟩
  · exact ⟨0, h1, Or.inl ⟨rfl, h2⟩⟩
  · exact ⟨1, h6, Or.inr ⟨rfl, s, h1, h3, h4, h7⟩⟩
