/-! WAYS, on both sides -/
theorem fnd_is {p : Nat → Bool} {a n k : Nat} (h1 : a ≤ k) (h2 : k < a + n) (h3 : p k = true) (h4 : ∀ k', a ≤ k' → k' < k → p k' = false) : fnd p a n = some k := by
  cases e : fnd p a n with
  | none => rw [fnd_none e k h1 h2] at h3; cases h3
  | some k' =>
    obtain ⟨b1, b2, b3, b4⟩ := fnd_some e
    rcases Nat.lt_trichotomy k' k with z | z | z
    · rw [h4 k' b1 z] at b3; cases b3
    · rw [z]
    · rw [b4 k h1 z] at h3; cases h3
theorem fnd_isn {p : Nat → Bool} {a n : Nat} (h : ∀ k, a ≤ k → k < a + n → p k = false) : fnd p a n = none := by
  cases e : fnd p a n with
  | none => rfl
  | some k => obtain ⟨b1, b2, b3, -⟩ := fnd_some e; rw [h k b1 b2] at b3; cases b3
theorem ofN_m1 {k : Nat} (h : k ≤ 100000) : ¬ Int32.ofNat k = -1 := fun z => by
  have := congrArg Int32.toInt z
  rw [(ofN h).1] at this
  have : (k : Int) = -1 := this
  omega
section XWY
variable {D : Int} {E J : Nat → Prop} {v : vS} {F : xF} {o r a b s s' : Nat}
abbrev lkn (r a s : Nat) : Nat := 4 * (a / 8) + (r + s) % 4
theorem SX.rot (S : SX D E J v F) (ho : o < 3) : ∃ r, r < 4 ∧ F 43 o = Int32.ofNat r := by
  obtain ⟨⟨-, h1, h2⟩, -⟩ := S.or o ho
  exact ⟨(F 43 o).toInt.toNat, by omega, i32_eq.mpr (by rw [(ofN (n := (F 43 o).toInt.toNat) (by omega)).1]; omega)⟩
theorem lnk_e (S : SX D E J v F) (ho : o < 3) (hr : F 43 o = Int32.ofNat r) (hr4 : r < 4) (ha : a < 24) (hs : s < 4) : lnk v (o + 1) (24 * o + a + 1) s = Int32.ofNat (lkn r a s) := by
  unfold lnk
  rw [(S.or o ho).1.1, hr, ofN_add, show (4 : Int32) = Int32.ofNat 4 from rfl, ofN_rem (by omega) (by omega) (by omega), ofN_add]
  have e : (24 * o + a + 1 - 1) % 24 / 8 * 4 + (r + s) % 4 = 4 * (a / 8) + (r + s) % 4 := by omega
  rw [e]
theorem ilp_e {y : Int32} (S : SX D E J v F) (ho : o < 3) (hr : F 43 o = Int32.ofNat r) (hr4 : r < 4) (ha : a < 24) (hs : s < 4) : ilp v (o + 1) (24 * o + a + 1) y s = true ↔ ¬ Int32.ofNat (lkn r a s) = y ∧ FWB F o r a s := by
  have hk : lkn r a s < 12 := by show 4 * (a / 8) + (r + s) % 4 < 12; omega
  have h36 := (S.i36 ho hk).1
  have e : 12 * o + lkn r a s = 12 * o + 4 * (a / 8) + (r + s) % 4 := by show _ + (_ + _) = _; omega
  rw [e] at h36
  unfold ilp
  rw [lnk_e S ho hr hr4 ha hs, (ofN (n := lkn r a s) (by omega)).2]
  rw [Bool.and_eq_true, Bool.not_eq_true', beq_eq_false_iff_ne, beq_iff_eq]
  unfold FWB
  constructor
  · rintro ⟨h1, h2⟩
    exact ⟨h1, by omega⟩
  · rintro ⟨h1, h2⟩
    exact ⟨h1, by omega⟩
theorem fwa_e (S : SX D E J v F) (ho : o < 3) (hr : F 43 o = Int32.ofNat r) (hr4 : r < 4) (ha : a < 24) (hb : b < 24) (hs : s < 4) (hs' : s' < 4) : FWA F o r a b s s' ↔ FWB F o r a s ∧ ilp v (o + 1) (24 * o + b + 1) (Int32.ofNat (lkn r a s)) s' = true := by
  rw [ilp_e S ho hr hr4 hb hs']
  unfold FWA FWB
  constructor
  · rintro ⟨h1, h2, h3⟩
    exact ⟨h1, fun z => h3 (by have z := ofN_inj (by show 4 * (b / 8) + (r + s') % 4 ≤ _; omega) (by show 4 * (a / 8) + (r + s) % 4 ≤ _; omega) z; have z : 4 * (b / 8) + (r + s') % 4 = 4 * (a / 8) + (r + s) % 4 := z; omega), h2⟩
  · rintro ⟨h1, h2, h3⟩
    exact ⟨h1, h3, fun z => h2 (congrArg Int32.ofNat (by show 4 * (b / 8) + (r + s') % 4 = 4 * (a / 8) + (r + s) % 4; omega))⟩
theorem ilf {y : Int32} {t : Nat} (S : SX D E J v F) (ho : o < 3) (hr : F 43 o = Int32.ofNat r) (hr4 : r < 4) (hb : b < 24) (ht : t ≤ 4) (h : ∀ s, t ≤ s → s < 4 → ¬ ilp v (o + 1) (24 * o + b + 1) y s = true) : ilk v (o + 1) (24 * o + b + 1) t y = -1 := by
  unfold ilk
  rw [fnd_isn (fun k h1 h2 => Bool.eq_false_iff.mpr (h k h1 (by omega)))]
  rfl
theorem ilt {y : Int32} {t : Nat} (S : SX D E J v F) (ho : o < 3) (hr : F 43 o = Int32.ofNat r) (hr4 : r < 4) (hb : b < 24) (ht : t ≤ s) (hs : s < 4) (h1 : ilp v (o + 1) (24 * o + b + 1) y s = true) (h : ∀ s', t ≤ s' → s' < s → ¬ ilp v (o + 1) (24 * o + b + 1) y s' = true) : ilk v (o + 1) (24 * o + b + 1) t y = Int32.ofNat (lkn r b s) := by
  unfold ilk
  rw [fnd_is ht (by omega) h1 (fun k h2 h3 => Bool.eq_false_iff.mpr (h k h2 h3))]
  exact lnk_e S ho hr hr4 hb hs
theorem lkn_b (hr4 : r < 4) (ha : a < 24) : lkn r a s < 12 := by show 4 * (a / 8) + (r + s) % 4 < 12; omega
/-- a way to one line -/
theorem wayB0 (S : SX D E J v F) (ho : o < 3) (hr : F 43 o = Int32.ofNat r) (hr4 : r < 4) (hb : b < 24) (h : ∀ s, s < 4 → ¬ FWB F o r b s) : ilk v (o + 1) (24 * o + b + 1) 0 (-1) = -1 := ilf S ho hr hr4 hb (by omega) (fun s _ hs z => h s hs ((ilp_e S ho hr hr4 hb hs).mp z).2)
theorem wayB1 (S : SX D E J v F) (ho : o < 3) (hr : F 43 o = Int32.ofNat r) (hr4 : r < 4) (hb : b < 24) (hs : s < 4) (h1 : FWB F o r b s) (h : ∀ s', s' < s → ¬ FWB F o r b s') : ilk v (o + 1) (24 * o + b + 1) 0 (-1) = Int32.ofNat (lkn r b s) := ilt S ho hr hr4 hb (by omega) hs ((ilp_e S ho hr hr4 hb hs).mpr ⟨ofN_m1 (by have := lkn_b (s := s) hr4 hb; omega), h1⟩) (fun s' _ hs' z => h s' hs' ((ilp_e S ho hr hr4 hb (by omega)).mp z).2)
/-- a way between two lines -/
theorem swo_e (S : SX D E J v F) (ho : o < 3) (hr : F 43 o = Int32.ofNat r) (hr4 : r < 4) (ha : a < 24) (hb : b < 24) {t : Nat} (ht : t < 4) (h : ¬ swo v (o + 1) (24 * o + a + 1) (24 * o + b + 1) t = -1) : ∃ s s', t ≤ s ∧ s < 4 ∧ s' < 4 ∧ FWA F o r a b s s' ∧ (∀ s1, t ≤ s1 → s1 < s → ¬ FWB F o r a s1) ∧ ilk v (o + 1) (24 * o + a + 1) t (-1) = Int32.ofNat (lkn r a s) ∧ swo v (o + 1) (24 * o + a + 1) (24 * o + b + 1) t = Int32.ofNat (lkn r b s') ∧ ∀ s2, s2 < s' → ¬ FWA F o r a b s s2 := by
  have e0 : swo v (o + 1) (24 * o + a + 1) (24 * o + b + 1) t = if ilk v (o + 1) (24 * o + a + 1) t (-1) = -1 then -1 else ilk v (o + 1) (24 * o + b + 1) 0 (ilk v (o + 1) (24 * o + a + 1) t (-1)) := rfl
  cases e1 : fnd (ilp v (o + 1) (24 * o + a + 1) (-1)) t (4 - t) with
  | none =>
    have : ilk v (o + 1) (24 * o + a + 1) t (-1) = -1 := by unfold ilk; rw [e1]; rfl
    rw [e0, if_pos this] at h
    exact absurd rfl h
  | some s =>
    obtain ⟨a1, a2, a3, a4⟩ := fnd_some e1
    have hs : s < 4 := by omega
    have e2 : ilk v (o + 1) (24 * o + a + 1) t (-1) = Int32.ofNat (lkn r a s) := by unfold ilk; rw [e1]; exact lnk_e S ho hr hr4 ha hs
    have hl := lkn_b (s := s) hr4 ha
    rw [e0, e2, if_neg (ofN_m1 (by omega))] at h
    cases e3 : fnd (ilp v (o + 1) (24 * o + b + 1) (Int32.ofNat (lkn r a s))) 0 (4 - 0) with
    | none =>
      refine absurd ?_ h
      unfold ilk
      rw [e3]
      rfl
    | some s' =>
      obtain ⟨-, b2, b3, b4⟩ := fnd_some e3
      have hs' : s' < 4 := by omega
      refine ⟨s, s', a1, hs, hs', (fwa_e S ho hr hr4 ha hb hs hs').mpr ⟨((ilp_e S ho hr hr4 ha hs).mp a3).2, b3⟩, fun s1 h1 h2 z => ?_, e2, ?_, fun s2 h2 z => ?_⟩
      · have := a4 s1 h1 h2
        rw [(ilp_e S ho hr hr4 ha (by omega)).mpr ⟨ofN_m1 (by have := lkn_b (s := s1) hr4 ha; omega), z⟩] at this
        cases this
      · rw [e0, e2, if_neg (ofN_m1 (by omega))]
        unfold ilk
        rw [e3]
        exact lnk_e S ho hr hr4 hb hs'
      · have := b4 s2 (Nat.zero_le _) h2
        rw [((fwa_e S ho hr hr4 ha hb hs (by omega)).mp z).2] at this
        cases this
theorem swo_n (S : SX D E J v F) (ho : o < 3) (hr : F 43 o = Int32.ofNat r) (hr4 : r < 4) (ha : a < 24) (hb : b < 24) (hs : s < 4) (hs' : s' < 4) (h : FWA F o r a b s s') : ¬ swo v (o + 1) (24 * o + a + 1) (24 * o + b + 1) s = -1 := by
  have hl := lkn_b (s := s) hr4 ha
  have h1 := (fwa_e S ho hr hr4 ha hb hs hs').mp h
  have e2 := ilt (t := s) (y := -1) S ho hr hr4 ha (Nat.le_refl _) hs ((ilp_e S ho hr hr4 ha hs).mpr ⟨ofN_m1 (by omega), h1.1⟩) (fun _ z z' => absurd z (by omega))
  unfold swo
  rw [e2, if_neg (ofN_m1 (by omega))]
  unfold ilk
  cases e3 : fnd (ilp v (o + 1) (24 * o + b + 1) (Int32.ofNat (lkn r a s))) 0 (4 - 0) with
  | none =>
    have := fnd_none e3 s' (Nat.zero_le _) (by omega)
    rw [h1.2] at this
    cases this
  | some s2 =>
    obtain ⟨-, b2, -, -⟩ := fnd_some e3
    show ¬ lnk v (o + 1) (24 * o + b + 1) s2 = -1
    rw [lnk_e S ho hr hr4 hb (by omega)]
    exact ofN_m1 (by have := lkn_b (s := s2) hr4 hb; omega)
theorem wayA0 (S : SX D E J v F) (ho : o < 3) (hr : F 43 o = Int32.ofNat r) (hr4 : r < 4) (ha : a < 24) (hb : b < 24) (h : ∀ s s', s < 4 → s' < 4 → ¬ FWA F o r a b s s') : fnd (fun s => !(swo v (o + 1) (24 * o + a + 1) (24 * o + b + 1) s == -1)) 0 4 = none := by
  refine fnd_isn (fun k _ hk => Bool.eq_false_iff.mpr (fun z => ?_))
  obtain ⟨s, s', -, h1, h2, h3, -⟩ := swo_e S ho hr hr4 ha hb (t := k) (by omega) (fun w => by rw [w] at z; exact absurd z (by decide))
  exact h s s' h1 h2 h3
theorem wayA1 (S : SX D E J v F) (ho : o < 3) (hr : F 43 o = Int32.ofNat r) (hr4 : r < 4) (ha : a < 24) (hb : b < 24) (hs : s < 4) (hs' : s' < 4) (h : FWA F o r a b s s') (h1 : ∀ s1 s2, s1 < s → s2 < 4 → ¬ FWA F o r a b s1 s2) (h2 : ∀ s2, s2 < s' → ¬ FWA F o r a b s s2) : ∃ t, fnd (fun s => !(swo v (o + 1) (24 * o + a + 1) (24 * o + b + 1) s == -1)) 0 4 = some t ∧ ilk v (o + 1) (24 * o + a + 1) t (-1) = Int32.ofNat (lkn r a s) ∧ swo v (o + 1) (24 * o + a + 1) (24 * o + b + 1) t = Int32.ofNat (lkn r b s') := by
  have hn := swo_n S ho hr hr4 ha hb hs hs' h
  cases e : fnd (fun s => !(swo v (o + 1) (24 * o + a + 1) (24 * o + b + 1) s == -1)) 0 4 with
  | none =>
    have := fnd_none e s (Nat.zero_le _) (by omega)
    rw [Bool.not_eq_false', beq_iff_eq] at this
    exact absurd this hn
  | some t =>
    obtain ⟨-, b2, b3, b4⟩ := fnd_some e
    have hts : t ≤ s := Nat.le_of_not_lt (fun z => by
      have := b4 s (Nat.zero_le _) z
      rw [Bool.not_eq_false', beq_iff_eq] at this
      exact hn this)
    rw [Bool.not_eq_true', beq_eq_false_iff_ne] at b3
    obtain ⟨q, q', c1, c2, c3, c4, c5, c6, c7, c8⟩ := swo_e S ho hr hr4 ha hb (by omega) b3
    have hq : q = s := by
      rcases Nat.lt_trichotomy q s with z | z | z
      · exact absurd c4 (h1 q q' z c3)
      · exact z
      · exact absurd h.1 (c5 s hts z)
    subst hq
    have hq' : q' = s' := by
      rcases Nat.lt_trichotomy q' s' with z | z | z
      · exact absurd c4 (h2 q' z)
      · exact z
      · exact absurd h (c8 s' z)
    subst hq'
    exact ⟨t, rfl, c6, c7⟩
end XWY
