/-! SEARCHES, on both sides -/
theorem fnd_FS {p : Nat → Bool} {P : Nat → Prop} {n a : Nat} {r : Int32} (f : FS P n r) (h : ∀ k, k < n → (p (a + k) = true ↔ P k)) : (r = -1 ∧ fnd p a n = none) ∨ ∃ k, k < n ∧ r = Int32.ofNat k ∧ fnd p a n = some (a + k) ∧ P k := by
  cases e : fnd p a n with
  | none =>
    refine Or.inl ⟨?_, rfl⟩
    rcases f with ⟨e1, -⟩ | ⟨k, h1, -, h3, -⟩
    · exact e1
    · have := fnd_none e (a + k) (by omega) (by omega)
      rw [(h k h1).mpr h3] at this
      cases this
  | some q =>
    obtain ⟨q1, q2, q3, q4⟩ := fnd_some e
    obtain ⟨k, rfl⟩ : ∃ k, q = a + k := ⟨q - a, by omega⟩
    have hk : k < n := by omega
    have pk := (h k hk).mp q3
    refine Or.inr ⟨k, hk, ?_, rfl, pk⟩
    rcases f with ⟨-, e1⟩ | ⟨k', h1, h2, h3, h4⟩
    · exact absurd pk (e1 k hk)
    · have : k' = k := by
        rcases Nat.lt_trichotomy k' k with z | z | z
        · have := q4 (a + k') (by omega) (by omega)
          rw [(h k' h1).mpr h3] at this
          cases this
        · exact z
        · exact absurd pk (h4 k z)
      rw [h2, this]
section XSE
variable {D : Int} {E J : Nat → Prop} {v : vS} {F : xF} {o : Nat} {r : Int32}
theorem SX.i38 (S : SX D E J v F) (ho : o < 3) {k : Nat} (hk : k < 3) : (v.2.1 17 (o + 1) (30 + k) : Int) = (F 38 (3 * o + k)).toInt + 1 ∧ (F 38 (3 * o + k)).toInt < 72 := by
  have h := S.hd 38 (3 * o + k) (by unfold slo; omega)
  have e : cs v 38 (3 * o + k) = v.2.1 17 ((3 * o + k) / 3 + 1) (30 + (3 * o + k) % 3) := rfl
  rw [e, show (3 * o + k) / 3 = o by omega, show (3 * o + k) % 3 = k by omega] at h
  exact h
theorem SX.i37 (S : SX D E J v F) (ho : o < 3) {k : Nat} (hk : k < 5) : (v.2.1 17 (o + 1) (20 + k) : Int) = (F 37 (5 * o + k)).toInt + 1 ∧ (F 37 (5 * o + k)).toInt < 72 := by
  have h := S.hd 37 (5 * o + k) (by unfold slo; omega)
  have e : cs v 37 (5 * o + k) = v.2.1 17 ((5 * o + k) / 5 + 1) (20 + (5 * o + k) % 5) := rfl
  rw [e, show (5 * o + k) / 5 = o by omega, show (5 * o + k) % 5 = k by omega] at h
  exact h
theorem SX.i36 (S : SX D E J v F) (ho : o < 3) {k : Nat} (hk : k < 12) : (v.2.1 17 (o + 1) k : Int) = (F 36 (12 * o + k)).toInt + 1 ∧ (F 36 (12 * o + k)).toInt < 72 := by
  have h := S.hd 36 (12 * o + k) (by unfold slo; omega)
  have e : cs v 36 (12 * o + k) = v.2.1 17 ((12 * o + k) / 12 + 1) ((12 * o + k) % 12) := rfl
  rw [e, show (12 * o + k) / 12 = o by omega, show (12 * o + k) % 12 = k by omega] at h
  exact h
theorem SX.i41 (S : SX D E J v F) {t : Nat} (ht : t < v.2.2.2 6) : (v.2.1 6 3 (t + 1) : Int) = (F 41 t).toInt + 1 ∧ (F 41 t).toInt < 72 := S.hd 41 t (by unfold slo; omega)
/-- the first idle register -/
theorem SX.freg (S : SX D E J v F) (ho : o < 3) (f : FS (fun k => (F 38 (3 * o + k)).toInt < 0) 3 r) : (r = -1 ∧ fidl v (o + 1) 30 33 = -1) ∨ ∃ k, k < 3 ∧ r = Int32.ofNat k ∧ fidl v (o + 1) 30 33 = Int32.ofNat (30 + k) ∧ (F 38 (3 * o + k)).toInt < 0 := by
  rcases fnd_FS (p := fun p => v.2.1 17 (o + 1) p == 0) (a := 30) f (fun k hk => by
    have := (S.i38 ho hk).1
    simp only [beq_iff_eq]
    omega) with ⟨a, b⟩ | ⟨k, a1, a2, a3, a4⟩
  · exact Or.inl ⟨a, by unfold fidl; rw [b]; rfl⟩
  · exact Or.inr ⟨k, a1, a2, by unfold fidl; rw [a3]; rfl, a4⟩
theorem SX.fjun (S : SX D E J v F) (ho : o < 3) (f : FS (fun k => (F 37 (5 * o + k)).toInt < 0) 5 r) : (r = -1 ∧ fidl v (o + 1) 20 25 = -1) ∨ ∃ k, k < 5 ∧ r = Int32.ofNat k ∧ fidl v (o + 1) 20 25 = Int32.ofNat (20 + k) ∧ (F 37 (5 * o + k)).toInt < 0 := by
  rcases fnd_FS (p := fun p => v.2.1 17 (o + 1) p == 0) (a := 20) f (fun k hk => by
    have := (S.i37 ho hk).1
    simp only [beq_iff_eq]
    omega) with ⟨a, b⟩ | ⟨k, a1, a2, a3, a4⟩
  · exact Or.inl ⟨a, by unfold fidl; rw [b]; rfl⟩
  · exact Or.inr ⟨k, a1, a2, by unfold fidl; rw [a3]; rfl, a4⟩
/-- the first idle trunk -/
theorem SX.ftrk {x y : Int32} (S : SX D E J v F) (hxy : x ≠ y) (f : FS (TP F x y) (v.2.2.2 6) r) : (r = -1 ∧ fitr v x y = -1) ∨ ∃ k, k < v.2.2.2 6 ∧ r = Int32.ofNat k ∧ fitr v x y = Int32.ofNat k ∧ (F 41 k).toInt < 0 := by
  have hT := S.tr.1
  have et : tcn v = v.2.2.2 6 := by
    show (v.1 7 4 1).toInt.toNat = _
    rw [S.tr.2.1, (ofN (n := v.2.2.2 6) (by omega)).1]
    rfl
  have key : ∀ k, k < v.2.2.2 6 → ((fun t => trd v t && ten v x t && ten v y t) (0 + k) = true ↔ TP F x y k) := by
    intro k hk
    obtain ⟨t1, t2, t3, t4⟩ := S.tr.2.2.2 k hk
    have h41 := (S.i41 hk).1
    rw [Nat.zero_add]
    simp only [trd, ten, Bool.and_eq_true, decide_eq_true_eq, t1, t2, t3, t4]
    unfold TP
    constructor
    · rintro ⟨⟨⟨a1, a2⟩, a3⟩, a4⟩
      refine ⟨?_, by omega, a1⟩
      rcases a3 with a3 | a3
      · rcases a4 with a4 | a4
        · exact absurd (a3.symm.trans a4) hxy
        · exact Or.inl ⟨a3, a4⟩
      · rcases a4 with a4 | a4
        · exact Or.inr ⟨a4, a3⟩
        · exact absurd (a3.symm.trans a4) hxy
    · rintro ⟨a1, a2, a3⟩
      rcases a1 with ⟨b1, b2⟩ | ⟨b1, b2⟩
      · exact ⟨⟨⟨a3, by omega⟩, Or.inl b1⟩, Or.inr b2⟩
      · exact ⟨⟨⟨a3, by omega⟩, Or.inr b2⟩, Or.inl b1⟩
  rcases fnd_FS (p := fun t => trd v t && ten v x t && ten v y t) (a := 0) f key with ⟨a, b⟩ | ⟨k, a1, a2, a3, a4⟩
  · exact Or.inl ⟨a, by unfold fitr; rw [et, b]; rfl⟩
  · exact Or.inr ⟨k, a1, a2, by unfold fitr; rw [et, a3, Nat.zero_add]; rfl, a4.2.1⟩
/-- whether a line waits -/
theorem SX.fwt (S : SX D E J v F) (ho : o < 3) (f : DW F o r) : (r = 1 ∧ 0 < (v.2.2.1 (30 * o + 1)).length) ∨ (r = 0 ∧ v.2.2.1 (30 * o + 1) = []) := by
  obtain ⟨a1, a2, -⟩ := S.wq.1 o ho
  rcases f with ⟨e, n, h1, h2⟩ | ⟨e, h⟩
  · exact Or.inl ⟨e, List.length_pos_of_mem (a2 n h1 h2)⟩
  · refine Or.inr ⟨e, List.eq_nil_iff_forall_not_mem.mpr (fun x hx => ?_)⟩
    obtain ⟨n, b1, b2, b3⟩ := a1 x hx
    have := h n b1
    omega
theorem SX.hlv {c : Nat} (S : SX D E J v F) (hc : c < 72) : LV F 63 64 16 c (v.2.2.1 (ri c)) := (S.hl hc).1
theorem SX.h16 {c : Nat} (S : SX D E J v F) (hc : c < 72) : (v.2.2.1 (ri c)).length ≤ 16 := Nat.le_trans (S.hl hc).2.1 (by decide)
theorem SX.hjv (S : SX D E J v F) : ∀ o, o < 3 → LV F 45 46 72 o ((fun o => v.2.2.1 (30 * o + 2)) o) ∧ ((fun o => v.2.2.1 (30 * o + 2)) o).length ≤ 72 := fun o ho => ⟨(S.jq o ho).1, Nat.le_trans (S.jq o ho).2.2.1 (by decide)⟩
theorem Sim.f8 (S : Sim D v F) {k : Nat} {x : Int32} (hk : k ≠ 2 ∧ k ≠ 20) : Sim D v (x_u2 F 8 k x) := ⟨S.1.f8 hk, S.2.1, S.2.2⟩
end XSE
/-- the class's answer, and the reference's -/
def AG (o o9 : xO) (t : xF) : Prop := (∃ k : Nat, o = .inr k ∧ t 8 0 = Int32.ofNat k ∧ 1 ≤ k ∧ k ≤ 2) ∨ (∃ w, o = .inl w ∧ t 8 0 = 0 ∧ o9 = .inl w)
theorem lno_e {o n : Nat} (ho : o < 3) (hn : n < 24) : lno (Int32.ofNat o) (Int32.ofNat n) = 24 * o + n + 1 := by
  unfold lno
  rw [(ofN (n := o) (by omega)).2, (ofN (n := n) (by omega)).2]
theorem lnok_e {o n : Nat} (ho : o < 3) (hn : n < 24) : lnok (Int32.ofNat o) (Int32.ofNat n) := by
  have a := ofN (n := o) (by omega)
  have b := ofN (n := n) (by omega)
  unfold lnok
  omega
theorem lnok_ex {x y : Int32} (h : lnok x y) : ∃ o n, o < 3 ∧ n < 24 ∧ x = Int32.ofNat o ∧ y = Int32.ofNat n := by
  obtain ⟨⟨a1, a2⟩, b1, b2⟩ := h
  have e1 := x_clamp a1
  have e2 := x_clamp b1
  exact ⟨x.toNatClampNeg, y.toNatClampNeg, by omega, by omega, i32_nat a1, i32_nat b1⟩
section XCL
variable {D : Int} {v : vS} {F : xF} {o n c : Nat}
theorem Sim.li (S : Sim D v F) (hc : c < 72) : v.1 2 2 (c + 1) = F 22 c := (S.pl hc).2.1.1
/-- whose call a line has -/
theorem Sim.cr0 (S : Sim D v F) (hc : c < 72) (h47 : F 47 c = 0) (h28 : (F 28 c).toInt < 0) : v.2.1 2 5 (c + 1) = 0 := by
  obtain ⟨a1, a2, a3⟩ := (S.pl hc).2.2.1
  rw [if_pos h47] at a1
  omega
theorem Sim.cr1 (S : Sim D v F) (hc : c < 72) (h47 : ¬ F 47 c = 0) : v.2.1 2 5 (c + 1) = c + 1 := by
  have a1 := (S.pl hc).2.2.1.1
  rw [if_neg h47] at a1
  omega
theorem Sim.cr2 {k : Nat} (S : Sim D v F) (hc : c < 72) (hk : k < 72) (h28 : F 28 c = Int32.ofNat k) : v.2.1 2 5 (c + 1) = k + 1 ∧ v.2.1 1 3 (k + 1) = c + 1 ∧ F 47 c = 0 ∧ F 57 k = Int32.ofNat c := by
  have ok := ofN (n := k) (by omega)
  have oc := ofN (n := c) (by omega)
  have h0 : 0 ≤ (F 28 c).toInt := by rw [h28, ok.1]; omega
  have h47 := (S.pl hc).2.2.2.2.2.2.2.2.2.1 h0
  have a1 := (S.pl hc).2.2.1.1
  rw [if_pos h47, h28, ok.1] at a1
  have f57 : F 57 k = Int32.ofNat c := (S.2.1 k c hk hc).mpr h28
  have a2 := (S.pl hk).2.2.2.1.1
  rw [f57, oc.1] at a2
  exact ⟨by omega, by omega, h47, f57⟩
/-- an own call is not called by its own line -/
theorem Sim.cd1 (S : Sim D v F) (hc : c < 72) (h47 : ¬ F 47 c = 0) : ¬ v.2.1 1 3 (c + 1) = c + 1 := by
  intro z
  have a2 := (S.pl hc).2.2.2.1
  have h0 : 0 ≤ (F 57 c).toInt := by omega
  have e0 := x_clamp h0
  have e : F 57 c = Int32.ofNat c := by
    rw [i32_nat h0]
    congr 1
    omega
  have h28 := (S.2.1 c c hc hc).mp e
  exact h47 ((S.pl hc).2.2.2.2.2.2.2.2.2.1 (by rw [h28, (ofN (n := c) (by omega)).1]; omega))
theorem Sim.b28 (S : Sim D v F) (hc : c < 72) (h : 0 ≤ (F 28 c).toInt) : ∃ k, k < 72 ∧ F 28 c = Int32.ofNat k := by
  have := (S.pl hc).2.2.1.2
  have e := x_clamp h
  exact ⟨(F 28 c).toNatClampNeg, by omega, i32_nat h⟩
theorem Sim.stg (S : Sim D v F) (hc : c < 72) (q : Nat) (hq : q ≤ 5) : v.2.1 1 2 (c + 1) = q + 1 ↔ F 47 c = Int32.ofNat q := by
  have a := (S.pl hc).1
  have oq := ofN (n := q) (by omega)
  constructor
  · intro z
    exact i32_eq.mpr (by rw [oq.1]; omega)
  · intro z
    rw [z, oq.1] at a
    omega
end XCL
