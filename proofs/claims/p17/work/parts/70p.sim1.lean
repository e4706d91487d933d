/-! THE TWO SIDES TOGETHER: what may be seized, place by place -/
/-- the reference's places for links, junctors, registers, trunks (T of them) -/
def slo (T K i : Nat) : Prop := (K = 36 ∧ i < 36) ∨ (K = 37 ∧ i < 15) ∨ (K = 38 ∧ i < 9) ∨ (K = 41 ∧ i < T)
theorem slo.up {T T' K i : Nat} (h : slo T K i) (hT : T ≤ T') : slo T' K i := by
  unfold slo at h ⊢
  omega
/-- who holds it in the class -/
def cs (v : vS) (K i : Nat) : Nat := if K = 36 then v.2.1 17 (i / 12 + 1) (i % 12) else if K = 37 then v.2.1 17 (i / 5 + 1) (20 + i % 5) else if K = 38 then v.2.1 17 (i / 3 + 1) (30 + i % 3) else v.2.1 6 3 (i + 1)
def csu (v : vS) (K i y : Nat) : vS := if K = 36 then vpr v 17 (i / 12 + 1) (i % 12) y else if K = 37 then vpr v 17 (i / 5 + 1) (20 + i % 5) y else if K = 38 then vpr v 17 (i / 3 + 1) (30 + i % 3) y else vpr v 6 3 (i + 1) y
/-- its code -/
def cdo (K i : Nat) : Nat := if K = 36 then 1000 * (i / 12) + i % 12 else if K = 37 then 1000 * (i / 5) + (20 + i % 5) else if K = 38 then 1000 * (i / 3) + (30 + i % 3) else 5000 + i
theorem cdo_le {T K i : Nat} (h : slo T K i) (hT : T ≤ 16) : cdo K i ≤ 5016 := by
  unfold cdo
  rcases h with ⟨rfl, h⟩ | ⟨rfl, h⟩ | ⟨rfl, h⟩ | ⟨rfl, h⟩
  · rw [if_pos rfl]; omega
  · rw [if_neg (by decide), if_pos rfl]; omega
  · rw [if_neg (by decide), if_neg (by decide), if_pos rfl]; omega
  · rw [if_neg (by decide), if_neg (by decide), if_neg (by decide)]; omega
theorem cdo_inj {T K i K' i' : Nat} (h : slo T K i) (h' : slo T K' i') (e : cdo K i = cdo K' i') : K = K' ∧ i = i' := by
  unfold cdo at e
  rcases h with ⟨rfl, h⟩ | ⟨rfl, h⟩ | ⟨rfl, h⟩ | ⟨rfl, h⟩ <;> rcases h' with ⟨rfl, h'⟩ | ⟨rfl, h'⟩ | ⟨rfl, h'⟩ | ⟨rfl, h'⟩ <;> simp at e <;> first | exact ⟨rfl, by omega⟩ | (exfalso; omega)
theorem c1000 : (1000 : Int32) = Int32.ofNat 1000 := rfl
theorem gp_cdo {T K i : Nat} (h : slo T K i) (hT : T ≤ 16) : gp (Int32.ofNat (cdo K i)) = (K, i) := by
  have hl := cdo_le h hT
  have o := ofN (n := cdo K i) (by omega)
  have od := ofN (n := cdo K i / 1000) (by omega)
  have om := ofN (n := cdo K i % 1000) (by omega)
  have ed : Int32.ofNat (cdo K i) / 1000 = Int32.ofNat (cdo K i / 1000) := ofN_div (b := 1000) (by omega) (by omega) (by omega)
  have em : Int32.ofNat (cdo K i) - Int32.ofNat (cdo K i) / 1000 * 1000 = Int32.ofNat (cdo K i % 1000) := ofN_rem (b := 1000) (by omega) (by omega) (by omega)
  unfold gp
  rw [em, ed]
  rcases h with ⟨rfl, h⟩ | ⟨rfl, h⟩ | ⟨rfl, h⟩ | ⟨rfl, h⟩
  · have e : cdo 36 i = 1000 * (i / 12) + i % 12 := rfl
    rw [if_neg (by omega), if_neg (by omega), if_neg (by omega), show (12 : Int32) = Int32.ofNat 12 from rfl, ofN_mul, ofN_add, (ofN (n := 12 * (cdo 36 i / 1000) + cdo 36 i % 1000) (by omega)).2]
    exact Prod.ext rfl (by show 12 * (cdo 36 i / 1000) + cdo 36 i % 1000 = i; omega)
  · have e : cdo 37 i = 1000 * (i / 5) + (20 + i % 5) := rfl
    rw [if_neg (by omega), if_neg (by omega), if_pos (by omega), show (5 : Int32) = Int32.ofNat 5 from rfl, show (20 : Int32) = Int32.ofNat 20 from rfl, ofN_mul, ofN_add, ofN_sub (by omega) (by omega), (ofN (n := 5 * (cdo 37 i / 1000) + cdo 37 i % 1000 - 20) (by omega)).2]
    exact Prod.ext rfl (by show 5 * (cdo 37 i / 1000) + cdo 37 i % 1000 - 20 = i; omega)
  · have e : cdo 38 i = 1000 * (i / 3) + (30 + i % 3) := rfl
    rw [if_neg (by omega), if_pos (by omega), show (3 : Int32) = Int32.ofNat 3 from rfl, show (30 : Int32) = Int32.ofNat 30 from rfl, ofN_mul, ofN_add, ofN_sub (by omega) (by omega), (ofN (n := 3 * (cdo 38 i / 1000) + cdo 38 i % 1000 - 30) (by omega)).2]
    exact Prod.ext rfl (by show 3 * (cdo 38 i / 1000) + cdo 38 i % 1000 - 30 = i; omega)
  · have e : cdo 41 i = 5000 + i := rfl
    rw [if_pos (by omega), show (5000 : Int32) = Int32.ofNat 5000 from rfl, ofN_sub (by omega) (by omega), (ofN (n := cdo 41 i - 5000) (by omega)).2]
    exact Prod.ext rfl (by show cdo 41 i - 5000 = i; omega)
/-- trunks, as both sides have them -/
def sTR (v : vS) (F : xF) : Prop := v.2.2.2 6 ≤ 16 ∧ v.1 7 4 1 = Int32.ofNat (v.2.2.2 6) ∧ F 8 20 = Int32.ofNat (v.2.2.2 6) ∧ ∀ t, t < v.2.2.2 6 → v.2.1 13 1 t = t + 1 ∧ v.1 6 0 (t + 1) = F 39 t ∧ v.1 6 1 (t + 1) = F 40 t ∧ v.1 6 2 (t + 1) = F 42 t
theorem hset_cdo {v : vS} {F : xF} {K i y : Nat} (tr : sTR v F) (h : slo (v.2.2.2 6) K i) : hset v (Int32.ofNat (cdo K i)) y = csu v K i y := by
  have hT := tr.1
  have hl := cdo_le h hT
  have o := ofN (n := cdo K i) (by omega)
  have od := ofN (n := cdo K i / 1000) (by omega)
  have om := ofN (n := cdo K i % 1000) (by omega)
  have ed : Int32.ofNat (cdo K i) / 1000 = Int32.ofNat (cdo K i / 1000) := ofN_div (b := 1000) (by omega) (by omega) (by omega)
  have em : Int32.ofNat (cdo K i) - Int32.ofNat (cdo K i) / 1000 * 1000 = Int32.ofNat (cdo K i % 1000) := ofN_rem (b := 1000) (by omega) (by omega) (by omega)
  unfold hset
  rw [em, ed, od.2, om.2]
  rcases h with ⟨rfl, h⟩ | ⟨rfl, h⟩ | ⟨rfl, h⟩ | ⟨rfl, h⟩
  · have e : cdo 36 i = 1000 * (i / 12) + i % 12 := rfl
    rw [if_neg (by omega), if_pos ⟨by omega, by omega, by omega⟩, show cdo 36 i / 1000 = i / 12 by omega, show cdo 36 i % 1000 = i % 12 by omega]
    rfl
  · have e : cdo 37 i = 1000 * (i / 5) + (20 + i % 5) := rfl
    rw [if_neg (by omega), if_pos ⟨by omega, by omega, by omega⟩, show cdo 37 i / 1000 = i / 5 by omega, show cdo 37 i % 1000 = 20 + i % 5 by omega]
    rfl
  · have e : cdo 38 i = 1000 * (i / 3) + (30 + i % 3) := rfl
    rw [if_neg (by omega), if_pos ⟨by omega, by omega, by omega⟩, show cdo 38 i / 1000 = i / 3 by omega, show cdo 38 i % 1000 = 30 + i % 3 by omega]
    rfl
  · have e : cdo 41 i = 5000 + i := rfl
    have ot := ofN (n := v.2.2.2 6) (by omega)
    have oi := ofN (n := i) (by omega)
    rw [if_pos (by omega), show (5000 : Int32) = Int32.ofNat 5000 from rfl, ofN_sub (by omega) (by omega), show cdo 41 i - 5000 = i by omega, tr.2.1, if_pos (by omega), oi.2, (tr.2.2.2 i h).1]
    rfl
theorem cs_csu {v : vS} {T K i K' i' y : Nat} (h : slo T K i) (h' : slo T K' i') : cs (csu v K i y) K' i' = if K' = K ∧ i' = i then y else cs v K' i' := by
  unfold cs csu
  rcases h with ⟨rfl, h⟩ | ⟨rfl, h⟩ | ⟨rfl, h⟩ | ⟨rfl, h⟩ <;> rcases h' with ⟨rfl, h'⟩ | ⟨rfl, h'⟩ | ⟨rfl, h'⟩ | ⟨rfl, h'⟩ <;> simp only [vpr, x_u3, reduceIte, Nat.reduceEqDiff, true_and, false_and] <;> first | rfl | (rw [if_neg (by omega)]; done) | (split <;> split <;> first | rfl | (exfalso; omega))
theorem csu_i {v : vS} {K i y : Nat} : (csu v K i y).1 = v.1 ∧ (csu v K i y).2.2 = v.2.2 := by
  unfold csu
  split
  · exact ⟨rfl, rfl⟩
  · split
    · exact ⟨rfl, rfl⟩
    · split <;> exact ⟨rfl, rfl⟩
theorem csu_r {v : vS} {K i y K' : Nat} (h17 : K' ≠ 17) (h6 : K' ≠ 6) : (csu v K i y).2.1 K' = v.2.1 K' := by
  unfold csu
  split
  · funext a b; exact u3_ne (fun z _ => h17 z)
  · split
    · funext a b; exact u3_ne (fun z _ => h17 z)
    · split
      · funext a b; exact u3_ne (fun z _ => h17 z)
      · funext a b; exact u3_ne (fun z _ => h6 z)
