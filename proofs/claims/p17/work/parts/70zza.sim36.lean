/-! HUNT, on both sides -/
section XHN
variable {D : Int} {v : vS} {F : xF} {o h u : Nat}
theorem Sim.hunt (S : Sim D v F) (ho : o < 3) (hh : h < 4) (hu : u < 24) (hlen : (v.2.2.1 (30 * o + 3 + h)).length < 6) (hno : ∀ g, g < 4 → Int32.ofNat u ∉ v.2.2.1 (30 * o + 3 + g)) : Sim D (vrw v (30 * o + 3 + h) (v.2.2.1 (30 * o + 3 + h) ++ [Int32.ofNat u])) (x_u2 (x_u2 F 27 (6 * (4 * o + h) + (v.2.2.1 (30 * o + 3 + h)).length) (Int32.ofNat u)) 26 (4 * o + h) (Int32.ofNat ((v.2.2.1 (30 * o + 3 + h)).length + 1))) := by
  have r0 : ∀ r, r ≠ 30 * o + 3 + h → (vrw v (30 * o + 3 + h) (v.2.2.1 (30 * o + 3 + h) ++ [Int32.ofNat u])).2.2.1 r = v.2.2.1 r := fun r hr => u1_ne hr
  have r1 : (vrw v (30 * o + 3 + h) (v.2.2.1 (30 * o + 3 + h) ++ [Int32.ofNat u])).2.2.1 (30 * o + 3 + h) = v.2.2.1 (30 * o + 3 + h) ++ [Int32.ofNat u] := u1_eq
  have mem : ∀ g x, x ∈ (vrw v (30 * o + 3 + h) (v.2.2.1 (30 * o + 3 + h) ++ [Int32.ofNat u])).2.2.1 g → x ∈ v.2.2.1 g ∨ (g = 30 * o + 3 + h ∧ x = Int32.ofNat u) := fun g x hx => by
    by_cases z : g = 30 * o + 3 + h
    · rw [z, r1] at hx
      rcases List.mem_append.mp hx with y | y
      · rw [z]; exact Or.inl y
      · exact Or.inr ⟨z, List.mem_singleton.mp y⟩
    · rw [r0 g z] at hx
      exact Or.inl hx
  refine ⟨S.1.rows rfl rfl rfl (fun c hc => r0 _ (fun z => ri_no (c := c) (o := o) (k := 3 + h) hc (by omega) (by omega))) (fun m hm => r0 _ (by omega)) (fun K i a b d _ _ _ => (u2_ne b).trans (u2_ne d)) (fun c _ _ => rfl) (fun o' ho' => ?_) ⟨fun o' ho' => ?_, S.1.wq.2⟩ (fun o' ho' => ⟨fun h' hh' => ?_, fun h1 h2 q1 q2 ne x m1 m2 => ?_⟩), S.2⟩
  · rw [r0 _ (by omega)]
    exact S.1.jq o' ho'
  · rw [r0 _ (by omega)]
    exact S.1.wq.1 o' ho'
  · obtain ⟨⟨a1, a2⟩, a3, a4⟩ := S.hun ho' hh'
    by_cases z : o' = o ∧ h' = h
    · obtain ⟨rfl, rfl⟩ := z
      rw [r1]
      refine ⟨⟨?_, fun k y hy => ?_⟩, by rw [List.length_append]; show _ + 1 ≤ 6; omega, fun x hx => ?_⟩
      · rw [u2_eq, List.length_append]
        rfl
      · rw [u2_ne (by decide)]
        by_cases q : k < (v.2.2.1 (30 * o' + 3 + h')).length
        · rw [List.getElem?_append_left q] at hy
          rw [u2_ni (by omega)]
          exact a2 k y hy
        · have hk := (List.getElem?_eq_some_iff.mp hy).1
          rw [List.length_append] at hk
          have hk : k < (v.2.2.1 (30 * o' + 3 + h')).length + 1 := hk
          have hk : k = (v.2.2.1 (30 * o' + 3 + h')).length := by omega
          subst hk
          rw [List.getElem?_append_right (Nat.le_refl _), Nat.sub_self] at hy
          rw [u2_eq]
          exact Option.some.inj hy
      · rcases List.mem_append.mp hx with y | y
        · exact a4 x y
        · exact ⟨u, hu, List.mem_singleton.mp y⟩
    · rw [r0 _ (by omega)]
      refine ⟨⟨?_, fun k y hy => ?_⟩, a3, a4⟩
      · rw [u2_ni (by omega), u2_ne (by decide)]
        exact a1
      · have hk := (List.getElem?_eq_some_iff.mp hy).1
        rw [u2_ne (by decide), u2_ni (by omega)]
        exact a2 k y hy
  · rcases mem _ x m1 with y1 | ⟨y1, y2⟩
    · rcases mem _ x m2 with z1 | ⟨z1, z2⟩
      · exact (S.1.hu o' ho').2 h1 h2 q1 q2 ne x y1 z1
      · obtain rfl : o' = o := by omega
        rw [z2] at y1
        exact hno h1 q1 y1
    · rcases mem _ x m2 with z1 | ⟨z1, z2⟩
      · obtain rfl : o' = o := by omega
        rw [y2] at z1
        exact hno h2 q2 z1
      · exact ne (by omega)
theorem iah_n (h9 : ∀ g, g < 4 → Int32.ofNat u ∉ v.2.2.1 (30 * o + 3 + g)) : iah v (o + 1) (Int32.ofNat u) = none := fnd_isn (fun k _ hk => decide_eq_false (h9 k (by omega)))
theorem iah_s {g : Nat} (hg : g < 4) (h9 : Int32.ofNat u ∈ v.2.2.1 (30 * o + 3 + g)) : ¬ iah v (o + 1) (Int32.ofNat u) = none := fun z => by
  have := fnd_none z g (Nat.zero_le _) (by omega)
  exact absurd h9 (of_decide_eq_false this)
end XHN
