/-! ROUTE, on both sides: what is written -/
section XRF
variable {D : Int} {v : vS} {F F' : xF} {o N k0 m : Nat} {p u q X Y : Int32}
theorem cap9 (hm : 1 ≤ m) : cap (90 + m) = 3 := by
  unfold cap
  rw [if_pos (by omega)]
/-- a choice more -/
theorem Sim.routeF {y : Nat} (S : Sim D v F) (ho : o < 3) (hk : (k0 : Int) < (F 29 o).toInt) (hy : y < 3) (hyo : y ≠ o) (hm : v.2.1 18 (o + 1) k0 = m) (hl : (v.2.2.1 (90 + m)).length < 3) (h41 : v.1 4 1 m = 0) : Sim D (vrt2 v m (Int32.ofNat y) u q) (x_u2 (x_u2 (x_u2 (x_u2 F 31 (12 * o + k0) u) 32 (12 * o + k0) q) 35 (3 * (12 * o + k0) + (v.2.2.1 (90 + m)).length) (Int32.ofNat y)) 33 (12 * o + k0) (Int32.ofNat ((v.2.2.1 (90 + m)).length + 1))) := by
  obtain ⟨t1, t2⟩ := S.1.rt
  obtain ⟨N0, a01, a02, a03, a04, a05⟩ := t1 o ho
  have hk0 : k0 < N0 := by
    rw [a03, (ofN (n := N0) (by omega)).1] at hk
    omega
  have R0 := a04 k0 hk0
  rw [hm] at R0
  obtain ⟨b1, b2, b3, b4, b5, b6, b7, ⟨b8, b9⟩, b10, b11⟩ := R0
  have evr : vrt2 v m (Int32.ofNat y) u q = vpi (vpi (vrw v (90 + m) (v.2.2.1 (90 + m) ++ [Int32.ofNat y])) 4 3 m u) 4 4 m q := by
    unfold vrt2 radd
    rw [if_pos h41, b7, cap9 b1.1, if_pos hl]
  rw [evr]
  have n : ∀ K, K ≠ 31 → K ≠ 32 → K ≠ 33 → K ≠ 35 → ∀ i, x_u2 (x_u2 (x_u2 (x_u2 F 31 (12 * o + k0) u) 32 (12 * o + k0) q) 35 (3 * (12 * o + k0) + (v.2.2.1 (90 + m)).length) (Int32.ofNat y)) 33 (12 * o + k0) (Int32.ofNat ((v.2.2.1 (90 + m)).length + 1)) K i = F K i := fun K q1 q2 q3 q5 i => (u2_ne q3).trans ((u2_ne q5).trans ((u2_ne q2).trans (u2_ne q1)))
  have g31 : x_u2 (x_u2 (x_u2 (x_u2 F 31 (12 * o + k0) u) 32 (12 * o + k0) q) 35 (3 * (12 * o + k0) + (v.2.2.1 (90 + m)).length) (Int32.ofNat y)) 33 (12 * o + k0) (Int32.ofNat ((v.2.2.1 (90 + m)).length + 1)) 31 (12 * o + k0) = u := (u2_ne (by decide)).trans ((u2_ne (by decide)).trans ((u2_ne (by decide)).trans u2_eq))
  have g32 : x_u2 (x_u2 (x_u2 (x_u2 F 31 (12 * o + k0) u) 32 (12 * o + k0) q) 35 (3 * (12 * o + k0) + (v.2.2.1 (90 + m)).length) (Int32.ofNat y)) 33 (12 * o + k0) (Int32.ofNat ((v.2.2.1 (90 + m)).length + 1)) 32 (12 * o + k0) = q := (u2_ne (by decide)).trans ((u2_ne (by decide)).trans u2_eq)
  have g33 : x_u2 (x_u2 (x_u2 (x_u2 F 31 (12 * o + k0) u) 32 (12 * o + k0) q) 35 (3 * (12 * o + k0) + (v.2.2.1 (90 + m)).length) (Int32.ofNat y)) 33 (12 * o + k0) (Int32.ofNat ((v.2.2.1 (90 + m)).length + 1)) 33 (12 * o + k0) = Int32.ofNat ((v.2.2.1 (90 + m)).length + 1) := u2_eq
  have g35 : x_u2 (x_u2 (x_u2 (x_u2 F 31 (12 * o + k0) u) 32 (12 * o + k0) q) 35 (3 * (12 * o + k0) + (v.2.2.1 (90 + m)).length) (Int32.ofNat y)) 33 (12 * o + k0) (Int32.ofNat ((v.2.2.1 (90 + m)).length + 1)) 35 (3 * (12 * o + k0) + (v.2.2.1 (90 + m)).length) = Int32.ofNat y := (u2_ne (by decide)).trans u2_eq
  have g35' : ∀ i, i ≠ 3 * (12 * o + k0) + (v.2.2.1 (90 + m)).length → x_u2 (x_u2 (x_u2 (x_u2 F 31 (12 * o + k0) u) 32 (12 * o + k0) q) 35 (3 * (12 * o + k0) + (v.2.2.1 (90 + m)).length) (Int32.ofNat y)) 33 (12 * o + k0) (Int32.ofNat ((v.2.2.1 (90 + m)).length + 1)) 35 i = F 35 i := fun i hi => (u2_ne (by decide)).trans ((u2_ni hi).trans ((u2_ne (by decide)).trans (u2_ne (by decide))))
  have gni : ∀ K i, K ≠ 35 → i ≠ 12 * o + k0 → x_u2 (x_u2 (x_u2 (x_u2 F 31 (12 * o + k0) u) 32 (12 * o + k0) q) 35 (3 * (12 * o + k0) + (v.2.2.1 (90 + m)).length) (Int32.ofNat y)) 33 (12 * o + k0) (Int32.ofNat ((v.2.2.1 (90 + m)).length + 1)) K i = F K i := fun K i h5 hi => by
    unfold x_u2
    rw [if_neg (fun z => hi z.2), if_neg (fun z => h5 z.1), if_neg (fun z => hi z.2), if_neg (fun z => hi z.2)]
  generalize x_u2 (x_u2 (x_u2 (x_u2 F 31 (12 * o + k0) u) 32 (12 * o + k0) q) 35 (3 * (12 * o + k0) + (v.2.2.1 (90 + m)).length) (Int32.ofNat y)) 33 (12 * o + k0) (Int32.ofNat ((v.2.2.1 (90 + m)).length + 1)) = F' at n g31 g32 g33 g35 g35' gni ⊢
  have e29 : ∀ i, F' 29 i = F 29 i := n 29 (by decide) (by decide) (by decide) (by decide)
  refine S.rt9 (fun K k a b j => (u3_ne (fun z _ => a z)).trans (u3_ne (fun z _ => a z))) (fun K a b c k j => rfl) (fun _ _ _ _ => rfl) rfl (fun r hr => u1_ne (by omega)) (fun K hK i => n K (by omega) (by omega) (by omega) (by omega) i) (fun o' _ => by rw [e29]; exact Int.le_refl _) ⟨fun o' ho' => ?_, fun o1 o2 k1 k2 h1 h2 q1 q2 e => t2 o1 o2 k1 k2 h1 h2 (by rw [e29] at q1; exact q1) (by rw [e29] at q2; exact q2) e⟩
  obtain ⟨N', a1, a2, a3, a4, a5⟩ := t1 o' ho'
  refine ⟨N', a1, a2, (e29 o').trans a3, fun k hk' => ?_, fun k k' c1 c2 c3 => by rw [n 30 (by decide) (by decide) (by decide) (by decide), n 30 (by decide) (by decide) (by decide) (by decide)]; exact a5 k k' c1 c2 c3⟩
  by_cases z : o' = o ∧ k = k0
  · obtain ⟨rfl, rfl⟩ := z
    show RTE _ F' (v.2.1 18 (o' + 1) k) _
    rw [hm]
    refine ⟨b1, ?_, by rw [n 30 (by decide) (by decide) (by decide) (by decide)]; exact b3, ?_, ?_, ?_, b7, ?_⟩
    · rw [n 30 (by decide) (by decide) (by decide) (by decide), ← b2]
      rfl
    · rw [n 34 (by decide) (by decide) (by decide) (by decide), ← b4]
      rfl
    · rw [g31]
      exact (show _ = x_u3 v.1 4 3 m u 4 3 m from rfl).trans (if_pos ⟨rfl, rfl, rfl⟩)
    · rw [g32]
      exact if_pos ⟨rfl, rfl, rfl⟩
    · rw [show (vpi (vpi (vrw v (90 + m) (v.2.2.1 (90 + m) ++ [Int32.ofNat y])) 4 3 m u) 4 4 m q).2.2.1 (90 + m) = v.2.2.1 (90 + m) ++ [Int32.ofNat y] from u1_eq]
      refine ⟨⟨?_, fun i x hx => ?_⟩, by rw [List.length_append]; show _ + 1 ≤ 3; omega, fun x hx => ?_⟩
      · rw [g33, List.length_append]
        rfl
      · by_cases w : i < (v.2.2.1 (90 + m)).length
        · rw [List.getElem?_append_left w] at hx
          rw [g35' _ (by omega)]
          exact b9 i x hx
        · have hi := (List.getElem?_eq_some_iff.mp hx).1
          rw [List.length_append] at hi
          have hi : i < (v.2.2.1 (90 + m)).length + 1 := hi
          have hi : i = (v.2.2.1 (90 + m)).length := by omega
          subst hi
          rw [List.getElem?_append_right (Nat.le_refl _), Nat.sub_self] at hx
          rw [g35]
          exact Option.some.inj hx
      · rcases List.mem_append.mp hx with w | w
        · exact b11 x w
        · exact ⟨y, hy, List.mem_singleton.mp w, by omega⟩
  · have hne : v.2.1 18 (o' + 1) k ≠ m := fun w => z (t2 o' o k k0 ho' ho (by rw [a3, (ofN (n := N') (by omega)).1]; omega) hk (w.trans hm.symm))
    have hpl : 12 * o' + k ≠ 12 * o + k0 := by omega
    show RTE _ F' (v.2.1 18 (o' + 1) k) _
    obtain ⟨c1, c2, c3, c4, c5, c6, c7, ⟨c8, c9⟩, c10, c11⟩ := a4 k hk'
    generalize v.2.1 18 (o' + 1) k = m' at *
    have vi : ∀ k', (vpi (vpi (vrw v (90 + m) (v.2.2.1 (90 + m) ++ [Int32.ofNat y])) 4 3 m u) 4 4 m q).1 4 k' m' = v.1 4 k' m' := fun k' => (if_neg (fun w => hne w.2.2)).trans (if_neg (fun w => hne w.2.2))
    unfold RTE LV
    rw [vi, vi, vi, vi, gni 30 _ (by decide) hpl, gni 31 _ (by decide) hpl, gni 32 _ (by decide) hpl, gni 33 _ (by decide) hpl, gni 34 _ (by decide) hpl, show (vpi (vpi (vrw v (90 + m) (v.2.2.1 (90 + m) ++ [Int32.ofNat y])) 4 3 m u) 4 4 m q).2.2.1 (90 + m') = v.2.2.1 (90 + m') from u1_ne (by omega)]
    refine ⟨c1, c2, c3, c4, c5, c6, c7, ⟨c8, fun i x hx => ?_⟩, c10, c11⟩
    have hi := (List.getElem?_eq_some_iff.mp hx).1
    rw [g35' _ (by omega)]
    exact c9 i x hx
/-- a prefix more -/
theorem Sim.routeN {y : Nat} {l : List Int32} {b : Int32} (S : Sim D v F) (ho : o < 3) (hy : y < 3) (hN : N < 12) (h29 : F 29 o = Int32.ofNat N) (h5 : v.2.2.2 5 = 90 + v.2.2.2 4) (hp : pfx p.toInt) (hov : ∀ k, k < N → ¬ ovl (F 30 (12 * o + k)).toInt p.toInt)
    (hb : b2i (Int32.ofNat y = Int32.ofNat o) = b) (hl : l = if b = 0 then [Int32.ofNat y] else [])
    (n : ∀ K, (K < 29 ∨ 35 < K) → ∀ i, F' K i = F K i) (g29 : F' 29 o = Int32.ofNat (N + 1)) (g29' : ∀ o', o' ≠ o → F' 29 o' = F 29 o') (g30 : F' 30 (12 * o + N) = p) (g31 : F' 31 (12 * o + N) = u) (g32 : F' 32 (12 * o + N) = q) (g34 : F' 34 (12 * o + N) = b) (gl : LV F' 33 35 3 (12 * o + N) l) (gni : ∀ K i, 30 ≤ K → K ≤ 34 → i ≠ 12 * o + N → F' K i = F K i) (g35 : ∀ i, i < 3 * (12 * o + N) ∨ 3 * (12 * o + N) + 3 ≤ i → F' 35 i = F 35 i) :
    Sim D (vrt2 (vrtn v (Int32.ofNat o) p (Int32.ofNat y)) (v.2.2.2 4 + 1) (Int32.ofNat y) u q) F' ∧ ort2 (vrtn v (Int32.ofNat o) p (Int32.ofNat y)) (v.2.2.2 4 + 1) (Int32.ofNat y) u q = oi (Int32.ofNat l.length) := by
  obtain ⟨t1, t2⟩ := S.1.rt
  obtain ⟨N0, a01, a02, a03, a04, a05⟩ := t1 o ho
  obtain rfl : N0 = N := ofN_inj (by omega) (by omega) (a03.symm.trans h29)
  have oN := ofN (n := N0) (by omega)
  have oo := ofN (n := o) (by omega)
  have hyo : b = 0 → y ≠ o := fun hb0 z => by rw [← hb, z, b2i_pos rfl] at hb0; exact absurd hb0 (by decide)
  -- the new object
  obtain ⟨M, hM⟩ : ∃ M, v.2.2.2 4 + 1 = M := ⟨_, rfl⟩
  have e5 : (vno v 4).2.2.2 5 + 1 = 90 + M := by show v.2.2.2 5 + 1 = _; omega
  have h37 : (vin (vno v 4) M p b).1 3 7 (o + 1) = Int32.ofNat N0 := a02
  have eW : vrtn v (Int32.ofNat o) p (Int32.ofNat y) = vpi (vpr (vin (vno v 4) M p b) 18 (o + 1) N0 M) 3 7 (o + 1) (Int32.ofNat (N0 + 1)) := by
    unfold vrtn vadr
    rw [hb, oo.2, hM, h37, if_pos (by omega), oN.2]
    exact congrArg _ (ofN_add N0 1)
  obtain ⟨W, hW⟩ : ∃ W, W = vpi (vpr (vin (vno v 4) M p b) 18 (o + 1) N0 M) 3 7 (o + 1) (Int32.ofNat (N0 + 1)) := ⟨_, rfl⟩
  have gi : ∀ K k j, W.1 K k j = if K = 3 ∧ k = 7 ∧ j = o + 1 then Int32.ofNat (N0 + 1) else if K = 4 ∧ k = 1 ∧ j = M then b else if K = 4 ∧ k = 0 ∧ j = M then p else if K = 4 ∧ j = v.2.2.2 4 + 1 then 0 else v.1 K k j := fun K k j => by rw [hW]; rfl
  have gr : ∀ K k j, W.2.1 K k j = if K = 18 ∧ k = o + 1 ∧ j = N0 then M else if K = 4 ∧ k = 2 ∧ j = M then (vno v 4).2.2.2 5 + 1 else if K = 5 ∧ k = 0 ∧ j = (vno v 4).2.2.2 5 + 1 then (vno v 4).2.2.2 5 + 1 else if K = 5 ∧ j = (vno v 4).2.2.2 5 + 1 then 0 else if K = 4 ∧ j = v.2.2.2 4 + 1 then 0 else v.2.1 K k j := fun K k j => by rw [hW]; rfl
  have gl9 : ∀ r, W.2.2.1 r = if r = (vno v 4).2.2.2 5 + 1 then [] else v.2.2.1 r := fun r => by rw [hW]; rfl
  have gc9 : ∀ K, W.2.2.2 K = if K = 20 then (vno v 4).2.2.2 5 + 1 else if K = 5 then (vno v 4).2.2.2 5 + 1 else if K = 4 then v.2.2.2 4 + 1 else v.2.2.2 K := fun K => by rw [hW]; rfl
  rw [e5] at gr gl9 gc9
  rw [hM] at gi gr gc9
  have W41 : W.1 4 1 M = b := by rw [gi, if_neg (by omega), if_pos ⟨rfl, rfl, rfl⟩]
  have W40 : W.1 4 0 M = p := by rw [gi, if_neg (by omega), if_neg (by omega), if_pos ⟨rfl, rfl, rfl⟩]
  have W42 : W.2.1 4 2 M = 90 + M := by rw [gr, if_neg (by omega), if_pos ⟨rfl, rfl, rfl⟩]
  have Wl : W.2.2.1 (90 + M) = [] := by rw [gl9, if_pos rfl]
  have Wr : ∀ r, r ≠ 90 + M → W.2.2.1 r = v.2.2.1 r := fun r hr => by rw [gl9, if_neg hr]
  have W4 : ∀ k m', m' ≠ M → W.1 4 k m' = v.1 4 k m' := fun k m' hm' => by rw [gi, if_neg (by omega), if_neg (by omega), if_neg (by omega), if_neg (by omega)]
  have Wi : ∀ K k, K ≠ 4 → (K = 3 → k ≠ 7) → ∀ j, W.1 K k j = v.1 K k j := fun K k z1 z2 j => by rw [gi, if_neg (by omega), if_neg (by omega), if_neg (by omega), if_neg (by omega)]
  have W37 : ∀ o', W.1 3 7 (o' + 1) = if o' = o then Int32.ofNat (N0 + 1) else v.1 3 7 (o' + 1) := fun o' => by
    by_cases z : o' = o
    · rw [if_pos z, z, gi, if_pos ⟨rfl, rfl, rfl⟩]
    · rw [if_neg z, gi, if_neg (by omega), if_neg (by omega), if_neg (by omega), if_neg (by omega)]
  have Wq : ∀ K, K ≠ 4 → K ≠ 5 → K ≠ 18 → ∀ k j, W.2.1 K k j = v.2.1 K k j := fun K z1 z2 z3 k j => by rw [gr, if_neg (by omega), if_neg (by omega), if_neg (by omega), if_neg (by omega), if_neg (by omega)]
  have W2 : ∀ m', m' ≠ M → W.2.1 4 2 m' = v.2.1 4 2 m' := fun m' hm' => by rw [gr, if_neg (by omega), if_neg (by omega), if_neg (by omega), if_neg (by omega), if_neg (by omega)]
  have W18 : ∀ o' k, W.2.1 18 (o' + 1) k = if o' = o ∧ k = N0 then M else v.2.1 18 (o' + 1) k := fun o' k => by
    by_cases z : o' = o ∧ k = N0
    · rw [if_pos z, z.1, z.2, gr, if_pos ⟨rfl, rfl, rfl⟩]
    · rw [if_neg z, gr, if_neg (by omega), if_neg (by omega), if_neg (by omega), if_neg (by omega), if_neg (by omega)]
  have Wc4 : W.2.2.2 4 = M := by rw [gc9, if_neg (by decide), if_neg (by decide), if_pos rfl]
  have Wc6 : W.2.2.2 6 = v.2.2.2 6 := by rw [gc9, if_neg (by decide), if_neg (by decide), if_neg (by decide)]
  clear gi gr gl9 gc9
  rw [hM, eW, ← hW]
  clear hW eW
  -- its row and its numbers
  obtain ⟨V, hV⟩ : ∃ V, V = vrt2 W M (Int32.ofNat y) u q := ⟨_, rfl⟩
  have hV2 : V = vpi (vpi (if b = 0 then vrw W (90 + M) [Int32.ofNat y] else W) 4 3 M u) 4 4 M q := by
    rw [hV]
    unfold vrt2 radd
    rw [W41, W42, Wl, cap9 (by omega), if_pos (c := ([] : List Int32).length < 3) (by decide)]
    rfl
  have Vi : ∀ K k j, V.1 K k j = if K = 4 ∧ k = 4 ∧ j = M then q else if K = 4 ∧ k = 3 ∧ j = M then u else W.1 K k j := fun K k j => by
    rw [hV2]
    by_cases z : b = 0
    · rw [if_pos z]; rfl
    · rw [if_neg z]; rfl
  have Vr : V.2.1 = W.2.1 ∧ V.2.2.2 = W.2.2.2 := by
    rw [hV2]
    by_cases z : b = 0
    · rw [if_pos z]; exact ⟨rfl, rfl⟩
    · rw [if_neg z]; exact ⟨rfl, rfl⟩
  have Vl : V.2.2.1 (90 + M) = l := by
    rw [hV2, hl]
    by_cases z : b = 0
    · rw [if_pos z, if_pos z]; exact u1_eq
    · rw [if_neg z, if_neg z]; exact Wl
  have Vl' : ∀ r, r ≠ 90 + M → V.2.2.1 r = v.2.2.1 r := fun r hr => by
    rw [hV2]
    by_cases z : b = 0
    · rw [if_pos z]; exact (u1_ne hr).trans (Wr r hr)
    · rw [if_neg z]; exact Wr r hr
  have hl3 : l.length ≤ 3 ∧ ∀ x ∈ l, ∃ n, n < 3 ∧ x = Int32.ofNat n ∧ n ≠ o := by
    rw [hl]
    by_cases z : b = 0
    · rw [if_pos z]
      exact ⟨by show 1 ≤ 3; omega, fun x hx => ⟨y, hy, List.mem_singleton.mp hx, hyo z⟩⟩
    · rw [if_neg z]
      exact ⟨Nat.zero_le _, fun x hx => by cases hx⟩
  rw [← hV]
  refine ⟨?_, by unfold ort2; rw [← hV, Vr.1, W42, Vl]⟩
  clear hV hV2 hl
  have oldR : ∀ m' p', RTE v F m' p' → p' ≠ 12 * o + N0 → RTE V F' m' p' := fun m' p' R hp' => by
    obtain ⟨c1, c2, c3, c4, c5, c6, c7, ⟨c8, c9⟩, c10, c11⟩ := R
    have hm' : m' ≠ M := by omega
    have vi : ∀ k, V.1 4 k m' = v.1 4 k m' := fun k => by
      rw [Vi, if_neg (fun z => hm' z.2.2), if_neg (fun z => hm' z.2.2)]
      exact W4 k m' hm'
    unfold RTE LV
    rw [vi, vi, vi, vi, gni 30 _ (by decide) (by decide) hp', gni 31 _ (by decide) (by decide) hp', gni 32 _ (by decide) (by decide) hp', gni 33 _ (by decide) (by decide) hp', gni 34 _ (by decide) (by decide) hp', Vr.1, W2 m' hm', Vr.2, Wc4, Vl' (90 + m') (by omega)]
    refine ⟨⟨c1.1, by omega⟩, c2, c3, c4, c5, c6, c7, ⟨c8, fun i x hx => ?_⟩, c10, c11⟩
    have hi := (List.getElem?_eq_some_iff.mp hx).1
    rw [g35 _ (by omega)]
    exact c9 i x hx
  have old : ∀ o' k : Nat, o' < 3 → (k : Int) < (F' 29 o').toInt → ¬ (o' = o ∧ k = N0) → (k : Int) < (F 29 o').toInt ∧ v.2.1 18 (o' + 1) k ≤ v.2.2.2 4 := fun o' k ho' hk' z => by
    by_cases w : o' = o
    · subst w
      rw [g29, (ofN (n := N0 + 1) (by omega)).1] at hk'
      have : k < N0 := by omega
      exact ⟨by rw [h29, oN.1]; omega, (a04 k this).1.2⟩
    · rw [g29' o' w] at hk'
      obtain ⟨N', q1, q2, q3, q4, q5⟩ := t1 o' ho'
      refine ⟨hk', (q4 k ?_).1.2⟩
      rw [q3, (ofN (n := N') (by omega)).1] at hk'
      omega
  refine S.rt9 (fun K k z1 z2 j => by rw [Vi, if_neg (fun z => z1 z.1), if_neg (fun z => z1 z.1)]; exact Wi K k z1 z2 j) (fun K z1 z2 z3 k j => by rw [Vr.1]; exact Wq K z1 z2 z3 k j) (fun o' k ho' hk' => ?_) (by rw [Vr.2]; exact Wc6) (fun r hr => Vl' r (by omega)) n (fun o' _ => ?_) ⟨fun o' ho' => ?_, fun o1 o2 k1 k2 h1 h2 q1 q2 e => ?_⟩
  · rw [Vr.1, W18, if_neg (fun z => by rw [z.1, z.2, h29, oN.1] at hk'; omega)]
  · by_cases z : o' = o
    · rw [z, g29, h29, oN.1, (ofN (n := N0 + 1) (by omega)).1]
      omega
    · rw [g29' o' z]
      exact Int.le_refl _
  · by_cases z : o' = o
    · rw [z]
      refine ⟨N0 + 1, by omega, by rw [Vi, if_neg (by omega), if_neg (by omega), W37, if_pos rfl], g29, fun k hk' => ?_, fun k k' c1 c2 c3 => ?_⟩
      · rw [Vr.1, W18]
        by_cases w : k = N0
        · rw [if_pos ⟨rfl, w⟩, w]
          refine ⟨⟨by omega, by rw [Vr.2, Wc4]; exact Nat.le_refl _⟩, by rw [g30, Vi, if_neg (by omega), if_neg (by omega)]; exact W40, by rw [g30]; exact hp, by rw [g34, Vi, if_neg (by omega), if_neg (by omega)]; exact W41, by rw [g31, Vi, if_neg (by omega), if_pos ⟨rfl, rfl, rfl⟩], by rw [g32, Vi, if_pos ⟨rfl, rfl, rfl⟩], by rw [Vr.1]; exact W42, by rw [Vl]; exact gl, by rw [Vl]; exact hl3.1, fun x hx => ?_⟩
          rw [Vl] at hx
          obtain ⟨n', n1, n2, n3⟩ := hl3.2 x hx
          exact ⟨n', n1, n2, by omega⟩
        · rw [if_neg (fun z => w z.2)]
          exact oldR _ _ (a04 k (by omega)) (by omega)
      · have gk : ∀ k, k < N0 → F' 30 (12 * o + k) = F 30 (12 * o + k) := fun k hk' => gni 30 _ (by decide) (by decide) (by omega)
        by_cases w : k = N0
        · rw [w, g30, gk k' (by omega)]
          exact fun z => hov k' (by omega) (ovl_c z)
        · by_cases w' : k' = N0
          · rw [w', g30, gk k (by omega)]
            exact hov k (by omega)
          · rw [gk k (by omega), gk k' (by omega)]
            exact a05 k k' (by omega) (by omega) c3
    · obtain ⟨N', q1, q2, q3, q4, q5⟩ := t1 o' ho'
      refine ⟨N', q1, by rw [Vi, if_neg (by omega), if_neg (by omega), W37, if_neg z]; exact q2, by rw [g29' o' z]; exact q3, fun k hk' => ?_, fun k k' c1 c2 c3 => ?_⟩
      · rw [Vr.1, W18, if_neg (fun w => z w.1)]
        exact oldR _ _ (q4 k hk') (by omega)
      · rw [gni 30 _ (by decide) (by decide) (by omega), gni 30 _ (by decide) (by decide) (by omega)]
        exact q5 k k' c1 c2 c3
  · rw [Vr.1, W18, W18] at e
    by_cases z1 : o1 = o ∧ k1 = N0
    · by_cases z2 : o2 = o ∧ k2 = N0
      · exact ⟨by omega, by omega⟩
      · rw [if_pos z1, if_neg z2] at e
        have := (old o2 k2 h2 q2 z2).2
        omega
    · by_cases z2 : o2 = o ∧ k2 = N0
      · rw [if_neg z1, if_pos z2] at e
        have := (old o1 k1 h1 q1 z1).2
        omega
      · rw [if_neg z1, if_neg z2] at e
        exact t2 o1 o2 k1 k2 h1 h2 (old o1 k1 h1 q1 z1).1 (old o2 k2 h2 q2 z2).1 e
/-- the reference behind a new prefix -/
def rtF (F : xF) (o N : Nat) (p b u q : Int32) : xF := x_u2 (x_u2 (x_u2 (x_u2 (x_u2 (x_u2 F 29 o (Int32.ofNat (N + 1))) 30 (12 * o + N) p) 34 (12 * o + N) b) 33 (12 * o + N) 0) 31 (12 * o + N) u) 32 (12 * o + N) q
def rtG (F : xF) (o N : Nat) (Y : Int32) : xF := x_u2 (x_u2 F 35 (3 * (12 * o + N) + 0) Y) 33 (12 * o + N) (Int32.ofNat (0 + 1))
section XRG
variable {b : Int32}
theorem rtF_n {K i : Nat} (h : (K ≠ 29 ∨ i ≠ o) ∧ (K < 30 ∨ 34 < K ∨ i ≠ 12 * o + N)) : rtF F o N p b u q K i = F K i := by
  unfold rtF x_u2
  rw [if_neg (by omega), if_neg (by omega), if_neg (by omega), if_neg (by omega), if_neg (by omega), if_neg (by omega)]
theorem rtG_n {K i : Nat} (h : (K ≠ 35 ∨ i ≠ 3 * (12 * o + N) + 0) ∧ (K ≠ 33 ∨ i ≠ 12 * o + N)) : rtG F o N Y K i = F K i := by
  unfold rtG x_u2
  rw [if_neg (by omega), if_neg (by omega)]
theorem Sim.routeN1 (S : Sim D v F) (ho : o < 3) (hN : N < 12) (h29 : F 29 o = Int32.ofNat N) (h5 : v.2.2.2 5 = 90 + v.2.2.2 4) (hp : pfx p.toInt) (hov : ∀ k, k < N → ¬ ovl (F 30 (12 * o + k)).toInt p.toInt) :
    Sim D (vrt2 (vrtn v (Int32.ofNat o) p (Int32.ofNat o)) (v.2.2.2 4 + 1) (Int32.ofNat o) u q) (rtF F o N p 1 u q) ∧ ort2 (vrtn v (Int32.ofNat o) p (Int32.ofNat o)) (v.2.2.2 4 + 1) (Int32.ofNat o) u q = oi (rtF F o N p 1 u q 33 (12 * o + N)) := by
  have e33 : rtF F o N p 1 u q 33 (12 * o + N) = Int32.ofNat ([] : List Int32).length := (u2_ne (by decide)).trans ((u2_ne (by decide)).trans u2_eq)
  rw [e33]
  exact S.routeN ho ho hN h29 h5 hp hov (b := 1) (l := []) (b2i_pos rfl) rfl (fun K hK i => rtF_n (by omega)) ((u2_ne (by decide)).trans ((u2_ne (by decide)).trans ((u2_ne (by decide)).trans ((u2_ne (by decide)).trans ((u2_ne (by decide)).trans u2_eq))))) (fun o' ho' => rtF_n (by omega)) ((u2_ne (by decide)).trans ((u2_ne (by decide)).trans ((u2_ne (by decide)).trans ((u2_ne (by decide)).trans u2_eq)))) ((u2_ne (by decide)).trans u2_eq) u2_eq ((u2_ne (by decide)).trans ((u2_ne (by decide)).trans ((u2_ne (by decide)).trans u2_eq))) ⟨e33, fun i x hx => by cases hx⟩ (fun K i h1 h2 h3 => rtF_n (by omega)) (fun i hi => rtF_n (by omega))
theorem Sim.routeN0 {y : Nat} (S : Sim D v F) (ho : o < 3) (hy : y < 3) (hyo : y ≠ o) (hN : N < 12) (h29 : F 29 o = Int32.ofNat N) (h5 : v.2.2.2 5 = 90 + v.2.2.2 4) (hp : pfx p.toInt) (hov : ∀ k, k < N → ¬ ovl (F 30 (12 * o + k)).toInt p.toInt) :
    Sim D (vrt2 (vrtn v (Int32.ofNat o) p (Int32.ofNat y)) (v.2.2.2 4 + 1) (Int32.ofNat y) u q) (rtG (rtF F o N p 0 u q) o N (Int32.ofNat y)) ∧ ort2 (vrtn v (Int32.ofNat o) p (Int32.ofNat y)) (v.2.2.2 4 + 1) (Int32.ofNat y) u q = oi (rtG (rtF F o N p 0 u q) o N (Int32.ofNat y) 33 (12 * o + N)) := by
  have e33 : rtG (rtF F o N p 0 u q) o N (Int32.ofNat y) 33 (12 * o + N) = Int32.ofNat [Int32.ofNat y].length := u2_eq
  rw [e33]
  refine S.routeN ho hy hN h29 h5 hp hov (b := 0) (l := [Int32.ofNat y]) (b2i_neg (fun z => hyo (ofN_inj (by omega) (by omega) z))) rfl (fun K hK i => (rtG_n (by omega)).trans (rtF_n (by omega))) ((rtG_n (by omega)).trans ((u2_ne (by decide)).trans ((u2_ne (by decide)).trans ((u2_ne (by decide)).trans ((u2_ne (by decide)).trans ((u2_ne (by decide)).trans u2_eq)))))) (fun o' ho' => (rtG_n (by omega)).trans (rtF_n (by omega))) ((rtG_n (by omega)).trans ((u2_ne (by decide)).trans ((u2_ne (by decide)).trans ((u2_ne (by decide)).trans ((u2_ne (by decide)).trans u2_eq))))) ((rtG_n (by omega)).trans ((u2_ne (by decide)).trans u2_eq)) ((rtG_n (by omega)).trans u2_eq) ((rtG_n (by omega)).trans ((u2_ne (by decide)).trans ((u2_ne (by decide)).trans ((u2_ne (by decide)).trans u2_eq)))) ⟨e33, fun i x hx => ?_⟩ (fun K i h1 h2 h3 => (rtG_n (by omega)).trans (rtF_n (by omega))) (fun i hi => (rtG_n (by omega)).trans (rtF_n (by omega)))
  cases i with
  | zero => exact ((u2_ne (by decide)).trans u2_eq).trans (Option.some.inj hx)
  | succ i => cases hx
end XRG
theorem chv_e {y f : Nat} {l : List Int32} (ho : o ≤ 100000) (hy : y ≤ 100000) (b4 : v.1 4 1 m = F 34 f) (b7 : v.2.1 4 2 m = 90 + m) (hl : v.2.2.1 (90 + m) = l) (b9 : l.length ≤ 3) : (¬ Int32.ofNat y = Int32.ofNat o ∧ chv v m (Int32.ofNat y) = true) ↔ ¬ ((¬ F 34 f = 0 ∨ y = o ∨ l.length = 3) ∨ Int32.ofNat y ∈ l) := by
  unfold chv
  rw [b7, hl, b4, Bool.and_eq_true, Bool.and_eq_true, beq_iff_eq, decide_eq_true_eq, Bool.not_eq_true', decide_eq_false_iff_not]
  constructor
  · rintro ⟨c1, ⟨c2, c3⟩, c4⟩ ((z | z | z) | z)
    · exact z c2
    · exact c1 (by rw [z])
    · omega
    · exact c4 z
  · intro h
    have h3 : l.length ≠ 3 := fun z => h (Or.inl (Or.inr (Or.inr z)))
    exact ⟨fun z => h (Or.inl (Or.inr (Or.inl (ofN_inj hy ho z)))), ⟨Classical.byContradiction (fun z => h (Or.inl (Or.inl z))), by omega⟩, fun z => h (Or.inr z)⟩
theorem ort2_f {l : List Int32} (h41 : v.1 4 1 m = 0) (b7 : v.2.1 4 2 m = 90 + m) (hl : v.2.2.1 (90 + m) = l) (b1 : 1 ≤ m) (b9 : l.length < 3) : ort2 v m Y u q = oi (Int32.ofNat (l.length + 1)) := by
  have e : vrt2 v m Y u q = vpi (vpi (vrw v (90 + m) (l ++ [Y])) 4 3 m u) 4 4 m q := by
    unfold vrt2 radd
    rw [if_pos h41, b7, cap9 b1, hl, if_pos b9]
  unfold ort2
  rw [e, show (vpi (vpi (vrw v (90 + m) (l ++ [Y])) 4 3 m u) 4 4 m q).2.1 4 2 m = 90 + m from b7, show (vpi (vpi (vrw v (90 + m) (l ++ [Y])) 4 3 m u) 4 4 m q).2.2.1 (90 + m) = l ++ [Y] from u1_eq, List.length_append]
  rfl
end XRF
theorem r97x {D : Int} {v : vS} {F : xF} {x p y u q : Int32} (S : Sim D v F) (hx : ¬ rtok x p y u q) : EC MR 97 [rf 8 1, .inl x, .inl p, .inl y, .inl u, .inl q] F (fun o9 t => Sim D (vroute v x p y u q) t ∧ AG (oroute v x p y u q) o9 t ∧ t 8 1 = F 8 1 ∧ t 8 2 = F 8 2) := by
  refine EC.mk (fun n0 => ?_)
  show BC _ n0 97 0 [rf 8 1, .inl x, .inl p, .inl y, .inl u, .inl q, rf 0 0, rf 0 0, rf 0 0, rf 0 0, rf 0 0, rf 0 0] [] _ _
  refine BC.blk c97_0 (fun m1 hm1 => ?_)
  have jn94 : ∀ (n : Nat) (b7 b6 : Int32), TB b7 (rtok x p y u q) → BC MR n 97 94 [rf 8 1, .inl x, .inl p, .inl y, .inl u, .inl q, .inl b6, rf 0 0, rf 0 0, rf 0 0, rf 0 0, rf 0 0] [.inl b7] F (fun o9 t => Sim D (vroute v x p y u q) t ∧ AG (oroute v x p y u q) o9 t ∧ t 8 1 = F 8 1 ∧ t 8 2 = F 8 2) := by
    intro n94 b7 b6 tb
    refine BC.blk c97_94 (fun m2 hm2 => ?_)
    refine c_istore rfl ?_
    refine c_aload rfl ?_
    refine c_iload rfl ?_
    refine c_if_eq (fun d1 => ?_) (fun d1 => ?_)
    · skip
      refine BC.blk c97_106 (fun m3 hm3 => ?_)
      refine c_iconst ?_
      refine c_goto ?_
      refine BC.blk c97_107 (fun m4 hm4 => ?_)
      refine d_callv mr_rs (e91) ?_
      refine c_if_eq (fun d2 => ?_) (fun d2 => ?_)
      · skip
        first | exact absurd d2 (by decide) | exact absurd d1 (by decide)
      · skip
        refine c_iconst ?_
        exact c_iret ⟨by rw [vroute, if_neg hx]; exact S.f8 ⟨by decide, by decide⟩, Or.inl ⟨1, by rw [oroute, if_neg hx], rfl, by decide, by decide⟩, rfl, rfl⟩
    · skip
      exact absurd (tb.t d1) hx
  have jn41 : ∀ (n : Nat) (b : Int32), TB b (pfx2 p.toInt) → BC MR n 97 41 [rf 8 1, .inl x, .inl p, .inl y, .inl u, .inl q, rf 0 0, rf 0 0, rf 0 0, rf 0 0, rf 0 0, rf 0 0] [.inl b] F (fun o9 t => Sim D (vroute v x p y u q) t ∧ AG (oroute v x p y u q) o9 t ∧ t 8 1 = F 8 1 ∧ t 8 2 = F 8 2) := by
    intro n41 b tb
    refine BC.blk c97_41 (fun m5 hm5 => ?_)
    refine c_istore rfl ?_
    refine c_iload rfl ?_
    refine c_iconst ?_
    refine c_iconst ?_
    refine d_call mr_rs (e92) ?_
    refine c_if_eq (fun d3 => ?_) (fun d3 => ?_)
    · skip
      refine BC.blk c97_93 (fun m6 hm6 => ?_)
      refine c_iconst ?_
      refine c_goto ?_
      exact jn94 m6 _ _ (Or.inr ⟨rfl, fun z => b2i0.mp d3 z.1.1⟩)
    · skip
      refine c_iload rfl ?_
      refine c_if_eq (fun d4 => ?_) (fun d4 => ?_)
      · skip
        refine BC.blk c97_93 (fun m7 hm7 => ?_)
        refine c_iconst ?_
        refine c_goto ?_
        exact jn94 m7 _ _ (Or.inr ⟨rfl, fun z => tb.f d4 z.1.2.2⟩)
      · skip
        refine c_iload rfl ?_
        refine c_iconst ?_
        refine c_iconst ?_
        refine d_call mr_rs (e92) ?_
        refine c_if_eq (fun d5 => ?_) (fun d5 => ?_)
        · skip
          refine BC.blk c97_93 (fun m8 hm8 => ?_)
          refine c_iconst ?_
          refine c_goto ?_
          exact jn94 m8 _ _ (Or.inr ⟨rfl, fun z => b2i0.mp d5 z.1.2.1⟩)
        · skip
          refine c_iload rfl ?_
          refine c_iconst ?_
          refine c_iconst ?_
          refine d_call mr_rs (e92) ?_
          refine c_if_eq (fun d6 => ?_) (fun d6 => ?_)
          · skip
            refine BC.blk c97_93 (fun m9 hm9 => ?_)
            refine c_iconst ?_
            refine c_goto ?_
            exact jn94 m9 _ _ (Or.inr ⟨rfl, fun z => b2i0.mp d6 z.2.1⟩)
          · skip
            refine c_iload rfl ?_
            refine c_iconst ?_
            refine c_iconst ?_
            refine d_call mr_rs (e92) ?_
            refine c_if_eq (fun d7 => ?_) (fun d7 => ?_)
            · skip
              refine BC.blk c97_93 (fun m10 hm10 => ?_)
              refine c_iconst ?_
              refine c_goto ?_
              exact jn94 m10 _ _ (Or.inr ⟨rfl, fun z => b2i0.mp d7 z.2.2⟩)
            · skip
              refine c_iconst ?_
              refine c_goto ?_
              exact jn94 m5 _ _ (Or.inl ⟨rfl, ⟨⟨b2i1.mp d3, b2i1.mp d5, tb.t d4⟩, b2i1.mp d6, b2i1.mp d7⟩⟩)
  refine c_iload rfl ?_
  refine c_iconst ?_
  refine c_iconst ?_
  refine d_call mr_rs (e92) ?_
  refine c_if_ne (fun d8 => ?_) (fun d8 => ?_)
  · skip
    refine BC.blk c97_36 (fun m11 hm11 => ?_)
    refine c_iconst ?_
    refine c_goto ?_
    exact jn41 m11 _ (Or.inl ⟨rfl, Or.inl (b2i1.mp d8)⟩)
  · skip
    refine c_iload rfl ?_
    refine c_iconst ?_
    refine c_iconst ?_
    refine d_call mr_rs (e92) ?_
    refine c_if_ne (fun d9 => ?_) (fun d9 => ?_)
    · skip
      refine BC.blk c97_36 (fun m12 hm12 => ?_)
      refine c_iconst ?_
      refine c_goto ?_
      exact jn41 m12 _ (Or.inl ⟨rfl, Or.inr (Or.inl (b2i1.mp d9))⟩)
    · skip
      refine c_iload rfl ?_
      refine c_iconst ?_
      refine c_iconst ?_
      refine d_call mr_rs (e92) ?_
      refine c_if_eq (fun d10 => ?_) (fun d10 => ?_)
      · skip
        refine BC.blk c97_40 (fun m13 hm13 => ?_)
        refine c_iconst ?_
        refine c_goto ?_
        exact jn41 m13 _ (Or.inr ⟨rfl, fun z => z.elim (b2i0.mp d8) (fun z => z.elim (b2i0.mp d9) (b2i0.mp d10))⟩)
      · skip
        refine c_goto ?_
        refine BC.blk c97_36 (fun m14 hm14 => ?_)
        refine c_iconst ?_
        refine c_goto ?_
        exact jn41 m14 _ (Or.inl ⟨rfl, Or.inr (Or.inr (b2i1.mp d10))⟩)
