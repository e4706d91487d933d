/-! COUNTS, on both sides -/
theorem cnt_sn {p : Nat → Bool} : ∀ (n i : Nat), cnt p i (n + 1) = cnt p i n + (if p (i + n) = true then 1 else 0)
  | 0, i => by
    show (if p i = true then 1 else 0) + 0 = 0 + (if p (i + 0) = true then 1 else 0)
    rw [Nat.add_zero, Nat.zero_add]
    rfl
  | n + 1, i => by
    show (if p i = true then 1 else 0) + cnt p (i + 1) (n + 1) = (if p i = true then 1 else 0) + cnt p (i + 1) n + _
    rw [cnt_sn n (i + 1), show i + 1 + n = i + (n + 1) by omega, Nat.add_assoc]
theorem cnt_sh {p : Nat → Bool} {a : Nat} : ∀ (n i : Nat), cnt p (a + i) n = cnt (fun k => p (a + k)) i n
  | 0, _ => rfl
  | n + 1, i => by
    show (if p (a + i) = true then 1 else 0) + cnt p (a + i + 1) n = (if p (a + i) = true then 1 else 0) + cnt (fun k => p (a + k)) (i + 1) n
    rw [← cnt_sh n (i + 1), Nat.add_assoc]
theorem cnt_len {p : Nat → Bool} : ∀ (n : Nat) (l : List Int32), n ≤ 100000 → l.Nodup → (∀ x ∈ l, ∃ k, k < n ∧ x = Int32.ofNat k) → (∀ k, k < n → (Int32.ofNat k ∈ l ↔ p k = true)) → l.length = cnt p 0 n
  | 0, l, _, _, h, _ => by
    cases l with
    | nil => rfl
    | cons y l => obtain ⟨k, hk, -⟩ := h y List.mem_cons_self; omega
  | n + 1, l, hn, nd, h, hp => by
    rw [cnt_sn, Nat.zero_add]
    by_cases hm : Int32.ofNat n ∈ l
    · have ih := cnt_len (p := p) n (l.erase (Int32.ofNat n)) (by omega) (nd.erase _) (fun x hx => by
        obtain ⟨h1, h2⟩ := (List.Nodup.mem_erase_iff nd).mp hx
        obtain ⟨k, k1, k2⟩ := h x h2
        refine ⟨k, ?_, k2⟩
        have : k ≠ n := fun z => h1 (by rw [k2, z])
        omega) (fun k hk => by
        rw [List.Nodup.mem_erase_iff nd, ← hp k (by omega)]
        exact ⟨fun z => z.2, fun z => ⟨fun e => by have := ofN_inj (by omega) (by omega) e; omega, z⟩⟩)
      rw [if_pos ((hp n (by omega)).mp hm), ← ih, List.length_erase_of_mem hm]
      have := List.length_pos_of_mem hm
      omega
    · have ih := cnt_len (p := p) n l (by omega) nd (fun x hx => by
        obtain ⟨k, k1, k2⟩ := h x hx
        refine ⟨k, ?_, k2⟩
        have : k ≠ n := fun z => hm (by rw [← z, ← k2]; exact hx)
        omega) (fun k hk => hp k (by omega))
      rw [if_neg (fun z => hm ((hp n (by omega)).mpr z)), ← ih, Nat.add_zero]
section XCT
variable {D : Int} {E J : Nat → Prop} {v : vS} {F : xF} {o : Nat}
/-- how many wait -/
theorem SX.cwt (S : SX D E J v F) (ho : o < 3) : (v.2.2.1 (30 * o + 1)).length = cnt (fun l => decide (0 ≤ (F 24 l).toInt)) (24 * o) 24 := by
  obtain ⟨a1, a2, a3⟩ := S.wq.1 o ho
  have e := cnt_sh (p := fun l => decide (0 ≤ (F 24 l).toInt)) (a := 24 * o) 24 0
  rw [Nat.add_zero] at e
  rw [e]
  refine cnt_len 24 _ (by omega) ?_ (fun x hx => ?_) (fun k hk => ⟨fun z => ?_, fun z => a2 k hk (of_decide_eq_true z)⟩)
  · exact a3.imp (fun h z => by rw [z] at h; omega)
  · obtain ⟨n, n1, n2, -⟩ := a1 x hx
    exact ⟨n, n1, n2⟩
  · obtain ⟨n, n1, n2, n3⟩ := a1 _ z
    rw [ofN_inj (by omega) (by omega) n2]
    exact decide_eq_true n3
end XCT
section XCS
variable {p : Nat → Bool} {i N s A : Nat}
theorem cst_n {c : Prop} [Decidable c] (he : s + (if c then cnt p i (N - i) else 0) = A) (hc : ¬ c) : s + (if c then cnt p (i + 1) (N - (i + 1)) else 0) = A := by rw [if_neg hc] at he ⊢; exact he
theorem cst_f {c : Prop} [Decidable c] (he : s + (if c then cnt p i (N - i) else 0) = A) (hi : i < N) (hp : p i = false) : s + (if c then cnt p (i + 1) (N - (i + 1)) else 0) = A := by rw [cnt_no hi hp] at he; exact he
theorem cst_t {c : Prop} [Decidable c] (he : s + (if c then cnt p i (N - i) else 0) = A) (hc : c) (hi : i < N) (hp : p i = true) : (s + 1) + (if c then cnt p (i + 1) (N - (i + 1)) else 0) = A := by rw [if_pos hc, cnt_yes hi hp] at he; rw [if_pos hc]; omega
theorem cst_e {c : Prop} [Decidable c] (he : s + (if c then cnt p i (N - i) else 0) = A) (h : N ≤ i) : s = A := by
  rw [cnt_end h] at he
  split at he <;> omega
end XCS
section XID
variable {v : vS} {o y A1 A2 A3 A4 A5 : Nat}
theorem idl_e (hy : y < 6) (h1 : A1 = (if y = 5 then (v.2.2.1 (30 * o + 2)).length else 0) + (if y = 0 then cidl v (o + 1) 30 33 else 0)) (h2 : A2 = A1 + (if y = 1 then cidl v (o + 1) 0 12 else 0)) (h3 : A3 = A2 + (if y = 2 then cidl v (o + 1) 20 25 else 0)) (h4 : A4 = A3 + (if y = 3 then citr v (Int32.ofNat o) else 0)) (h5 : A5 = A4 + (if y = 4 then (v.2.2.1 (30 * o + 1)).length else 0)) : idl v (o + 1) (Int32.ofNat o) (Int32.ofNat y) = Int32.ofNat A5 := by
  rcases (show y = 0 ∨ y = 1 ∨ y = 2 ∨ y = 3 ∨ y = 4 ∨ y = 5 by omega) with rfl | rfl | rfl | rfl | rfl | rfl
  · rw [show idl v (o + 1) (Int32.ofNat o) (Int32.ofNat 0) = Int32.ofNat (cidl v (o + 1) 30 33) from if_pos rfl, h5, h4, h3, h2, h1]; simp
  · rw [show idl v (o + 1) (Int32.ofNat o) (Int32.ofNat 1) = Int32.ofNat (cidl v (o + 1) 0 12) from (if_neg (by decide)).trans (if_pos rfl), h5, h4, h3, h2, h1]; simp
  · rw [show idl v (o + 1) (Int32.ofNat o) (Int32.ofNat 2) = Int32.ofNat (cidl v (o + 1) 20 25) from (if_neg (by decide)).trans ((if_neg (by decide)).trans (if_pos rfl)), h5, h4, h3, h2, h1]; simp
  · rw [show idl v (o + 1) (Int32.ofNat o) (Int32.ofNat 3) = Int32.ofNat (citr v (Int32.ofNat o)) from (if_neg (by decide)).trans ((if_neg (by decide)).trans ((if_neg (by decide)).trans (if_pos rfl))), h5, h4, h3, h2, h1]; simp
  · rw [show idl v (o + 1) (Int32.ofNat o) (Int32.ofNat 4) = Int32.ofNat (v.2.2.1 (30 * o + 1)).length from (if_neg (by decide)).trans ((if_neg (by decide)).trans ((if_neg (by decide)).trans ((if_neg (by decide)).trans (if_pos rfl)))), h5, h4, h3, h2, h1]; simp
  · rw [show idl v (o + 1) (Int32.ofNat o) (Int32.ofNat 5) = Int32.ofNat (v.2.2.1 (30 * o + 2)).length from (if_neg (by decide)).trans ((if_neg (by decide)).trans ((if_neg (by decide)).trans ((if_neg (by decide)).trans (if_neg (by decide))))), h5, h4, h3, h2, h1]; simp
end XID
theorem r137x {D : Int} {v : vS} {F : xF} {x y : Int32} (S : Sim D v F) (hx : ¬ ((0 ≤ x.toInt ∧ x.toInt ≤ 2) ∧ (0 ≤ y.toInt ∧ y.toInt ≤ 5))) : EC MR 137 [rf 8 1, .inl x, .inl y] F (fun o9 t => Sim D (v) t ∧ AG (oidle v x y) o9 t ∧ t 8 1 = F 8 1 ∧ t 8 2 = F 8 2) := by
  refine EC.mk (fun n0 => ?_)
  show BC _ n0 137 0 [rf 8 1, .inl x, .inl y, rf 0 0, rf 0 0] [] _ _
  refine BC.blk c137_0 (fun m1 hm1 => ?_)
  refine c_aload rfl ?_
  refine c_iload rfl ?_
  refine c_iconst ?_
  refine c_iconst ?_
  refine d_call mr_rs (e92) ?_
  refine c_if_eq (fun d1 => ?_) (fun d1 => ?_)
  · skip
    refine BC.blk c137_23 (fun m2 hm2 => ?_)
    refine c_iconst ?_
    refine c_goto ?_
    refine BC.blk c137_24 (fun m3 hm3 => ?_)
    refine d_callv mr_rs (e91) ?_
    refine c_if_eq (fun d2 => ?_) (fun d2 => ?_)
    · skip
      first | exact absurd d2 (by decide) | exact absurd d4 (by decide)
    · skip
      refine c_iconst ?_
      exact c_iret ⟨S.f8 ⟨by decide, by decide⟩, Or.inl ⟨1, by rw [oidle, if_neg hx], rfl, by decide, by decide⟩, rfl, rfl⟩
  · skip
    refine c_iload rfl ?_
    refine c_iconst ?_
    refine c_iconst ?_
    refine d_call mr_rs (e92) ?_
    refine c_if_eq (fun d3 => ?_) (fun d3 => ?_)
    · skip
      refine BC.blk c137_23 (fun m4 hm4 => ?_)
      refine c_iconst ?_
      refine c_goto ?_
      refine BC.blk c137_24 (fun m5 hm5 => ?_)
      refine d_callv mr_rs (e91) ?_
      refine c_if_eq (fun d4 => ?_) (fun d4 => ?_)
      · skip
        first | exact absurd d2 (by decide) | exact absurd d4 (by decide)
      · skip
        refine c_iconst ?_
        exact c_iret ⟨S.f8 ⟨by decide, by decide⟩, Or.inl ⟨1, by rw [oidle, if_neg hx], rfl, by decide, by decide⟩, rfl, rfl⟩
    · skip
      exact absurd ⟨b2i1.mp d1, b2i1.mp d3⟩ hx
