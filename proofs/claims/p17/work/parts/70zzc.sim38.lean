/-! COUNTS, on both sides -/
theorem cnt_sn {p : Nat → Bool} : ∀ (n i : Nat), cnt p i (n + 1) = cnt p i n + (if p (i + n) = true then 1 else 0)
  | 0, i => by
    show (if p i = true then 1 else 0) + 0 = 0 + (if p (i + 0) = true then 1 else 0)
    rw [Nat.add_zero, Nat.zero_add]
    rfl
  | n + 1, i => by
    show (if p i = true then 1 else 0) + cnt p (i + 1) (n + 1) = (if p i = true then 1 else 0) + cnt p (i + 1) n + _
    rw [cnt_sn n (i + 1), show i + 1 + n = i + (n + 1) by omega, Nat.add_assoc]
theorem cnt_sh {p : Nat → Bool} {a : Nat} : ∀ (n i : Nat), cnt p (a + i) n = cnt (fun k => p (a + k)) i n
  | 0, _ => rfl
  | n + 1, i => by
    show (if p (a + i) = true then 1 else 0) + cnt p (a + i + 1) n = (if p (a + i) = true then 1 else 0) + cnt (fun k => p (a + k)) (i + 1) n
    rw [← cnt_sh n (i + 1), Nat.add_assoc]
theorem cnt_len {p : Nat → Bool} : ∀ (n : Nat) (l : List Int32), n ≤ 100000 → l.Nodup → (∀ x ∈ l, ∃ k, k < n ∧ x = Int32.ofNat k) → (∀ k, k < n → (Int32.ofNat k ∈ l ↔ p k = true)) → l.length = cnt p 0 n
  | 0, l, _, _, h, _ => by
    cases l with
    | nil => rfl
    | cons y l => obtain ⟨k, hk, -⟩ := h y List.mem_cons_self; omega
  | n + 1, l, hn, nd, h, hp => by
    rw [cnt_sn, Nat.zero_add]
    by_cases hm : Int32.ofNat n ∈ l
    · have ih := cnt_len (p := p) n (l.erase (Int32.ofNat n)) (by omega) (nd.erase _) (fun x hx => by
        obtain ⟨h1, h2⟩ := (List.Nodup.mem_erase_iff nd).mp hx
        obtain ⟨k, k1, k2⟩ := h x h2
        refine ⟨k, ?_, k2⟩
        have : k ≠ n := fun z => h1 (by rw [k2, z])
        omega) (fun k hk => by
        rw [List.Nodup.mem_erase_iff nd, ← hp k (by omega)]
        exact ⟨fun z => z.2, fun z => ⟨fun e => by have := ofN_inj (by omega) (by omega) e; omega, z⟩⟩)
      rw [if_pos ((hp n (by omega)).mp hm), ← ih, List.length_erase_of_mem hm]
      have := List.length_pos_of_mem hm
      omega
    · have ih := cnt_len (p := p) n l (by omega) nd (fun x hx => by
        obtain ⟨k, k1, k2⟩ := h x hx
        refine ⟨k, ?_, k2⟩
        have : k ≠ n := fun z => hm (by rw [← z, ← k2]; exact hx)
        omega) (fun k hk => hp k (by omega))
      rw [if_neg (fun z => hm ((hp n (by omega)).mpr z)), ← ih, Nat.add_zero]
section XCT
variable {D : Int} {E J : Nat → Prop} {v : vS} {F : xF} {o : Nat}
/-- how many wait -/
theorem SX.cwt (S : SX D E J v F) (ho : o < 3) : (v.2.2.1 (30 * o + 1)).length = cnt (fun l => decide (0 ≤ (F 24 l).toInt)) (24 * o) 24 := by
  obtain ⟨a1, a2, a3⟩ := S.wq.1 o ho
  have e := cnt_sh (p := fun l => decide (0 ≤ (F 24 l).toInt)) (a := 24 * o) 24 0
  rw [Nat.add_zero] at e
  rw [e]
  refine cnt_len 24 _ (by omega) ?_ (fun x hx => ?_) (fun k hk => ⟨fun z => ?_, fun z => a2 k hk (of_decide_eq_true z)⟩)
  · exact a3.imp (fun h z => by rw [z] at h; omega)
  · obtain ⟨n, n1, n2, -⟩ := a1 x hx
    exact ⟨n, n1, n2⟩
  · obtain ⟨n, n1, n2, n3⟩ := a1 _ z
    rw [ofN_inj (by omega) (by omega) n2]
    exact decide_eq_true n3
theorem SX.ctk {x : Int32} {k : Nat} (S : SX D E J v F) (hk : k < v.2.2.2 6) : (trd v k && ten v x k) = true ↔ (F 39 k = x ∨ F 40 k = x) ∧ (F 41 k).toInt < 0 ∧ F 42 k = 0 := by
  obtain ⟨t1, t2, t3, t4⟩ := S.tr.2.2.2 k hk
  have h41 := (S.i41 hk).1
  simp only [trd, ten, Bool.and_eq_true, decide_eq_true_eq, t1, t2, t3, t4]
  constructor
  · rintro ⟨⟨a1, a2⟩, a3⟩
    exact ⟨a3, by omega, a1⟩
  · rintro ⟨a3, a2, a1⟩
    exact ⟨⟨a1, by omega⟩, a3⟩
end XCT
section XCS
variable {p : Nat → Bool} {i N s A : Nat}
theorem cst_n {c : Prop} [Decidable c] (he : s + (if c then cnt p i (N - i) else 0) = A) (hc : ¬ c) : s + (if c then cnt p (i + 1) (N - (i + 1)) else 0) = A := by rw [if_neg hc] at he ⊢; exact he
theorem cst_f {c : Prop} [Decidable c] (he : s + (if c then cnt p i (N - i) else 0) = A) (hi : i < N) (hp : p i = false) : s + (if c then cnt p (i + 1) (N - (i + 1)) else 0) = A := by rw [cnt_no hi hp] at he; exact he
theorem cst_t {c : Prop} [Decidable c] (he : s + (if c then cnt p i (N - i) else 0) = A) (hc : c) (hi : i < N) (hp : p i = true) : (s + 1) + (if c then cnt p (i + 1) (N - (i + 1)) else 0) = A := by rw [if_pos hc, cnt_yes hi hp] at he; rw [if_pos hc]; omega
theorem cst_e {c : Prop} [Decidable c] (he : s + (if c then cnt p i (N - i) else 0) = A) (h : N ≤ i) : s = A := by
  rw [cnt_end h] at he
  split at he <;> omega
end XCS
section XID
variable {v : vS} {o y A1 A2 A3 A4 A5 : Nat}
theorem idl_e (hy : y < 6) (h1 : A1 = (if y = 5 then (v.2.2.1 (30 * o + 2)).length else 0) + (if y = 0 then cidl v (o + 1) 30 33 else 0)) (h2 : A2 = A1 + (if y = 1 then cidl v (o + 1) 0 12 else 0)) (h3 : A3 = A2 + (if y = 2 then cidl v (o + 1) 20 25 else 0)) (h4 : A4 = A3 + (if y = 3 then citr v (Int32.ofNat o) else 0)) (h5 : A5 = A4 + (if y = 4 then (v.2.2.1 (30 * o + 1)).length else 0)) : idl v (o + 1) (Int32.ofNat o) (Int32.ofNat y) = Int32.ofNat A5 := by
  rcases (show y = 0 ∨ y = 1 ∨ y = 2 ∨ y = 3 ∨ y = 4 ∨ y = 5 by omega) with rfl | rfl | rfl | rfl | rfl | rfl
  · rw [show idl v (o + 1) (Int32.ofNat o) (Int32.ofNat 0) = Int32.ofNat (cidl v (o + 1) 30 33) from if_pos rfl, h5, h4, h3, h2, h1]; simp
  · rw [show idl v (o + 1) (Int32.ofNat o) (Int32.ofNat 1) = Int32.ofNat (cidl v (o + 1) 0 12) from (if_neg (by decide)).trans (if_pos rfl), h5, h4, h3, h2, h1]; simp
  · rw [show idl v (o + 1) (Int32.ofNat o) (Int32.ofNat 2) = Int32.ofNat (cidl v (o + 1) 20 25) from (if_neg (by decide)).trans ((if_neg (by decide)).trans (if_pos rfl)), h5, h4, h3, h2, h1]; simp
  · rw [show idl v (o + 1) (Int32.ofNat o) (Int32.ofNat 3) = Int32.ofNat (citr v (Int32.ofNat o)) from (if_neg (by decide)).trans ((if_neg (by decide)).trans ((if_neg (by decide)).trans (if_pos rfl))), h5, h4, h3, h2, h1]; simp
  · rw [show idl v (o + 1) (Int32.ofNat o) (Int32.ofNat 4) = Int32.ofNat (v.2.2.1 (30 * o + 1)).length from (if_neg (by decide)).trans ((if_neg (by decide)).trans ((if_neg (by decide)).trans ((if_neg (by decide)).trans (if_pos rfl)))), h5, h4, h3, h2, h1]; simp
  · rw [show idl v (o + 1) (Int32.ofNat o) (Int32.ofNat 5) = Int32.ofNat (v.2.2.1 (30 * o + 2)).length from (if_neg (by decide)).trans ((if_neg (by decide)).trans ((if_neg (by decide)).trans ((if_neg (by decide)).trans (if_neg (by decide))))), h5, h4, h3, h2, h1]; simp
end XID
theorem r137x {D : Int} {v : vS} {F : xF} {x y : Int32} (S : Sim D v F) (hx : ¬ ((0 ≤ x.toInt ∧ x.toInt ≤ 2) ∧ (0 ≤ y.toInt ∧ y.toInt ≤ 5))) : EC MR 137 [rf 8 1, .inl x, .inl y] F (fun o9 t => Sim D (v) t ∧ AG (oidle v x y) o9 t ∧ t 8 1 = F 8 1 ∧ t 8 2 = F 8 2) := by
  refine EC.mk (fun n0 => ?_)
  show BC _ n0 137 0 [rf 8 1, .inl x, .inl y, rf 0 0, rf 0 0] [] _ _
  refine BC.blk c137_0 (fun m1 hm1 => ?_)
  refine c_aload rfl ?_
  refine c_iload rfl ?_
  refine c_iconst ?_
  refine c_iconst ?_
  refine d_call mr_rs (e92) ?_
  refine c_if_eq (fun d1 => ?_) (fun d1 => ?_)
  · skip
    refine BC.blk c137_23 (fun m2 hm2 => ?_)
    refine c_iconst ?_
    refine c_goto ?_
    refine BC.blk c137_24 (fun m3 hm3 => ?_)
    refine d_callv mr_rs (e91) ?_
    refine c_if_eq (fun d2 => ?_) (fun d2 => ?_)
    · skip
      first | exact absurd d2 (by decide) | exact absurd d4 (by decide)
    · skip
      refine c_iconst ?_
      exact c_iret ⟨S.f8 ⟨by decide, by decide⟩, Or.inl ⟨1, by rw [oidle, if_neg hx], rfl, by decide, by decide⟩, rfl, rfl⟩
  · skip
    refine c_iload rfl ?_
    refine c_iconst ?_
    refine c_iconst ?_
    refine d_call mr_rs (e92) ?_
    refine c_if_eq (fun d3 => ?_) (fun d3 => ?_)
    · skip
      refine BC.blk c137_23 (fun m4 hm4 => ?_)
      refine c_iconst ?_
      refine c_goto ?_
      refine BC.blk c137_24 (fun m5 hm5 => ?_)
      refine d_callv mr_rs (e91) ?_
      refine c_if_eq (fun d4 => ?_) (fun d4 => ?_)
      · skip
        first | exact absurd d2 (by decide) | exact absurd d4 (by decide)
      · skip
        refine c_iconst ?_
        exact c_iret ⟨S.f8 ⟨by decide, by decide⟩, Or.inl ⟨1, by rw [oidle, if_neg hx], rfl, by decide, by decide⟩, rfl, rfl⟩
    · skip
      exact absurd ⟨b2i1.mp d1, b2i1.mp d3⟩ hx
theorem r137o {D : Int} {v : vS} {F : xF} {o y : Nat} (S : Sim D v F) (ho : o < 3) (hy : y < 6) : EC MR 137 [rf 8 1, .inl (Int32.ofNat o), .inl (Int32.ofNat y)] F (fun o9 t => Sim D (v) t ∧ AG (oidle v (Int32.ofNat o) (Int32.ofNat y)) o9 t ∧ t 8 1 = F 8 1 ∧ t 8 2 = F 8 2) := by
  have oo := ofN (n := o) (by omega)
  have oy := ofN (n := y) (by omega)
  have h1 : 0 ≤ (Int32.ofNat o).toInt ∧ (Int32.ofNat o).toInt ≤ 2 := by omega
  have h2 : 0 ≤ (Int32.ofNat y).toInt ∧ (Int32.ofNat y).toInt ≤ 5 := by omega
  have hT := S.1.tr.1
  have etc : tcn v = v.2.2.2 6 := by
    show (v.1 7 4 1).toInt.toNat = _
    rw [S.1.tr.2.1, (ofN (n := v.2.2.2 6) (by omega)).1]
    rfl
  have oT := ofN (n := v.2.2.2 6) (by omega)
  obtain ⟨A1, hA1⟩ : ∃ A, A = (if y = 5 then (v.2.2.1 (30 * o + 2)).length else 0) + (if y = 0 then cidl v (o + 1) 30 33 else 0) := ⟨_, rfl⟩
  obtain ⟨A2, hA2⟩ : ∃ A, A = A1 + (if y = 1 then cidl v (o + 1) 0 12 else 0) := ⟨_, rfl⟩
  obtain ⟨A3, hA3⟩ : ∃ A, A = A2 + (if y = 2 then cidl v (o + 1) 20 25 else 0) := ⟨_, rfl⟩
  obtain ⟨A4, hA4⟩ : ∃ A, A = A3 + (if y = 3 then citr v (Int32.ofNat o) else 0) := ⟨_, rfl⟩
  obtain ⟨A5, hA5⟩ : ∃ A, A = A4 + (if y = 4 then (v.2.2.1 (30 * o + 1)).length else 0) := ⟨_, rfl⟩
  refine EC.mk (fun n0 => ?_)
  show BC _ n0 137 0 [rf 8 1, .inl (Int32.ofNat o), .inl (Int32.ofNat y), rf 0 0, rf 0 0] [] _ _
  refine BC.blk c137_0 (fun m1 hm1 => ?_)
  refine c_aload rfl ?_
  refine c_iload rfl ?_
  refine c_iconst ?_
  refine c_iconst ?_
  refine d_call mr_rs (e92) ?_
  refine c_if_eq (fun d1 => ?_) (fun d1 => ?_)
  · skip
    first | exact absurd h1 (b2i0.mp d1) | exact absurd h2 (b2i0.mp d2)
  · skip
    refine c_iload rfl ?_
    refine c_iconst ?_
    refine c_iconst ?_
    refine d_call mr_rs (e92) ?_
    refine c_if_eq (fun d2 => ?_) (fun d2 => ?_)
    · skip
      first | exact absurd h1 (b2i0.mp d1) | exact absurd h2 (b2i0.mp d2)
    · skip
      refine c_iconst ?_
      refine c_goto ?_
      refine BC.blk c137_24 (fun m2 hm2 => ?_)
      refine d_callv mr_rs (e91) ?_
      refine c_if_eq (fun d3 => ?_) (fun d3 => ?_)
      · skip
        refine BC.blk c137_32 (fun m3 hm3 => ?_)
        have jn47 : ∀ (n : Nat) (s : Nat), s = (if y = 5 then (v.2.2.1 (30 * o + 2)).length else 0) → BC MR n 137 47 [rf 8 1, .inl (Int32.ofNat o), .inl (Int32.ofNat y), rf 0 0, rf 0 0] [.inl (Int32.ofNat s)] (x_u2 F 8 0 0) (fun o9 t => Sim D (v) t ∧ AG (oidle v (Int32.ofNat o) (Int32.ofNat y)) o9 t ∧ t 8 1 = F 8 1 ∧ t 8 2 = F 8 2) := by
          intro n47 s hs
          refine BC.blk c137_47 (fun m4 hm4 => ?_)
          refine c_istore rfl ?_
          refine c_iconst ?_
          refine c_istore rfl ?_
          refine c_goto ?_
          have lp51 : ∀ (n : Nat) (k s : Nat), k ≤ 3 → s + (if y = 0 then cnt (fun p => v.2.1 17 (o + 1) p == 0) (30 + k) (33 - (30 + k)) else 0) = A1 → BC MR n 137 51 [rf 8 1, .inl (Int32.ofNat o), .inl (Int32.ofNat y), .inl (Int32.ofNat s), .inl (Int32.ofNat k)] [] (x_u2 F 8 0 0) (fun o9 t => Sim D (v) t ∧ AG (oidle v (Int32.ofNat o) (Int32.ofNat y)) o9 t ∧ t 8 1 = F 8 1 ∧ t 8 2 = F 8 2) := by
            intro n51
            induction n51 using Nat.strongRecOn with
            | ind n51 ih51 =>
              intro k s hk he
              have ok := ofN (n := k) (by omega)
              refine BC.blk c137_51 (fun m5 hm5 => ?_)
              refine c_iload rfl ?_
              refine c_iconst ?_
              refine c_icmpk_ge (k := 3) rfl (fun d4 => ?_) (fun d4 => ?_)
              · skip
                refine BC.blk c137_89 (fun m6 hm6 => ?_)
                refine c_iconst ?_
                refine c_istore rfl ?_
                refine c_goto ?_
                have lp92 : ∀ (n : Nat) (k s : Nat), k ≤ 12 → s + (if y = 1 then cnt (fun p => v.2.1 17 (o + 1) p == 0) k (12 - k) else 0) = A2 → BC MR n 137 92 [rf 8 1, .inl (Int32.ofNat o), .inl (Int32.ofNat y), .inl (Int32.ofNat s), .inl (Int32.ofNat k)] [] (x_u2 F 8 0 0) (fun o9 t => Sim D (v) t ∧ AG (oidle v (Int32.ofNat o) (Int32.ofNat y)) o9 t ∧ t 8 1 = F 8 1 ∧ t 8 2 = F 8 2) := by
                  intro n92
                  induction n92 using Nat.strongRecOn with
                  | ind n92 ih92 =>
                    intro k s hk he
                    have ok := ofN (n := k) (by omega)
                    refine BC.blk c137_92 (fun m7 hm7 => ?_)
                    refine c_iload rfl ?_
                    refine c_iconst ?_
                    refine c_icmpk_ge (k := 12) rfl (fun d5 => ?_) (fun d5 => ?_)
                    · skip
                      refine BC.blk c137_133 (fun m8 hm8 => ?_)
                      refine c_iconst ?_
                      refine c_istore rfl ?_
                      refine c_goto ?_
                      have lp136 : ∀ (n : Nat) (k s : Nat), k ≤ 5 → s + (if y = 2 then cnt (fun p => v.2.1 17 (o + 1) p == 0) (20 + k) (25 - (20 + k)) else 0) = A3 → BC MR n 137 136 [rf 8 1, .inl (Int32.ofNat o), .inl (Int32.ofNat y), .inl (Int32.ofNat s), .inl (Int32.ofNat k)] [] (x_u2 F 8 0 0) (fun o9 t => Sim D (v) t ∧ AG (oidle v (Int32.ofNat o) (Int32.ofNat y)) o9 t ∧ t 8 1 = F 8 1 ∧ t 8 2 = F 8 2) := by
                        intro n136
                        induction n136 using Nat.strongRecOn with
                        | ind n136 ih136 =>
                          intro k s hk he
                          have ok := ofN (n := k) (by omega)
                          refine BC.blk c137_136 (fun m9 hm9 => ?_)
                          refine c_iload rfl ?_
                          refine c_iconst ?_
                          refine c_icmpk_ge (k := 5) rfl (fun d6 => ?_) (fun d6 => ?_)
                          · skip
                            refine BC.blk c137_175 (fun m10 hm10 => ?_)
                            refine c_iconst ?_
                            refine c_istore rfl ?_
                            refine c_goto ?_
                            have lp178 : ∀ (n : Nat) (k s : Nat), k ≤ v.2.2.2 6 → s + (if y = 3 then cnt (fun t => trd v t && ten v (Int32.ofNat o) t) k ((tcn v) - k) else 0) = A4 → BC MR n 137 178 [rf 8 1, .inl (Int32.ofNat o), .inl (Int32.ofNat y), .inl (Int32.ofNat s), .inl (Int32.ofNat k)] [] (x_u2 F 8 0 0) (fun o9 t => Sim D (v) t ∧ AG (oidle v (Int32.ofNat o) (Int32.ofNat y)) o9 t ∧ t 8 1 = F 8 1 ∧ t 8 2 = F 8 2) := by
                              intro n178
                              induction n178 using Nat.strongRecOn with
                              | ind n178 ih178 =>
                                intro k s hk he
                                have ok := ofN (n := k) (by omega)
                                refine BC.blk c137_178 (fun m11 hm11 => ?_)
                                refine c_iload rfl ?_
                                refine c_aload rfl ?_
                                refine c_gfi (fun _ C _ => (C.f _).trans S.1.tr.2.2.1) ?_
                                refine c_icmp_ge (fun d7 => ?_) (fun d7 => ?_)
                                · skip
                                  refine BC.blk c137_248 (fun m12 hm12 => ?_)
                                  refine c_iconst ?_
                                  refine c_iload rfl ?_
                                  refine c_bin (ofN_mul (24) (o)) ?_
                                  refine c_istore rfl ?_
                                  refine c_goto ?_
                                  have lp254 : ∀ (n : Nat) (k s : Nat), k ≤ 24 → s + (if y = 4 then cnt (fun l => decide (0 ≤ (F 24 l).toInt)) (24 * o + k) ((24 * o + 24) - (24 * o + k)) else 0) = A5 → BC MR n 137 254 [rf 8 1, .inl (Int32.ofNat o), .inl (Int32.ofNat y), .inl (Int32.ofNat s), .inl (Int32.ofNat (24 * o + k))] [] (x_u2 F 8 0 0) (fun o9 t => Sim D (v) t ∧ AG (oidle v (Int32.ofNat o) (Int32.ofNat y)) o9 t ∧ t 8 1 = F 8 1 ∧ t 8 2 = F 8 2) := by
                                    intro n254
                                    induction n254 using Nat.strongRecOn with
                                    | ind n254 ih254 =>
                                      intro k s hk he
                                      have ok := ofN (n := (24 * o + k)) (by omega)
                                      have o24 := ofN (n := 24 * o + 24) (by omega)
                                      refine BC.blk c137_254 (fun m13 hm13 => ?_)
                                      refine c_iload rfl ?_
                                      refine c_iconst ?_
                                      refine c_iload rfl ?_
                                      refine c_bin (ofN_mul (24) (o)) ?_
                                      refine c_iconst ?_
                                      refine c_bin (ofN_add ((24 * o)) (24)) ?_
                                      refine c_icmp_ge (fun d8 => ?_) (fun d8 => ?_)
                                      · skip
                                        refine BC.blk c137_295 (fun m14 hm14 => ?_)
                                        refine c_iload rfl ?_
                                        exact c_iret ⟨S.f8 ⟨by decide, by decide⟩, Or.inr ⟨_, by rw [oidle, if_pos ⟨h1, h2⟩, oo.2, idl_e hy hA1 hA2 hA3 hA4 hA5, ← cst_e he (by omega)], rfl, rfl⟩, rfl, rfl⟩
                                      · skip
                                        refine c_iload rfl ?_
                                        refine c_iconst ?_
                                        refine c_icmp_ne (fun d9 => ?_) (fun d9 => ?_)
                                        · skip
                                          refine BC.blk c137_287 (fun m15 hm15 => ?_)
                                          refine c_iload rfl ?_
                                          refine c_goto ?_
                                          refine BC.blk c137_288 (fun m16 hm16 => ?_)
                                          refine c_istore rfl ?_
                                          refine c_iincN (i := (24 * o + k)) (k := 1) rfl rfl rfl ?_
                                          refine c_goto ?_
                                          exact ih254 m16 (by omega) (k + 1) s (by omega) (cst_n (i := 24 * o + k) (N := 24 * o + 24) he (fun z => d9 (by rw [z]; rfl)))
                                        · skip
                                          refine c_aload rfl ?_
                                          refine c_gfr (fun _ C _ => C.ar (k := 5) (K := 24) (n := 72) (by decide)) ?_
                                          refine c_iload rfl ?_
                                          refine c_ald (fun _ C l9 i9 => (fun z => ⟨z.1, z.2.trans (show _ = F 24 (24 * o + k) from rfl)⟩) (C.an (k := 5) (K := 24) (n := 72) (by decide) i9 (ofN (by omega)).2)) (fun p1 => ?_)
                                          refine c_if_lt (fun d10 => ?_) (fun d10 => ?_)
                                          · skip
                                            refine BC.blk c137_287 (fun m17 hm17 => ?_)
                                            refine c_iload rfl ?_
                                            refine c_goto ?_
                                            refine BC.blk c137_288 (fun m18 hm18 => ?_)
                                            refine c_istore rfl ?_
                                            refine c_iincN (i := (24 * o + k)) (k := 1) rfl rfl rfl ?_
                                            refine c_goto ?_
                                            exact ih254 m18 (by omega) (k + 1) s (by omega) (cst_f (i := 24 * o + k) (N := 24 * o + 24) he (by omega) (decide_eq_false (by omega)))
                                          · skip
                                            refine c_iload rfl ?_
                                            refine c_iconst ?_
                                            refine c_bin (ofN_add (s) (1)) ?_
                                            refine c_goto ?_
                                            refine BC.blk c137_288 (fun m19 hm19 => ?_)
                                            refine c_istore rfl ?_
                                            refine c_iincN (i := (24 * o + k)) (k := 1) rfl rfl rfl ?_
                                            refine c_goto ?_
                                            exact ih254 m19 (by omega) (k + 1) (s + 1) (by omega) (cst_t (i := 24 * o + k) (N := 24 * o + 24) he (ofN_inj (a := y) (b := 4) (by omega) (by omega) d9) (by omega) (decide_eq_true (by omega)))
                                  exact lp254 m12 0 s (by omega) (by rw [cst_e he (by omega), hA5, S.1.cwt ho, show 24 * o + 24 - (24 * o + 0) = 24 by omega, Nat.add_zero])
                                · skip
                                  refine c_iload rfl ?_
                                  refine c_iconst ?_
                                  refine c_icmp_ne (fun d11 => ?_) (fun d11 => ?_)
                                  · skip
                                    refine BC.blk c137_240 (fun m20 hm20 => ?_)
                                    refine c_iload rfl ?_
                                    refine c_goto ?_
                                    refine BC.blk c137_241 (fun m21 hm21 => ?_)
                                    refine c_istore rfl ?_
                                    refine c_iincN (i := k) (k := 1) rfl rfl rfl ?_
                                    refine c_goto ?_
                                    exact ih178 m21 (by omega) (k + 1) s (by omega) (cst_n (i := k) (N := tcn v) he (fun z => d11 (by rw [z]; rfl)))
                                  · skip
                                    refine c_aload rfl ?_
                                    refine c_gfr (fun _ C _ => C.ar (k := 21) (K := 39) (n := 16) (by decide)) ?_
                                    refine c_iload rfl ?_
                                    refine c_ald (fun _ C l9 i9 => (fun z => ⟨z.1, z.2.trans (show _ = F 39 k from rfl)⟩) (C.an (k := 21) (K := 39) (n := 16) (by decide) i9 (ofN (by omega)).2)) (fun p2 => ?_)
                                    refine c_iload rfl ?_
                                    refine c_icmp_eq (fun d12 => ?_) (fun d12 => ?_)
                                    · skip
                                      refine BC.blk c137_214 (fun m22 hm22 => ?_)
                                      refine c_aload rfl ?_
                                      refine c_gfr (fun _ C _ => C.ar (k := 23) (K := 41) (n := 16) (by decide)) ?_
                                      refine c_iload rfl ?_
                                      refine c_ald (fun _ C l9 i9 => (fun z => ⟨z.1, z.2.trans (show _ = F 41 k from rfl)⟩) (C.an (k := 23) (K := 41) (n := 16) (by decide) i9 (ofN (by omega)).2)) (fun p3 => ?_)
                                      refine c_if_ge (fun d13 => ?_) (fun d13 => ?_)
                                      · skip
                                        refine BC.blk c137_240 (fun m23 hm23 => ?_)
                                        refine c_iload rfl ?_
                                        refine c_goto ?_
                                        refine BC.blk c137_241 (fun m24 hm24 => ?_)
                                        refine c_istore rfl ?_
                                        refine c_iincN (i := k) (k := 1) rfl rfl rfl ?_
                                        refine c_goto ?_
                                        exact ih178 m24 (by omega) (k + 1) s (by omega) (cst_f (i := k) (N := tcn v) he (by omega) (Bool.eq_false_iff.mpr (fun z => absurd ((S.1.ctk (x := Int32.ofNat o) (show k < v.2.2.2 6 by omega)).mp z).2.1 (by omega))))
                                      · skip
                                        refine c_aload rfl ?_
                                        refine c_gfr (fun _ C _ => C.ar (k := 24) (K := 42) (n := 16) (by decide)) ?_
                                        refine c_iload rfl ?_
                                        refine c_ald (fun _ C l9 i9 => (fun z => ⟨z.1, z.2.trans (show _ = F 42 k from rfl)⟩) (C.an (k := 24) (K := 42) (n := 16) (by decide) i9 (ofN (by omega)).2)) (fun p4 => ?_)
                                        refine c_if_ne (fun d14 => ?_) (fun d14 => ?_)
                                        · skip
                                          refine BC.blk c137_240 (fun m25 hm25 => ?_)
                                          refine c_iload rfl ?_
                                          refine c_goto ?_
                                          refine BC.blk c137_241 (fun m26 hm26 => ?_)
                                          refine c_istore rfl ?_
                                          refine c_iincN (i := k) (k := 1) rfl rfl rfl ?_
                                          refine c_goto ?_
                                          exact ih178 m26 (by omega) (k + 1) s (by omega) (cst_f (i := k) (N := tcn v) he (by omega) (Bool.eq_false_iff.mpr (fun z => d14 ((S.1.ctk (x := Int32.ofNat o) (show k < v.2.2.2 6 by omega)).mp z).2.2)))
                                        · skip
                                          refine c_iload rfl ?_
                                          refine c_iconst ?_
                                          refine c_bin (ofN_add (s) (1)) ?_
                                          refine c_goto ?_
                                          refine BC.blk c137_241 (fun m27 hm27 => ?_)
                                          refine c_istore rfl ?_
                                          refine c_iincN (i := k) (k := 1) rfl rfl rfl ?_
                                          refine c_goto ?_
                                          exact ih178 m27 (by omega) (k + 1) (s + 1) (by omega) (cst_t (i := k) (N := tcn v) he (ofN_inj (a := y) (b := 3) (by omega) (by omega) d11) (by omega) ((S.1.ctk (x := Int32.ofNat o) (show k < v.2.2.2 6 by omega)).mpr ⟨Or.inl d12, by omega, d14⟩))
                                    · skip
                                      refine c_aload rfl ?_
                                      refine c_gfr (fun _ C _ => C.ar (k := 22) (K := 40) (n := 16) (by decide)) ?_
                                      refine c_iload rfl ?_
                                      refine c_ald (fun _ C l9 i9 => (fun z => ⟨z.1, z.2.trans (show _ = F 40 k from rfl)⟩) (C.an (k := 22) (K := 40) (n := 16) (by decide) i9 (ofN (by omega)).2)) (fun p5 => ?_)
                                      refine c_iload rfl ?_
                                      refine c_icmp_ne (fun d15 => ?_) (fun d15 => ?_)
                                      · skip
                                        refine BC.blk c137_240 (fun m28 hm28 => ?_)
                                        refine c_iload rfl ?_
                                        refine c_goto ?_
                                        refine BC.blk c137_241 (fun m29 hm29 => ?_)
                                        refine c_istore rfl ?_
                                        refine c_iincN (i := k) (k := 1) rfl rfl rfl ?_
                                        refine c_goto ?_
                                        exact ih178 m29 (by omega) (k + 1) s (by omega) (cst_f (i := k) (N := tcn v) he (by omega) (Bool.eq_false_iff.mpr (fun z => ((S.1.ctk (x := Int32.ofNat o) (show k < v.2.2.2 6 by omega)).mp z).1.elim d12 d15)))
                                      · skip
                                        refine c_goto ?_
                                        refine BC.blk c137_214 (fun m30 hm30 => ?_)
                                        refine c_aload rfl ?_
                                        refine c_gfr (fun _ C _ => C.ar (k := 23) (K := 41) (n := 16) (by decide)) ?_
                                        refine c_iload rfl ?_
                                        refine c_ald (fun _ C l9 i9 => (fun z => ⟨z.1, z.2.trans (show _ = F 41 k from rfl)⟩) (C.an (k := 23) (K := 41) (n := 16) (by decide) i9 (ofN (by omega)).2)) (fun p6 => ?_)
                                        refine c_if_ge (fun d16 => ?_) (fun d16 => ?_)
                                        · skip
                                          refine BC.blk c137_240 (fun m31 hm31 => ?_)
                                          refine c_iload rfl ?_
                                          refine c_goto ?_
                                          refine BC.blk c137_241 (fun m32 hm32 => ?_)
                                          refine c_istore rfl ?_
                                          refine c_iincN (i := k) (k := 1) rfl rfl rfl ?_
                                          refine c_goto ?_
                                          exact ih178 m32 (by omega) (k + 1) s (by omega) (cst_f (i := k) (N := tcn v) he (by omega) (Bool.eq_false_iff.mpr (fun z => absurd ((S.1.ctk (x := Int32.ofNat o) (show k < v.2.2.2 6 by omega)).mp z).2.1 (by omega))))
                                        · skip
                                          refine c_aload rfl ?_
                                          refine c_gfr (fun _ C _ => C.ar (k := 24) (K := 42) (n := 16) (by decide)) ?_
                                          refine c_iload rfl ?_
                                          refine c_ald (fun _ C l9 i9 => (fun z => ⟨z.1, z.2.trans (show _ = F 42 k from rfl)⟩) (C.an (k := 24) (K := 42) (n := 16) (by decide) i9 (ofN (by omega)).2)) (fun p7 => ?_)
                                          refine c_if_ne (fun d17 => ?_) (fun d17 => ?_)
                                          · skip
                                            refine BC.blk c137_240 (fun m33 hm33 => ?_)
                                            refine c_iload rfl ?_
                                            refine c_goto ?_
                                            refine BC.blk c137_241 (fun m34 hm34 => ?_)
                                            refine c_istore rfl ?_
                                            refine c_iincN (i := k) (k := 1) rfl rfl rfl ?_
                                            refine c_goto ?_
                                            exact ih178 m34 (by omega) (k + 1) s (by omega) (cst_f (i := k) (N := tcn v) he (by omega) (Bool.eq_false_iff.mpr (fun z => d17 ((S.1.ctk (x := Int32.ofNat o) (show k < v.2.2.2 6 by omega)).mp z).2.2)))
                                          · skip
                                            refine c_iload rfl ?_
                                            refine c_iconst ?_
                                            refine c_bin (ofN_add (s) (1)) ?_
                                            refine c_goto ?_
                                            refine BC.blk c137_241 (fun m35 hm35 => ?_)
                                            refine c_istore rfl ?_
                                            refine c_iincN (i := k) (k := 1) rfl rfl rfl ?_
                                            refine c_goto ?_
                                            exact ih178 m35 (by omega) (k + 1) (s + 1) (by omega) (cst_t (i := k) (N := tcn v) he (ofN_inj (a := y) (b := 3) (by omega) (by omega) d11) (by omega) ((S.1.ctk (x := Int32.ofNat o) (show k < v.2.2.2 6 by omega)).mpr ⟨Or.inr d15, by omega, d17⟩))
                            exact lp178 m10 0 s (by omega) (by rw [cst_e he (by omega)]; exact hA4.symm)
                          · skip
                            refine c_iload rfl ?_
                            refine c_iconst ?_
                            refine c_icmp_ne (fun d18 => ?_) (fun d18 => ?_)
                            · skip
                              refine BC.blk c137_167 (fun m36 hm36 => ?_)
                              refine c_iload rfl ?_
                              refine c_goto ?_
                              refine BC.blk c137_168 (fun m37 hm37 => ?_)
                              refine c_istore rfl ?_
                              refine c_iincN (i := k) (k := 1) rfl rfl rfl ?_
                              refine c_goto ?_
                              exact ih136 m37 (by omega) (k + 1) s (by omega) (cst_n (i := 20 + k) (N := 25) he (fun z => d18 (by rw [z]; rfl)))
                            · skip
                              refine c_aload rfl ?_
                              refine c_gfr (fun _ C _ => C.ar (k := 18) (K := 37) (n := 15) (by decide)) ?_
                              refine c_iconst ?_
                              refine c_iload rfl ?_
                              refine c_bin (ofN_mul (5) (o)) ?_
                              refine c_iload rfl ?_
                              refine c_bin (ofN_add ((5 * o)) (k)) ?_
                              refine c_ald (fun _ C l9 i9 => (fun z => ⟨z.1, z.2.trans (show _ = F 37 (5 * o + k) from rfl)⟩) (C.an (k := 18) (K := 37) (n := 15) (by decide) i9 (ofN (by omega)).2)) (fun p8 => ?_)
                              refine c_if_ge (fun d19 => ?_) (fun d19 => ?_)
                              · skip
                                refine BC.blk c137_167 (fun m38 hm38 => ?_)
                                refine c_iload rfl ?_
                                refine c_goto ?_
                                refine BC.blk c137_168 (fun m39 hm39 => ?_)
                                refine c_istore rfl ?_
                                refine c_iincN (i := k) (k := 1) rfl rfl rfl ?_
                                refine c_goto ?_
                                exact ih136 m39 (by omega) (k + 1) s (by omega) (cst_f (i := 20 + k) (N := 25) he (by omega) (by have e9 := (S.1.i37 ho (show k < 5 by omega)).1; exact beq_eq_false_iff_ne.mpr (by omega)))
                              · skip
                                refine c_iload rfl ?_
                                refine c_iconst ?_
                                refine c_bin (ofN_add (s) (1)) ?_
                                refine c_goto ?_
                                refine BC.blk c137_168 (fun m40 hm40 => ?_)
                                refine c_istore rfl ?_
                                refine c_iincN (i := k) (k := 1) rfl rfl rfl ?_
                                refine c_goto ?_
                                exact ih136 m40 (by omega) (k + 1) (s + 1) (by omega) (cst_t (i := 20 + k) (N := 25) he (ofN_inj (a := y) (b := 2) (by omega) (by omega) d18) (by omega) (by have e9 := (S.1.i37 ho (show k < 5 by omega)).1; exact beq_iff_eq.mpr (by omega)))
                      exact lp136 m8 0 s (by omega) (by rw [cst_e he (by omega)]; exact hA3.symm)
                    · skip
                      refine c_iload rfl ?_
                      refine c_iconst ?_
                      refine c_icmp_ne (fun d20 => ?_) (fun d20 => ?_)
                      · skip
                        refine BC.blk c137_125 (fun m41 hm41 => ?_)
                        refine c_iload rfl ?_
                        refine c_goto ?_
                        refine BC.blk c137_126 (fun m42 hm42 => ?_)
                        refine c_istore rfl ?_
                        refine c_iincN (i := k) (k := 1) rfl rfl rfl ?_
                        refine c_goto ?_
                        exact ih92 m42 (by omega) (k + 1) s (by omega) (cst_n (i := k) (N := 12) he (fun z => d20 (by rw [z]; rfl)))
                      · skip
                        refine c_aload rfl ?_
                        refine c_gfr (fun _ C _ => C.ar (k := 17) (K := 36) (n := 36) (by decide)) ?_
                        refine c_iconst ?_
                        refine c_iload rfl ?_
                        refine c_bin (ofN_mul (12) (o)) ?_
                        refine c_iload rfl ?_
                        refine c_bin (ofN_add ((12 * o)) (k)) ?_
                        refine c_ald (fun _ C l9 i9 => (fun z => ⟨z.1, z.2.trans (show _ = F 36 (12 * o + k) from rfl)⟩) (C.an (k := 17) (K := 36) (n := 36) (by decide) i9 (ofN (by omega)).2)) (fun p9 => ?_)
                        refine c_if_ge (fun d21 => ?_) (fun d21 => ?_)
                        · skip
                          refine BC.blk c137_125 (fun m43 hm43 => ?_)
                          refine c_iload rfl ?_
                          refine c_goto ?_
                          refine BC.blk c137_126 (fun m44 hm44 => ?_)
                          refine c_istore rfl ?_
                          refine c_iincN (i := k) (k := 1) rfl rfl rfl ?_
                          refine c_goto ?_
                          exact ih92 m44 (by omega) (k + 1) s (by omega) (cst_f (i := k) (N := 12) he (by omega) (by have e9 := (S.1.i36 ho (show k < 12 by omega)).1; exact beq_eq_false_iff_ne.mpr (by omega)))
                        · skip
                          refine c_iload rfl ?_
                          refine c_iconst ?_
                          refine c_bin (ofN_add (s) (1)) ?_
                          refine c_goto ?_
                          refine BC.blk c137_126 (fun m45 hm45 => ?_)
                          refine c_istore rfl ?_
                          refine c_iincN (i := k) (k := 1) rfl rfl rfl ?_
                          refine c_goto ?_
                          exact ih92 m45 (by omega) (k + 1) (s + 1) (by omega) (cst_t (i := k) (N := 12) he (ofN_inj (a := y) (b := 1) (by omega) (by omega) d20) (by omega) (by have e9 := (S.1.i36 ho (show k < 12 by omega)).1; exact beq_iff_eq.mpr (by omega)))
                exact lp92 m6 0 s (by omega) (by rw [cst_e he (by omega)]; exact hA2.symm)
              · skip
                refine c_iload rfl ?_
                refine c_if_ne (fun d22 => ?_) (fun d22 => ?_)
                · skip
                  refine BC.blk c137_81 (fun m46 hm46 => ?_)
                  refine c_iload rfl ?_
                  refine c_goto ?_
                  refine BC.blk c137_82 (fun m47 hm47 => ?_)
                  refine c_istore rfl ?_
                  refine c_iincN (i := k) (k := 1) rfl rfl rfl ?_
                  refine c_goto ?_
                  exact ih51 m47 (by omega) (k + 1) s (by omega) (cst_n (i := 30 + k) (N := 33) he (fun z => d22 (by rw [z]; rfl)))
                · skip
                  refine c_aload rfl ?_
                  refine c_gfr (fun _ C _ => C.ar (k := 19) (K := 38) (n := 9) (by decide)) ?_
                  refine c_iconst ?_
                  refine c_iload rfl ?_
                  refine c_bin (ofN_mul (3) (o)) ?_
                  refine c_iload rfl ?_
                  refine c_bin (ofN_add ((3 * o)) (k)) ?_
                  refine c_ald (fun _ C l9 i9 => (fun z => ⟨z.1, z.2.trans (show _ = F 38 (3 * o + k) from rfl)⟩) (C.an (k := 19) (K := 38) (n := 9) (by decide) i9 (ofN (by omega)).2)) (fun p10 => ?_)
                  refine c_if_ge (fun d23 => ?_) (fun d23 => ?_)
                  · skip
                    refine BC.blk c137_81 (fun m48 hm48 => ?_)
                    refine c_iload rfl ?_
                    refine c_goto ?_
                    refine BC.blk c137_82 (fun m49 hm49 => ?_)
                    refine c_istore rfl ?_
                    refine c_iincN (i := k) (k := 1) rfl rfl rfl ?_
                    refine c_goto ?_
                    exact ih51 m49 (by omega) (k + 1) s (by omega) (cst_f (i := 30 + k) (N := 33) he (by omega) (by have e9 := (S.1.i38 ho (show k < 3 by omega)).1; exact beq_eq_false_iff_ne.mpr (by omega)))
                  · skip
                    refine c_iload rfl ?_
                    refine c_iconst ?_
                    refine c_bin (ofN_add (s) (1)) ?_
                    refine c_goto ?_
                    refine BC.blk c137_82 (fun m50 hm50 => ?_)
                    refine c_istore rfl ?_
                    refine c_iincN (i := k) (k := 1) rfl rfl rfl ?_
                    refine c_goto ?_
                    exact ih51 m50 (by omega) (k + 1) (s + 1) (by omega) (cst_t (i := 30 + k) (N := 33) he (ofN_inj (a := y) (b := 0) (by omega) (by omega) d22) (by omega) (by have e9 := (S.1.i38 ho (show k < 3 by omega)).1; exact beq_iff_eq.mpr (by omega)))
          exact lp51 m4 0 s (by omega) (by rw [hs]; exact hA1.symm)
        refine c_iload rfl ?_
        refine c_iconst ?_
        refine c_icmp_ne (fun d24 => ?_) (fun d24 => ?_)
        · skip
          refine BC.blk c137_46 (fun m51 hm51 => ?_)
          refine c_iconst ?_
          refine c_goto ?_
          exact jn47 m51 0 (if_neg (fun z => d24 (by rw [z]; rfl))).symm
        · skip
          refine c_aload rfl ?_
          refine c_gfr (fun _ C _ => C.ar (k := 27) (K := 45) (n := 3) (by decide)) ?_
          refine c_iload rfl ?_
          refine c_ald (fun _ C l9 i9 => (fun z => ⟨z.1, z.2.trans (S.1.jq o ho).1.1⟩) (C.an (k := 27) (K := 45) (n := 3) (by decide) i9 (ofN (by omega)).2)) (fun p11 => ?_)
          refine c_goto ?_
          exact jn47 m3 _ (if_pos (ofN_inj (a := y) (b := 5) (by omega) (by omega) d24)).symm
      · skip
        exact absurd (show b2i (0 < (0 : Int32).toInt) = 0 from rfl) d3
