/-! A CALL COMPLETED: the class's side -/
theorem mpop_3 {x : Int} (h : 0 ≤ x ∧ x ≤ 7) : mpop x ≤ 3 := by
  obtain ⟨h1, h2⟩ := h
  rcases (show x = 0 ∨ x = 1 ∨ x = 2 ∨ x = 3 ∨ x = 4 ∨ x = 5 ∨ x = 6 ∨ x = 7 by omega) with rfl | rfl | rfl | rfl | rfl | rfl | rfl | rfl <;> decide
section XCC
variable {D : Int} {E J : Nat → Prop} {v : vS} {F : xF} {o a m l : Nat}
theorem own_e (ha : a < 24) : own (24 * o + a + 1) (o + 1) := congrArg Int32.ofNat (show (24 * o + a + 1 - 1) / 24 = o + 1 - 1 by omega)
theorem own_n {c : Nat} (hc : c < 72) (ho : o < 3) (h : ¬ c / 24 = o) : ¬ own (c + 1) (o + 1) := fun z => h (ofN_inj (a := (c + 1 - 1) / 24) (b := o + 1 - 1) (by omega) (by omega) z)
theorem vcw_a0 (ha : a < 24) (h : swR v (o + 1) (24 * o + a + 1) l = none) : vcw v (o + 1) (24 * o + a + 1) l = (0, v) := by
  unfold vcw
  rw [if_pos (own_e ha), h]
  rfl
theorem vcw_a1 {w : vS} (ha : a < 24) (h : swR v (o + 1) (24 * o + a + 1) l = some w) : vcw v (o + 1) (24 * o + a + 1) l = (1, w) := by
  unfold vcw
  rw [if_pos (own_e ha), h]
  rfl
theorem swR_j (h : fidl v (o + 1) 20 25 = -1) {j : Nat} : swR v (o + 1) j l = none := if_pos h
theorem swR_0 {j k : Nat} (hk : k ≤ 100000) (hf : fidl v (o + 1) 20 25 = Int32.ofNat k) (h : fnd (fun s => !(swo v (o + 1) j l s == -1)) 0 4 = none) : swR v (o + 1) j l = none := by
  unfold swR
  rw [hf, if_neg (ofN_m1 hk), h]
  rfl
theorem swR_1' {j k t x y : Nat} (hk : k ≤ 100000) (hf : fidl v (o + 1) 20 25 = Int32.ofNat k) (h : fnd (fun s => !(swo v (o + 1) j l s == -1)) 0 4 = some t) (hi : ilk v (o + 1) j t (-1) = Int32.ofNat x) (hx : x ≤ 1000) (hs : swo v (o + 1) j l t = Int32.ofNat y) : swR v (o + 1) j l = some (vseize (vseize (vpi (vseize v j (Int32.ofNat (1000 * o + x))) 3 8 (o + 1) (Int32.ofNat ((x + 1) % 4))) j (Int32.ofNat (1000 * o + k))) j (Int32.ofNat (1000 * o + y))) := by
  unfold swR
  rw [hf, if_neg (ofN_m1 hk), h]
  show some (vseize (vseize (vlk v (o + 1) j (ilk v (o + 1) j t (-1))) j (ocd (o + 1) (fidl v (o + 1) 20 25))) j (ocd (o + 1) (swo v (o + 1) j l t))) = _
  rw [hi, hs, hf, ocd_e, ocd_e, vlk_e hx]
theorem vcw_b0 {j : Nat} (hw : ¬ own j (o + 1)) (h : ilk v (o + 1) l 0 (-1) = -1) : vcw v (o + 1) j l = (0, v) := by
  unfold vcw
  rw [if_neg hw, h]
  rfl
theorem vcw_b1 {j x : Nat} (hw : ¬ own j (o + 1)) (hx : x ≤ 1000) (h : ilk v (o + 1) l 0 (-1) = Int32.ofNat x) : vcw v (o + 1) j l = (1, vpi (vseize v j (Int32.ofNat (1000 * o + x))) 3 8 (o + 1) (Int32.ofNat ((x + 1) % 4))) := by
  unfold vcw
  rw [if_neg hw, h, vlk_e hx]
  have : (Int32.ofNat x == -1) = false := beq_eq_false_iff_ne.mpr (ofN_m1 (by omega))
  rw [this]
  rfl
theorem vcall_3 (S : Sim D v F) (ho : o < 3) {u j : Nat} (hu : u < 24) (hm : m < 24) (hf : hfr v (o + 1) (Int32.ofNat u) = Int32.ofNat m) : vcall v (o + 1) j (Int32.ofNat u) = if frb v (24 * o + m + 1) = false then vend v j 3 else if (vcw v (o + 1) j (24 * o + m + 1)).1 = 0 then vend (vcw v (o + 1) j (24 * o + m + 1)).2 j 4 else vring (vcw v (o + 1) j (24 * o + m + 1)).2 j (24 * o + m + 1) := by
  have ev : vcl v (o + 1) (Int32.ofNat u) = 24 * o + m + 1 := by unfold vcl; rw [hf, (ofN (n := m) (by omega)).2]; rfl
  have ou := ofN (n := u) (by omega)
  unfold vcall
  rw [ev, if_neg (show ¬ isl (Int32.ofNat u) = false from fun z => absurd (of_decide_eq_false z) (by omega))]
theorem vcall_4 (S : Sim D v F) (ho : o < 3) {u j : Nat} (hu : u < 24) (hm : m < 24) (hf : hfr v (o + 1) (Int32.ofNat u) = Int32.ofNat m) (fr : F 22 (24 * o + m) = 0 ∧ (F 28 (24 * o + m)).toInt < 0 ∧ F 47 (24 * o + m) = 0) : vcall v (o + 1) j (Int32.ofNat u) = if (vcw v (o + 1) j (24 * o + m + 1)).1 = 0 then vend (vcw v (o + 1) j (24 * o + m + 1)).2 j 4 else vring (vcw v (o + 1) j (24 * o + m + 1)).2 j (24 * o + m + 1) := by
  rw [vcall_3 S ho hu hm hf, if_neg (fun z => absurd ((S.frf (by omega)).mpr fr) (by rw [z]; decide))]
end XCC
theorem r121a {D : Int} {v : vS} {F : xF} {o a : Nat} {x : Int32} (S : Sim D v F) (ho : o < 3) (ha : a < 24) (h47 : F 47 (24 * o + a) = 2) (h50 : F 50 (24 * o + a) = Int32.ofNat o) (nj : ∀ o', o' < 3 → Int32.ofNat (24 * o + a) ∉ v.2.2.1 (30 * o' + 2)) (hx0 : 0 ≤ x.toInt) : EC MR 121 [rf 8 1, .inl (Int32.ofNat (24 * o + a)), .inl (Int32.ofNat o), .inl x] F (fun o9 t => o9 = ov ∧ Sim D (vcall v (o + 1) ((24 * o + a) + 1) x) t ∧ ∀ i, i < 3 → t 8 i = F 8 i) := by
  have hc : 24 * o + a < 72 := by omega
  obtain ⟨ρ, hρ4, hρ⟩ := S.1.rot ho
  refine EC.mk (fun n0 => ?_)
  show BC _ n0 121 0 [rf 8 1, .inl (Int32.ofNat (24 * o + a)), .inl (Int32.ofNat o), .inl x, rf 0 0, rf 0 0, rf 0 0] [] _ _
  refine BC.blk c121_0 (fun m1 hm1 => ?_)
  refine c_iload rfl ?_
  refine c_iconst ?_
  refine c_icmpk_le (k := 23) rfl (fun d1 => ?_) (fun d1 => ?_)
  · skip
    refine BC.blk c121_13 (fun m2 hm2 => ?_)
    obtain ⟨u, hu, ex⟩ : ∃ u, u < 24 ∧ x = Int32.ofNat u := ⟨x.toInt.toNat, by omega, i32_eq.mpr (by rw [(ofN (n := x.toInt.toNat) (by omega)).1]; omega)⟩
    subst ex
    have ou := ofN (n := u) (by omega)
    refine c_aload rfl ?_
    refine c_iload rfl ?_
    refine c_iload rfl ?_
    refine c_callv mr_rs (r117 S ho hu) (fun w t1 p => ?_) (fun k t1 p => by obtain ⟨-, m, -, e, -⟩ := p; cases e)
    obtain ⟨e1, m, hm, e9, hf⟩ := p
    rw [e1]
    clear e1
    cases e9
    refine c_istore rfl ?_
    refine c_aload rfl ?_
    refine c_iconst ?_
    refine c_iload rfl ?_
    refine c_bin (ofN_mul (24) (o)) ?_
    refine c_iload rfl ?_
    refine c_bin (ofN_add ((24 * o)) (m)) ?_
    refine d_callv mr_rs (e116) ?_
    refine c_if_ne (fun d2 => ?_) (fun d2 => ?_)
    · skip
      refine BC.blk c121_42 (fun m3 hm3 => ?_)
      have d2n := b2i1.mp d2
      rw [(ofN (n := 24 * o + m) (by omega)).2] at d2n
      refine c_iload rfl ?_
      refine c_iconst ?_
      refine c_idiv (ofN_div (a := (24 * o + a)) (b := 24) (by omega) (by omega) (by omega)) ?_
      refine c_iload rfl ?_
      refine c_icmp_ne (fun d3 => ?_) (fun d3 => ?_)
      · exact absurd (congrArg Int32.ofNat (show (24 * o + a) / 24 = o by omega)) d3
      · skip
        refine c_iconst ?_
        refine c_goto ?_
        refine BC.blk c121_55 (fun m4 hm4 => ?_)
        refine c_istore rfl ?_
        refine c_iload rfl ?_
        refine c_if_eq (fun d4 => ?_) (fun d4 => ?_)
        · exact absurd d4 (by decide)
        · skip
          refine c_aload rfl ?_
          refine c_iload rfl ?_
          refine p_callv mr_rs (e120 ho) (fun jx hj => ?_)
          have fj := S.1.fjun ho hj
          refine c_goto ?_
          refine BC.blk c121_71 (fun m5 hm5 => ?_)
          refine c_istore rfl ?_
          refine c_iload rfl ?_
          refine c_if_lt (fun d5 => ?_) (fun d5 => ?_)
          · skip
            refine BC.blk c121_101 (fun m6 hm6 => ?_)
            first | (have hA0 := hA.elim (fun z => z.2) (fun z => absurd (z.1.symm.trans d7) (by decide)); rw [hA0.1]) | skip
            refine c_aload rfl ?_
            refine c_iload rfl ?_
            refine c_iconst ?_
            refine c_callv mr_rs (e105 hc (S.1.hlv hc) (S.1.h16 hc) S.1.hjv) (fun w t1 p => ?_) (fun k t1 p => by cases p.1)
            obtain ⟨e9, ⟨t2, hen, rfl⟩⟩ := p
            cases e9
            have e8 : ∀ i, x_u2 (x_u2 t2 57 (24 * o + a) (-1)) 23 (24 * o + a) 4 8 i = F 8 i := fun i => by rw [u2_ne (by decide), u2_ne (by decide), hen.k (by omega)]
            refine c_ret ⟨rfl, ?_, fun i _ => e8 i⟩
            rw [vcall_4 S ho hu hm hf d2n, vcw_a0 ha (swR_j (fj.elim (fun z => z.2) (fun ⟨k, _, z, _⟩ => absurd d5 (by rw [z, (ofN (n := k) (by omega)).1]; omega)))), if_pos rfl]
            exact S.fail hc (by rw [h47]; decide) (by rw [h47]; decide) hen
          · skip
            obtain ⟨k, hk, ejx, efj, hkd⟩ := fj.elim (fun z => absurd (show jx.toInt < 0 by rw [z.1]; decide) d5) id
            subst ejx
            refine c_aload rfl ?_
            refine c_iload rfl ?_
            refine c_iload rfl ?_
            refine c_if_eq (fun d6 => ?_) (fun d6 => ?_)
            · exact absurd d6 (by decide)
            · skip
              refine c_iload rfl ?_
              refine c_iconst ?_
              refine c_irem (show _ = Int32.ofNat a from (ofN_rem (a := 24 * o + a) (b := 24) (by omega) (by omega) (by omega)).trans (congrArg _ (by omega))) ?_
              refine c_goto ?_
              refine BC.blk c121_93 (fun m7 hm7 => ?_)
              refine c_iload rfl ?_
              refine c_callv mr_rs (r119a (D := D) (v := v) ho hρ hρ4 ha hm) (fun w t1 p => ?_) (fun k t1 p => by rcases p with ⟨e, -⟩ | ⟨_, _, -, -, -, -, -, e, -⟩ <;> cases e)
              obtain ⟨b, e9, hA⟩ := wA p
              cases e9
              refine c_if_ne (fun d7 => ?_) (fun d7 => ?_)
              · skip
                refine BC.blk c121_108 (fun m8 hm8 => ?_)
                refine c_iload rfl ?_
                refine c_if_eq (fun d8 => ?_) (fun d8 => ?_)
                · exact absurd d8 (by decide)
                · skip
                  obtain ⟨s, s2, hs, hs2, hA, hA1, hA2, e1⟩ := hA.elim (fun z => absurd z.1 d7) (fun z => z.2)
                  have S1 : Sim D v t1 := by rw [e1]; exact (S.f8 ⟨by decide, by decide⟩).f8 ⟨by decide, by decide⟩
                  have e47 : t1 8 47 = Int32.ofNat ((ρ + s) % 4) := by rw [e1, u2_ni (by decide), u2_eq]
                  have e48 : t1 8 48 = Int32.ofNat ((ρ + s2) % 4) := by rw [e1, u2_eq]
                  have k1 : ∀ K i, (K ≠ 8 ∨ (i ≠ 47 ∧ i ≠ 48)) → t1 K i = F K i := fun K i h => by
                    rw [e1]
                    unfold x_u2
                    rw [if_neg (by omega), if_neg (by omega)]
                  obtain ⟨-, -, -, -, -, -, -, -, -, -, -, p12, -, p14, -⟩ := S.pl hc
                  have hln := (p14 h47).2 (by rw [h50]; congr 1; omega)
                  clear p14
                  obtain ⟨q, hq, e51, e9v, mm9, -, -, h38⟩ := (S.pl hc).reg (S.1.hl hc) S.1.tr.1 (by rw [h47]; decide) (by rw [h47]; decide)
                  rw [h50, (ofN (n := o) (by omega)).2] at e9v
                  clear p12 h38
                  have la := lkn_b (s := s) hρ4 ha
                  have lb := lkn_b (s := s2) hρ4 hm
                  have eia : 12 * o + 4 * (a / 8) + (ρ + s) % 4 = 12 * o + lkn ρ a s := by show _ = 12 * o + (_ + _); omega
                  have eib : 12 * o + 4 * (m / 8) + (ρ + s2) % 4 = 12 * o + lkn ρ m s2 := by show _ = 12 * o + (_ + _); omega
                  have hA' := hA
                  unfold FWA at hA'
                  rw [eia, eib] at hA'
                  have S2 := (S1.1.opn (E' := fun y => y = 24 * o + a) (fun _ z => z.elim)).jn (J' := fun y => y = 24 * o + a) (fun y hy z _ => by subst z; exact nj)
                  have w3 := S2.way3 (i := 12 * o + lkn ρ a s) (i' := 12 * o + lkn ρ m s2) (k := 5 * o + k) (ρ := ((ρ + s) % 4 + 1) % 4) hc ho (by omega) (by rw [k1 36 _ (by omega)]; exact hA'.1) (by omega) (by rw [k1 36 _ (by omega)]; exact hA'.2.1) hA'.2.2 (by omega) (by rw [k1 37 _ (by omega)]; exact hkd) (by omega) (by omega)
                  obtain ⟨S5, K5, R5⟩ := w3
                  have n63 : t1 63 (24 * o + a) = Int32.ofNat (v.2.2.1 (ri (24 * o + a))).length := (S1.1.hlv hc).1
                  refine c_aload rfl ?_
                  refine c_iload rfl ?_
                  refine c_iconst ?_
                  refine c_iload rfl ?_
                  refine c_bin (ofN_mul (1000) (o)) ?_
                  refine c_iconst ?_
                  refine c_iload rfl ?_
                  refine c_iconst ?_
                  refine c_irem (show _ = Int32.ofNat a from (ofN_rem (a := 24 * o + a) (b := 24) (by omega) (by omega) (by omega)).trans (congrArg _ (by omega))) ?_
                  refine c_iconst ?_
                  refine c_idiv (ofN_div (a := a) (b := 8) (by omega) (by omega) (by omega)) ?_
                  refine c_bin (ofN_mul (4) ((a / 8))) ?_
                  refine c_bin (ofN_add ((1000 * o)) ((4 * (a / 8)))) ?_
                  refine c_aload rfl ?_
                  refine c_gfi (fun _ C _ => (C.f _).trans e47) ?_
                  refine c_bin (ofN_add (((1000 * o) + (4 * (a / 8)))) (((ρ + s) % 4))) ?_
                  refine d_callv mr_rs (show ED MR 100 [rf 8 1, .inl (Int32.ofNat (24 * o + a)), .inl (Int32.ofNat (1000 * o + 4 * (a / 8) + (ρ + s) % 4))] _ ov (rseize t1 (24 * o + a) (v.2.2.1 (ri (24 * o + a))).length (Int32.ofNat (cdo 36 (12 * o + lkn ρ a s)))) from by rw [cod_l hρ4 ha]; exact e100 hc n63 (by omega)) ?_
                  refine c_goto ?_
                  refine BC.blk c121_138 (fun m9 hm9 => ?_)
                  refine c_iload rfl ?_
                  refine c_if_eq (fun d9 => ?_) (fun d9 => ?_)
                  · exact absurd d9 (by decide)
                  · skip
                    refine c_aload rfl ?_
                    refine c_iload rfl ?_
                    refine c_iconst ?_
                    refine c_iload rfl ?_
                    refine c_bin (ofN_mul (1000) (o)) ?_
                    refine c_iconst ?_
                    refine c_bin (ofN_add ((1000 * o)) (20)) ?_
                    refine c_iload rfl ?_
                    refine c_bin (ofN_add (((1000 * o) + 20)) (k)) ?_
                    refine d_callv mr_rs (show ED MR 100 [rf 8 1, .inl (Int32.ofNat (24 * o + a)), .inl (Int32.ofNat (1000 * o + 20 + k))] _ ov (rseize (rseize t1 (24 * o + a) (v.2.2.1 (ri (24 * o + a))).length (Int32.ofNat (cdo 36 (12 * o + lkn ρ a s)))) (24 * o + a) ((v.2.2.1 (ri (24 * o + a))).length + 1) (Int32.ofNat (cdo 37 (5 * o + k)))) from by rw [cod_j hk]; exact e100 hc rseize_63 (by omega)) ?_
                    refine c_goto ?_
                    refine BC.blk c121_159 (fun m10 hm10 => ?_)
                    refine c_aload rfl ?_
                    refine c_iload rfl ?_
                    refine c_iconst ?_
                    refine c_iload rfl ?_
                    refine c_bin (ofN_mul (1000) (o)) ?_
                    refine c_iconst ?_
                    refine c_iload rfl ?_
                    refine c_iconst ?_
                    refine c_idiv (ofN_div (a := m) (b := 8) (by omega) (by omega) (by omega)) ?_
                    refine c_bin (ofN_mul (4) ((m / 8))) ?_
                    refine c_bin (ofN_add ((1000 * o)) ((4 * (m / 8)))) ?_
                    refine c_aload rfl ?_
                    refine c_gfi (fun _ C _ => (C.f _).trans ((rseize_k (by omega)).trans ((rseize_k (by omega)).trans e48))) ?_
                    refine c_bin (ofN_add (((1000 * o) + (4 * (m / 8)))) (((ρ + s2) % 4))) ?_
                    refine d_callv mr_rs (show ED MR 100 [rf 8 1, .inl (Int32.ofNat (24 * o + a)), .inl (Int32.ofNat (1000 * o + 4 * (m / 8) + (ρ + s2) % 4))] _ ov (rseize (rseize (rseize t1 (24 * o + a) (v.2.2.1 (ri (24 * o + a))).length (Int32.ofNat (cdo 36 (12 * o + lkn ρ a s)))) (24 * o + a) ((v.2.2.1 (ri (24 * o + a))).length + 1) (Int32.ofNat (cdo 37 (5 * o + k)))) (24 * o + a) ((v.2.2.1 (ri (24 * o + a))).length + 2) (Int32.ofNat (cdo 36 (12 * o + lkn ρ m s2)))) from by rw [cod_l hρ4 hm]; exact e100 hc rseize_63 (by omega)) ?_
                    refine c_aload rfl ?_
                    refine c_gfr (fun _ C _ => C.ar (k := 25) (K := 43) (n := 3) (by decide)) ?_
                    refine c_iload rfl ?_
                    refine c_iload rfl ?_
                    refine c_if_eq (fun d10 => ?_) (fun d10 => ?_)
                    · exact absurd d10 (by decide)
                    · skip
                      refine c_aload rfl ?_
                      refine c_gfi (fun _ C _ => (C.f _).trans ((rseize_k (by omega)).trans ((rseize_k (by omega)).trans ((rseize_k (by omega)).trans e47)))) ?_
                      refine c_goto ?_
                      refine BC.blk c121_203 (fun m11 hm11 => ?_)
                      refine c_iconst ?_
                      refine c_bin (ofN_add (((ρ + s) % 4)) (1)) ?_
                      refine c_iconst ?_
                      refine c_irem (ofN_rem (a := (ρ + s) % 4 + 1) (b := 4) (by omega) (by omega) (by omega)) ?_
                      refine c_ast (fun _ C l9 i9 => C.sn (k := 25) (K := 43) (n := 3) (by decide) i9 (ofN (by omega)).2) (fun p1 => ?_)
                      refine c_aload rfl ?_
                      refine c_iload rfl ?_
                      refine c_iconst ?_
                      refine c_iload rfl ?_
                      refine c_bin (ofN_mul (1000) (o)) ?_
                      refine c_iconst ?_
                      refine c_bin (ofN_add ((1000 * o)) (30)) ?_
                      refine c_aload rfl ?_
                      refine c_gfr (fun _ C _ => C.ar (k := 33) (K := 51) (n := 72) (by decide)) ?_
                      refine c_iload rfl ?_
                      refine c_ald (fun _ C l9 i9 => (fun z => ⟨z.1, z.2.trans ((K5.2.2.2 51 _ (by omega) (by decide)).trans ((k1 51 _ (by omega)).trans e51))⟩) (C.an (k := 33) (K := 51) (n := 72) (by decide) i9 (ofN (by omega)).2)) (fun p2 => ?_)
                      refine c_bin (ofN_add (((1000 * o) + 30)) (q)) ?_
                      rw [cod3 hq]
                      refine c_callv mr_rs (e101 hc (S5.hlv hc) (S5.h16 hc)) (fun w t2 p => ?_) (fun k t2 p => by cases p.1)
                      obtain ⟨e9, hre⟩ := p
                      cases e9
                      refine c_aload rfl ?_
                      refine c_gfr (fun _ C _ => C.ar (k := 29) (K := 47) (n := 72) (by decide)) ?_
                      refine c_iload rfl ?_
                      refine c_iconst ?_
                      refine c_ast (fun _ C l9 i9 => C.sn (k := 29) (K := 47) (n := 72) (by decide) i9 (ofN (by omega)).2) (fun p3 => ?_)
                      refine c_aload rfl ?_
                      refine c_gfr (fun _ C _ => C.ar (k := 39) (K := 57) (n := 72) (by decide)) ?_
                      refine c_iload rfl ?_
                      refine c_iconst ?_
                      refine c_iload rfl ?_
                      refine c_bin (ofN_mul (24) (o)) ?_
                      refine c_iload rfl ?_
                      refine c_bin (ofN_add ((24 * o)) (m)) ?_
                      refine c_ast (fun _ C l9 i9 => C.sn (k := 39) (K := 57) (n := 72) (by decide) i9 (ofN (by omega)).2) (fun p4 => ?_)
                      refine c_aload rfl ?_
                      refine c_gfr (fun _ C _ => C.ar (k := 9) (K := 28) (n := 72) (by decide)) ?_
                      refine c_aload rfl ?_
                      refine c_gfr (fun _ C _ => C.ar (k := 39) (K := 57) (n := 72) (by decide)) ?_
                      refine c_iload rfl ?_
                      refine c_ald (fun _ C l9 i9 => (fun z => ⟨z.1, z.2.trans (u2_eq)⟩) (C.an (k := 39) (K := 57) (n := 72) (by decide) i9 (ofN (by omega)).2)) (fun p5 => ?_)
                      refine c_iload rfl ?_
                      refine c_ast (fun _ C l9 i9 => C.sn (k := 9) (K := 28) (n := 72) (by decide) i9 (ofN (by omega)).2) (fun p6 => ?_)
                      have e8 : ∀ i, (i ≠ 47 ∧ i ≠ 48) → t2 8 i = F 8 i := fun i hi => (hre.k (by omega)).trans ((u2_ne (by decide)).trans ((rseize_k (by omega)).trans ((rseize_k (by omega)).trans ((rseize_k (by omega)).trans (k1 8 i (Or.inr hi))))))
                      obtain ⟨t, et, ei, es⟩ := wayA1 S.1 ho hρ hρ4 ha hm hs hs2 hA hA1 hA2
                      have eR := swR_1' (by omega) efj et ei (by omega) es
                      rw [lkn_m, cod_L hρ4 ha, cod_J hk, cod_L hρ4 hm] at eR
                      have SR := S5.rel (K := 38) (i := 3 * o + q) hc rfl (by unfold slo; omega) (by rw [R5, ← e9v]; exact List.mem_append_left _ (List.mem_append_left _ (List.mem_append_left _ mm9))) hre
                      have KT : KP v F v t1 := ⟨fun _ => rfl, fun _ => rfl, fun _ _ _ => rfl, fun K i _ h => k1 K i (Or.inl h)⟩
                      have RG := KP.ring S SR ((KT.tr K5).tr (KP.rel hre)) hc (by omega) h47 d2n.1 d2n.2.1 d2n.2.2
                      refine c_ret ⟨rfl, ?_, fun i hi => e8 i (by omega)⟩
                      rw [vcall_4 S ho hu hm hf d2n, vcw_a1 ha eR, if_neg (fun z => absurd (show (1 : Int32) = 0 from z) (by decide))]
                      unfold vring
                      rw [show ∀ W : vS, ((1 : Int32), W).2 = W from fun _ => rfl, K5.1 9, e9v]
                      exact RG
              · skip
                refine c_goto ?_
                refine BC.blk c121_101 (fun m12 hm12 => ?_)
                first | (have hA0 := hA.elim (fun z => z.2) (fun z => absurd (z.1.symm.trans d7) (by decide)); rw [hA0.1]) | skip
                refine c_aload rfl ?_
                refine c_iload rfl ?_
                refine c_iconst ?_
                refine c_callv mr_rs (e105 hc (S.1.hlv hc) (S.1.h16 hc) S.1.hjv) (fun w t1 p => ?_) (fun k t1 p => by cases p.1)
                obtain ⟨e9, ⟨t2, hen, rfl⟩⟩ := p
                cases e9
                have e8 : ∀ i, x_u2 (x_u2 t2 57 (24 * o + a) (-1)) 23 (24 * o + a) 4 8 i = F 8 i := fun i => by rw [u2_ne (by decide), u2_ne (by decide), hen.k (by omega)]
                refine c_ret ⟨rfl, ?_, fun i _ => e8 i⟩
                rw [vcall_4 S ho hu hm hf d2n, vcw_a0 ha (swR_0 (by omega) efj (wayA0 S.1 ho hρ hρ4 ha hm hA0.2)), if_pos rfl]
                exact S.fail hc (by rw [h47]; decide) (by rw [h47]; decide) hen
    · skip
      have d2n := b2i0.mp d2
      rw [(ofN (n := 24 * o + m) (by omega)).2] at d2n
      refine c_aload rfl ?_
      refine c_iload rfl ?_
      refine c_iconst ?_
      refine c_callv mr_rs (e105 hc (S.1.hlv hc) (S.1.h16 hc) S.1.hjv) (fun w t1 p => ?_) (fun k t1 p => by cases p.1)
      obtain ⟨e9, ⟨t2, hen, rfl⟩⟩ := p
      cases e9
      have e8 : ∀ i, x_u2 (x_u2 t2 57 (24 * o + a) (-1)) 23 (24 * o + a) 3 8 i = F 8 i := fun i => by rw [u2_ne (by decide), u2_ne (by decide), hen.k (by omega)]
      refine c_ret ⟨rfl, ?_, fun i _ => e8 i⟩
      rw [vcall_3 S ho hu hm hf, if_pos (Bool.eq_false_iff.mpr (fun z => d2n ((S.frf (by omega)).mp z)))]
      exact S.fail hc (by rw [h47]; decide) (by rw [h47]; decide) hen
  · skip
    refine c_aload rfl ?_
    refine c_iload rfl ?_
    refine c_iconst ?_
    refine c_callv mr_rs (e105 hc (S.1.hlv hc) (S.1.h16 hc) S.1.hjv) (fun w t1 p => ?_) (fun k t1 p => by cases p.1)
    obtain ⟨e9, ⟨t2, hen, rfl⟩⟩ := p
    cases e9
    have e8 : ∀ i, x_u2 (x_u2 t2 57 (24 * o + a) (-1)) 23 (24 * o + a) 5 8 i = F 8 i := fun i => by rw [u2_ne (by decide), u2_ne (by decide), hen.k (by omega)]
    refine c_ret ⟨rfl, ?_, fun i _ => e8 i⟩
    rw [vcall, if_pos (show isl x = false from decide_eq_false (by omega))]
    exact S.fail hc (by rw [h47]; decide) (by rw [h47]; decide) hen
theorem r121b {D : Int} {v : vS} {F : xF} {o c : Nat} {x : Int32} (S : Sim D v F) (ho : o < 3) (hc : c < 72) (hco : ¬ c / 24 = o) (h47 : F 47 c = 2) (h50 : F 50 c = Int32.ofNat o) (nj : ∀ o', o' < 3 → Int32.ofNat c ∉ v.2.2.1 (30 * o' + 2)) (hx0 : 0 ≤ x.toInt) : EC MR 121 [rf 8 1, .inl (Int32.ofNat c), .inl (Int32.ofNat o), .inl x] F (fun o9 t => o9 = ov ∧ Sim D (vcall v (o + 1) (c + 1) x) t ∧ ∀ i, i < 3 → t 8 i = F 8 i) := by
  obtain ⟨ρ, hρ4, hρ⟩ := S.1.rot ho
  refine EC.mk (fun n0 => ?_)
  show BC _ n0 121 0 [rf 8 1, .inl (Int32.ofNat c), .inl (Int32.ofNat o), .inl x, rf 0 0, rf 0 0, rf 0 0] [] _ _
  refine BC.blk c121_0 (fun m1 hm1 => ?_)
  refine c_iload rfl ?_
  refine c_iconst ?_
  refine c_icmpk_le (k := 23) rfl (fun d1 => ?_) (fun d1 => ?_)
  · skip
    refine BC.blk c121_13 (fun m2 hm2 => ?_)
    obtain ⟨u, hu, ex⟩ : ∃ u, u < 24 ∧ x = Int32.ofNat u := ⟨x.toInt.toNat, by omega, i32_eq.mpr (by rw [(ofN (n := x.toInt.toNat) (by omega)).1]; omega)⟩
    subst ex
    have ou := ofN (n := u) (by omega)
    refine c_aload rfl ?_
    refine c_iload rfl ?_
    refine c_iload rfl ?_
    refine c_callv mr_rs (r117 S ho hu) (fun w t1 p => ?_) (fun k t1 p => by obtain ⟨-, m, -, e, -⟩ := p; cases e)
    obtain ⟨e1, m, hm, e9, hf⟩ := p
    rw [e1]
    clear e1
    cases e9
    refine c_istore rfl ?_
    refine c_aload rfl ?_
    refine c_iconst ?_
    refine c_iload rfl ?_
    refine c_bin (ofN_mul (24) (o)) ?_
    refine c_iload rfl ?_
    refine c_bin (ofN_add ((24 * o)) (m)) ?_
    refine d_callv mr_rs (e116) ?_
    refine c_if_ne (fun d2 => ?_) (fun d2 => ?_)
    · skip
      refine BC.blk c121_42 (fun m3 hm3 => ?_)
      have d2n := b2i1.mp d2
      rw [(ofN (n := 24 * o + m) (by omega)).2] at d2n
      refine c_iload rfl ?_
      refine c_iconst ?_
      refine c_idiv (ofN_div (a := c) (b := 24) (by omega) (by omega) (by omega)) ?_
      refine c_iload rfl ?_
      refine c_icmp_ne (fun d3 => ?_) (fun d3 => ?_)
      · skip
        refine BC.blk c121_54 (fun m4 hm4 => ?_)
        refine c_iconst ?_
        refine c_goto ?_
        refine BC.blk c121_55 (fun m5 hm5 => ?_)
        refine c_istore rfl ?_
        refine c_iload rfl ?_
        refine c_if_eq (fun d4 => ?_) (fun d4 => ?_)
        · skip
          refine BC.blk c121_70 (fun m6 hm6 => ?_)
          refine c_iconst ?_
          refine c_goto ?_
          refine BC.blk c121_71 (fun m7 hm7 => ?_)
          refine c_istore rfl ?_
          refine c_iload rfl ?_
          refine c_if_lt (fun d5 => ?_) (fun d5 => ?_)
          · exact absurd d5 (by decide)
          · skip
            refine c_aload rfl ?_
            refine c_iload rfl ?_
            refine c_iload rfl ?_
            refine c_if_eq (fun d6 => ?_) (fun d6 => ?_)
            · skip
              refine BC.blk c121_92 (fun m8 hm8 => ?_)
              refine c_iconst ?_
              refine c_goto ?_
              refine BC.blk c121_93 (fun m9 hm9 => ?_)
              refine c_iload rfl ?_
              refine c_callv mr_rs (r119b (D := D) (v := v) ho hρ hρ4 hm) (fun w t1 p => ?_) (fun k t1 p => by rcases p with ⟨e, -⟩ | ⟨_, -, -, -, e, -⟩ <;> cases e)
              obtain ⟨b, e9, hA⟩ := wB (T := fun s => x_u2 (x_u2 F 8 47 (Int32.ofNat ((ρ + s) % 4))) 8 48 (Int32.ofNat ((ρ + s) % 4))) p
              cases e9
              refine c_if_ne (fun d7 => ?_) (fun d7 => ?_)
              · skip
                refine BC.blk c121_108 (fun m10 hm10 => ?_)
                refine c_iload rfl ?_
                refine c_if_eq (fun d8 => ?_) (fun d8 => ?_)
                · skip
                  refine BC.blk c121_138 (fun m11 hm11 => ?_)
                  refine c_iload rfl ?_
                  refine c_if_eq (fun d9 => ?_) (fun d9 => ?_)
                  · skip
                    refine BC.blk c121_159 (fun m12 hm12 => ?_)
                    obtain ⟨s, hs, hA, hA1, e1⟩ := hA.elim (fun z => absurd z.1 d7) (fun z => z.2)
                    have S1 : Sim D v t1 := by rw [e1]; exact (S.f8 ⟨by decide, by decide⟩).f8 ⟨by decide, by decide⟩
                    have e48 : t1 8 48 = Int32.ofNat ((ρ + s) % 4) := by rw [e1, u2_eq]
                    have k1 : ∀ K i, (K ≠ 8 ∨ (i ≠ 47 ∧ i ≠ 48)) → t1 K i = F K i := fun K i h => by
                      rw [e1]
                      show x_u2 (x_u2 F 8 47 (Int32.ofNat ((ρ + s) % 4))) 8 48 (Int32.ofNat ((ρ + s) % 4)) K i = _
                      unfold x_u2
                      rw [if_neg (by omega), if_neg (by omega)]
                    have hln : (v.2.2.1 (ri c)).length < 8 := by
                      obtain ⟨-, -, -, -, -, -, -, -, -, -, p11, p12, -⟩ := S.pl hc
                      have h1 := (p12 (by rw [h47]; decide) (by rw [h47]; decide)).2.2.1
                      have h2 := mpop_3 (p11 (by rw [h47]; decide)).2.2.2.1
                      clear p11 p12
                      omega
                    obtain ⟨q, hq, e51, e9v, mm9, -, -, h38⟩ := (S.pl hc).reg (S.1.hl hc) S.1.tr.1 (by rw [h47]; decide) (by rw [h47]; decide)
                    rw [h50, (ofN (n := o) (by omega)).2] at e9v
                    clear h38
                    have lb := lkn_b (s := s) hρ4 hm
                    have eib : 12 * o + 4 * (m / 8) + (ρ + s) % 4 = 12 * o + lkn ρ m s := by show _ = 12 * o + (_ + _); omega
                    have hA' := hA
                    unfold FWB at hA'
                    rw [eib] at hA'
                    have S2 := (S1.1.opn (E' := fun y => y = c) (fun _ z => z.elim)).jn (J' := fun y => y = c) (fun y hy z _ => by subst z; exact nj)
                    have w3 := S2.way1 (i := 12 * o + lkn ρ m s) (ρ := ((ρ + s) % 4 + 1) % 4) hc ho (by omega) (by rw [k1 36 _ (by omega)]; exact hA') hln (by omega)
                    obtain ⟨S5, K5, R5⟩ := w3
                    have n63 : t1 63 c = Int32.ofNat (v.2.2.1 (ri c)).length := (S1.1.hlv hc).1
                    refine c_aload rfl ?_
                    refine c_iload rfl ?_
                    refine c_iconst ?_
                    refine c_iload rfl ?_
                    refine c_bin (ofN_mul (1000) (o)) ?_
                    refine c_iconst ?_
                    refine c_iload rfl ?_
                    refine c_iconst ?_
                    refine c_idiv (ofN_div (a := m) (b := 8) (by omega) (by omega) (by omega)) ?_
                    refine c_bin (ofN_mul (4) ((m / 8))) ?_
                    refine c_bin (ofN_add ((1000 * o)) ((4 * (m / 8)))) ?_
                    refine c_aload rfl ?_
                    refine c_gfi (fun _ C _ => (C.f _).trans e48) ?_
                    refine c_bin (ofN_add (((1000 * o) + (4 * (m / 8)))) (((ρ + s) % 4))) ?_
                    refine d_callv mr_rs (show ED MR 100 [rf 8 1, .inl (Int32.ofNat c), .inl (Int32.ofNat (1000 * o + 4 * (m / 8) + (ρ + s) % 4))] _ ov (rseize t1 c (v.2.2.1 (ri c)).length (Int32.ofNat (cdo 36 (12 * o + lkn ρ m s)))) from by rw [cod_l hρ4 hm]; exact e100 hc n63 (by omega)) ?_
                    refine c_aload rfl ?_
                    refine c_gfr (fun _ C _ => C.ar (k := 25) (K := 43) (n := 3) (by decide)) ?_
                    refine c_iload rfl ?_
                    refine c_iload rfl ?_
                    refine c_if_eq (fun d10 => ?_) (fun d10 => ?_)
                    · skip
                      refine BC.blk c121_199 (fun m13 hm13 => ?_)
                      refine c_aload rfl ?_
                      refine c_gfi (fun _ C _ => (C.f _).trans ((rseize_k (by omega)).trans e48)) ?_
                      refine c_goto ?_
                      refine BC.blk c121_203 (fun m14 hm14 => ?_)
                      refine c_iconst ?_
                      refine c_bin (ofN_add (((ρ + s) % 4)) (1)) ?_
                      refine c_iconst ?_
                      refine c_irem (ofN_rem (a := (ρ + s) % 4 + 1) (b := 4) (by omega) (by omega) (by omega)) ?_
                      refine c_ast (fun _ C l9 i9 => C.sn (k := 25) (K := 43) (n := 3) (by decide) i9 (ofN (by omega)).2) (fun p1 => ?_)
                      refine c_aload rfl ?_
                      refine c_iload rfl ?_
                      refine c_iconst ?_
                      refine c_iload rfl ?_
                      refine c_bin (ofN_mul (1000) (o)) ?_
                      refine c_iconst ?_
                      refine c_bin (ofN_add ((1000 * o)) (30)) ?_
                      refine c_aload rfl ?_
                      refine c_gfr (fun _ C _ => C.ar (k := 33) (K := 51) (n := 72) (by decide)) ?_
                      refine c_iload rfl ?_
                      refine c_ald (fun _ C l9 i9 => (fun z => ⟨z.1, z.2.trans ((K5.2.2.2 51 _ (by omega) (by decide)).trans ((k1 51 _ (by omega)).trans e51))⟩) (C.an (k := 33) (K := 51) (n := 72) (by decide) i9 (ofN (by omega)).2)) (fun p2 => ?_)
                      refine c_bin (ofN_add (((1000 * o) + 30)) (q)) ?_
                      rw [cod3 hq]
                      refine c_callv mr_rs (e101 hc (S5.hlv hc) (S5.h16 hc)) (fun w t2 p => ?_) (fun k t2 p => by cases p.1)
                      obtain ⟨e9, hre⟩ := p
                      cases e9
                      refine c_aload rfl ?_
                      refine c_gfr (fun _ C _ => C.ar (k := 29) (K := 47) (n := 72) (by decide)) ?_
                      refine c_iload rfl ?_
                      refine c_iconst ?_
                      refine c_ast (fun _ C l9 i9 => C.sn (k := 29) (K := 47) (n := 72) (by decide) i9 (ofN (by omega)).2) (fun p3 => ?_)
                      refine c_aload rfl ?_
                      refine c_gfr (fun _ C _ => C.ar (k := 39) (K := 57) (n := 72) (by decide)) ?_
                      refine c_iload rfl ?_
                      refine c_iconst ?_
                      refine c_iload rfl ?_
                      refine c_bin (ofN_mul (24) (o)) ?_
                      refine c_iload rfl ?_
                      refine c_bin (ofN_add ((24 * o)) (m)) ?_
                      refine c_ast (fun _ C l9 i9 => C.sn (k := 39) (K := 57) (n := 72) (by decide) i9 (ofN (by omega)).2) (fun p4 => ?_)
                      refine c_aload rfl ?_
                      refine c_gfr (fun _ C _ => C.ar (k := 9) (K := 28) (n := 72) (by decide)) ?_
                      refine c_aload rfl ?_
                      refine c_gfr (fun _ C _ => C.ar (k := 39) (K := 57) (n := 72) (by decide)) ?_
                      refine c_iload rfl ?_
                      refine c_ald (fun _ C l9 i9 => (fun z => ⟨z.1, z.2.trans (u2_eq)⟩) (C.an (k := 39) (K := 57) (n := 72) (by decide) i9 (ofN (by omega)).2)) (fun p5 => ?_)
                      refine c_iload rfl ?_
                      refine c_ast (fun _ C l9 i9 => C.sn (k := 9) (K := 28) (n := 72) (by decide) i9 (ofN (by omega)).2) (fun p6 => ?_)
                      have e8 : ∀ i, (i ≠ 47 ∧ i ≠ 48) → t2 8 i = F 8 i := fun i hi => (hre.k (by omega)).trans ((u2_ne (by decide)).trans ((rseize_k (by omega)).trans (k1 8 i (Or.inr hi))))
                      have eR := vcw_b1 (own_n hc ho hco) (by omega) (wayB1 S.1 ho hρ hρ4 hm hs hA hA1)
                      rw [lkn_m, cod_L hρ4 hm] at eR
                      have SR := S5.rel (K := 38) (i := 3 * o + q) hc rfl (by unfold slo; omega) (by rw [R5, ← e9v]; exact List.mem_append_left _ mm9) hre
                      have KT : KP v F v t1 := ⟨fun _ => rfl, fun _ => rfl, fun _ _ _ => rfl, fun K i _ h => k1 K i (Or.inl h)⟩
                      have RG := KP.ring S SR ((KT.tr K5).tr (KP.rel hre)) hc (by omega) h47 d2n.1 d2n.2.1 d2n.2.2
                      refine c_ret ⟨rfl, ?_, fun i hi => e8 i (by omega)⟩
                      rw [vcall_4 S ho hu hm hf d2n, eR, if_neg (fun z => absurd (show (1 : Int32) = 0 from z) (by decide))]
                      unfold vring
                      rw [show ∀ W : vS, ((1 : Int32), W).2 = W from fun _ => rfl, K5.1 9, e9v]
                      exact RG
                    · exact absurd d10 (by decide)
                  · exact absurd d9 (by decide)
                · exact absurd d8 (by decide)
              · skip
                refine c_goto ?_
                refine BC.blk c121_101 (fun m15 hm15 => ?_)
                have hA0 := hA.elim (fun z => z.2) (fun z => absurd (z.1.symm.trans d7) (by decide))
                rw [hA0.1]
                refine c_aload rfl ?_
                refine c_iload rfl ?_
                refine c_iconst ?_
                refine c_callv mr_rs (e105 hc (S.1.hlv hc) (S.1.h16 hc) S.1.hjv) (fun w t1 p => ?_) (fun k t1 p => by cases p.1)
                obtain ⟨e9, ⟨t2, hen, rfl⟩⟩ := p
                cases e9
                have e8 : ∀ i, x_u2 (x_u2 t2 57 c (-1)) 23 c 4 8 i = F 8 i := fun i => by rw [u2_ne (by decide), u2_ne (by decide), hen.k (by omega)]
                refine c_ret ⟨rfl, ?_, fun i _ => e8 i⟩
                rw [vcall_4 S ho hu hm hf d2n, vcw_b0 (own_n hc ho hco) (wayB0 S.1 ho hρ hρ4 hm hA0.2), if_pos rfl]
                exact S.fail hc (by rw [h47]; decide) (by rw [h47]; decide) hen
            · exact absurd d6 (by decide)
        · exact absurd d4 (by decide)
      · skip
        exact absurd (ofN_inj (by omega) (by omega) d3) hco
    · skip
      have d2n := b2i0.mp d2
      rw [(ofN (n := 24 * o + m) (by omega)).2] at d2n
      refine c_aload rfl ?_
      refine c_iload rfl ?_
      refine c_iconst ?_
      refine c_callv mr_rs (e105 hc (S.1.hlv hc) (S.1.h16 hc) S.1.hjv) (fun w t1 p => ?_) (fun k t1 p => by cases p.1)
      obtain ⟨e9, ⟨t2, hen, rfl⟩⟩ := p
      cases e9
      have e8 : ∀ i, x_u2 (x_u2 t2 57 c (-1)) 23 c 3 8 i = F 8 i := fun i => by rw [u2_ne (by decide), u2_ne (by decide), hen.k (by omega)]
      refine c_ret ⟨rfl, ?_, fun i _ => e8 i⟩
      rw [vcall_3 S ho hu hm hf, if_pos (Bool.eq_false_iff.mpr (fun z => d2n ((S.frf (by omega)).mp z)))]
      exact S.fail hc (by rw [h47]; decide) (by rw [h47]; decide) hen
  · skip
    refine c_aload rfl ?_
    refine c_iload rfl ?_
    refine c_iconst ?_
    refine c_callv mr_rs (e105 hc (S.1.hlv hc) (S.1.h16 hc) S.1.hjv) (fun w t1 p => ?_) (fun k t1 p => by cases p.1)
    obtain ⟨e9, ⟨t2, hen, rfl⟩⟩ := p
    cases e9
    have e8 : ∀ i, x_u2 (x_u2 t2 57 c (-1)) 23 c 5 8 i = F 8 i := fun i => by rw [u2_ne (by decide), u2_ne (by decide), hen.k (by omega)]
    refine c_ret ⟨rfl, ?_, fun i _ => e8 i⟩
    rw [vcall, if_pos (show isl x = false from decide_eq_false (by omega))]
    exact S.fail hc (by rw [h47]; decide) (by rw [h47]; decide) hen
