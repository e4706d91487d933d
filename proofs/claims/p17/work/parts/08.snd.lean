/-! SOUND INSTRUCTIONS: arrays, new cells -/
/-- one cell more -/
theorem x_Rep.grow {n0 : Nat} {oa : Nat → Nat → Nat} {D : (Nat → ClassId) × (Nat → Nat → Nat) × (Nat → ClassId)} {h h' : xH} {H H1 : Heap} (hR : x_Rep n0 oa D h H) {K : Nat} (hK : xk_o K ∨ xk_a K) (hle : x_le h h')
    (c1 : ∀ K', x_cn h' K' = if K' = K then x_cn h K + 1 else x_cn h K') (c2 : x_ad h' K (x_cn h K + 1) = x_sz h) (c3 : x_sz h' = x_sz h + 1) (c4 : ∀ K' j', x_live h K' j' → x_ln h' K' j' = x_ln h K' j')
    (v1 : ∀ K' k j', xk_o K' → x_live h K' j' → x_vi h' K' k j' = x_vi h K' k j' ∧ x_vr h' K' k j' = x_vr h K' k j') (v2 : ∀ K' j' i, xk_a K' → x_live h K' j' → x_vi h' K' j' i = x_vi h K' j' i ∧ x_vr h' K' j' i = x_vr h K' j' i)
    (v3 : ∀ j, x_live h 21 j → x_lg h' = x_lg h) (z1 : H1.size = H.size + 1) (o1 : ∀ q, q < H.size → H1[q]? = H[q]?)
    (g1 : xk_o K → t_OB (n0 + x_sz h) (D.1 K) (xk_N K) (D.2.1 K) H1 (fun k => x_cf n0 oa h' K k (x_cn h K + 1))) (g2 : xk_a K → H1[n0 + x_sz h]? = some (arrV (D.2.2 K) (x_ln h' K (x_cn h K + 1)) (fun i => x_ae n0 oa h' K (x_cn h K + 1) i)))
    (w1 : xk_o K → ∀ k, x_vr h' K k (x_cn h K + 1) = 0) (w2 : xk_a K → ∀ i, x_vr h' K (x_cn h K + 1) i = 0) : x_Rep n0 oa D h' H1 := by
  obtain ⟨a1, a2, a3, a4, a5, a6, a7⟩ := hR
  have hsp : ∀ K' j', x_live h' K' j' → x_live h K' j' ∨ (K' = K ∧ j' = x_cn h K + 1) := by
    intro K' j' ⟨q1, q2⟩
    rw [c1] at q2
    by_cases e : K' = K
    · rw [if_pos e] at q2
      by_cases e2 : j' = x_cn h K + 1
      · exact Or.inr ⟨e, e2⟩
      · exact Or.inl ⟨q1, by rw [e]; omega⟩
    · rw [if_neg e] at q2
      exact Or.inl ⟨q1, q2⟩
  have hcf : ∀ K' k j', xk_o K' → x_live h K' j' → x_cf n0 oa h' K' k j' = x_cf n0 oa h K' k j' := by
    intro K' k j' hk hj
    unfold x_cf
    rw [(v1 K' k j' hk hj).1, (v1 K' k j' hk hj).2, x_cr_le hle (a5 K' j' k hk hj)]
  have hae : ∀ K' j' i, xk_a K' → x_live h K' j' → x_ae n0 oa h' K' j' i = x_ae n0 oa h K' j' i := by
    intro K' j' i hk hj
    unfold x_ae
    rw [(v2 K' j' i hk hj).1, (v2 K' j' i hk hj).2, x_cr_le hle (a6 K' j' i hk hj)]
    by_cases e : K' = 21
    · subst e
      rw [v3 j' hj]
    · rw [if_neg e, if_neg e]
  have had : ∀ K' j', x_live h K' j' → x_ad h' K' j' = x_ad h K' j' := fun K' j' hj => hle.2.1 K' j' hj.2
  have hlt : ∀ K' j', (xk_o K' ∨ xk_a K') → x_live h K' j' → x_ad h K' j' < x_sz h := fun K' j' hk hj => hk.elim (fun hk => (a2 K' j' hk hj).1) (fun hk => (a3 K' j' hk hj).1)
  refine ⟨by rw [z1, a1, c3]; omega, fun K' j' hk hj => ?_, fun K' j' hk hj => ?_, fun K1 j1 K2 j2 b1 b2 b3 b4 b5 => ?_, fun K' j' k hk hj => ?_, fun K' j' i hk hj => ?_, ?_⟩
  · rcases hsp _ _ hj with hj | ⟨rfl, rfl⟩
    · have q := a2 K' j' hk hj
      rw [had _ _ hj, c3]
      exact ⟨by omega, t_OB.to (q.2.kept (o1 _ (by omega))) (fun k _ => (hcf K' k j' hk hj).symm)⟩
    · rw [c2, c3]
      exact ⟨by omega, g1 hk⟩
  · rcases hsp _ _ hj with hj | ⟨rfl, rfl⟩
    · have q := a3 K' j' hk hj
      rw [had _ _ hj, c3, c4 _ _ hj, o1 _ (by omega), q.2]
      exact ⟨by omega, congrArg some (congrArg (arrV _ _) (funext fun i => (hae K' j' i hk hj).symm))⟩
    · rw [c2, c3]
      exact ⟨by omega, g2 hk⟩
  · rcases hsp _ _ b3 with q1 | ⟨rfl, rfl⟩ <;> rcases hsp _ _ b4 with q2 | ⟨q3, q4⟩
    · rw [had _ _ q1, had _ _ q2] at b5
      exact a4 K1 j1 K2 j2 b1 b2 q1 q2 b5
    · subst q3; subst q4
      rw [had _ _ q1, c2] at b5
      have := hlt _ _ b1 q1
      omega
    · rw [had _ _ q2, c2] at b5
      have := hlt _ _ b2 q2
      omega
    · subst q3; subst q4
      exact ⟨rfl, rfl⟩
  · rcases hsp _ _ hj with hj | ⟨rfl, rfl⟩
    · rw [(v1 K' k j' hk hj).2]
      exact Nat.le_trans (a5 K' j' k hk hj) (hle.1 _)
    · rw [w1 hk]; exact Nat.zero_le _
  · rcases hsp _ _ hj with hj | ⟨rfl, rfl⟩
    · rw [(v2 K' j' i hk hj).2]
      exact Nat.le_trans (a6 K' j' i hk hj) (hle.1 _)
    · rw [w2 hk]; exact Nat.zero_le _
  · rw [c1, if_neg, a7]
    rintro rfl
    rcases hK with hK | hK <;> (simp only [xk_o, xk_a] at hK; omega)
theorem x_new_cn {h : xH} {K N : Nat} (K' : Nat) : x_cn (x_new h K N) K' = if K' = K then x_cn h K + 1 else x_cn h K' := rfl
theorem x_newa_cn {h : xH} {K n : Nat} (K' : Nat) : x_cn (x_newa h K n) K' = if K' = K then x_cn h K + 1 else x_cn h K' := rfl
theorem x_live_ne {h : xH} {K K' j' : Nat} (hj : x_live h K' j') : ¬ (K' = K ∧ j' = x_cn h K + 1) := by
  rintro ⟨rfl, rfl⟩
  have := hj.2
  omega
theorem x_Rep.new {n0 : Nat} {oa : Nat → Nat → Nat} {D : (Nat → ClassId) × (Nat → Nat → Nat) × (Nat → ClassId)} {h : xH} {H H1 : Heap} (hR : x_Rep n0 oa D h H) {K N : Nat} (hK : xk_o K) (z1 : H1.size = H.size + 1) (o1 : ∀ q, q < H.size → H1[q]? = H[q]?)
    (g1 : t_OB H.size (D.1 K) (xk_N K) (D.2.1 K) H1 (fun k => x_cf n0 oa (x_new h K N) K k (x_cn h K + 1))) : x_Rep n0 oa D (x_new h K N) H1 := by
  refine hR.grow (Or.inl hK) (x_le.new (x_o_ne10 hK)) x_new_cn ?_ rfl (fun _ _ _ => rfl) (fun K' k j' _ hj => ⟨?_, ?_⟩) (fun K' j' i ha hj => ⟨?_, ?_⟩) (fun _ _ => rfl) z1 o1 (fun _ => by rw [← hR.1]; exact g1) (fun ha => absurd rfl (x_o_ne_a hK ha)) (fun _ k => ?_) (fun ha => absurd rfl (x_o_ne_a hK ha))
  · show x_u2 (x_ad h) K (x_cn h K + 1) (x_sz h) K (x_cn h K + 1) = x_sz h
    unfold x_u2; rw [if_pos ⟨rfl, rfl⟩]
  · exact if_neg (x_live_ne hj)
  · exact if_neg (x_live_ne hj)
  · exact if_neg (fun z => x_o_ne_a hK ha z.1)
  · exact if_neg (fun z => x_o_ne_a hK ha z.1)
  · exact if_pos ⟨rfl, rfl⟩
theorem x_Rep.newa {n0 : Nat} {oa : Nat → Nat → Nat} {D : (Nat → ClassId) × (Nat → Nat → Nat) × (Nat → ClassId)} {h : xH} {H H1 : Heap} (hR : x_Rep n0 oa D h H) {K n : Nat} (hK : xk_a K) (h21 : K = 21 → x_cn h 21 = 0) (z1 : H1.size = H.size + 1) (o1 : ∀ q, q < H.size → H1[q]? = H[q]?)
    (g2 : H1[H.size]? = some (arrV (D.2.2 K) n (fun i => x_ae n0 oa (x_newa h K n) K (x_cn h K + 1) i))) : x_Rep n0 oa D (x_newa h K n) H1 := by
  refine hR.grow (Or.inr hK) (x_le.newa (x_a_ne10 hK)) x_newa_cn ?_ rfl (fun K' j' hj => ?_) (fun K' k j' ho hj => ⟨?_, ?_⟩) (fun K' j' i ha hj => ⟨?_, ?_⟩) (fun j hj => ?_) z1 o1 (fun ho => absurd rfl (x_o_ne_a ho hK)) (fun _ => ?_) (fun ho => absurd rfl (x_o_ne_a ho hK)) (fun _ k => ?_)
  · show x_u2 (x_ad h) K (x_cn h K + 1) (x_sz h) K (x_cn h K + 1) = x_sz h
    unfold x_u2; rw [if_pos ⟨rfl, rfl⟩]
  · show x_u2 (x_ln h) K (x_cn h K + 1) n K' j' = x_ln h K' j'
    unfold x_u2; rw [if_neg (x_live_ne hj)]
  · exact if_neg (fun z => x_o_ne_a ho hK z.1.symm)
  · exact if_neg (fun z => x_o_ne_a ho hK z.1.symm)
  · exact if_neg (x_live_ne hj)
  · exact if_neg (x_live_ne hj)
  · show (if K = 21 then 0 else x_lg h) = x_lg h
    by_cases e : K = 21
    · have := h21 e
      have := hj.1
      have := hj.2
      omega
    · rw [if_neg e]
  · rw [← hR.1, g2]
    show _ = some (arrV _ (x_u2 (x_ln h) K (x_cn h K + 1) n K (x_cn h K + 1)) _)
    unfold x_u2; rw [if_pos ⟨rfl, rfl⟩]
  · exact if_pos ⟨rfl, rfl⟩
section XS3
variable {xm : Nat → xM} {M : xM} {pc : Nat}
theorem snd_ald {K : Nat} (hK : xk_a K) (hty : xk_ety K = .int) (he : x_et K = 0) (hn21 : K ≠ 21) (hd : decode M.cd pc = .ok (.iaload, 1)) : x_Snd xm M pc (pc + 1) (x_ald K) := by
  rintro n0 oa D p l e R s m args below meth c Γ Z J q h0 ⟨ls, st, h⟩ C - hf hq - H locs fl hR hle hL h1 h2 hS hc hs
  obtain ⟨hx, hb, -, -, -, -, -, -, -, hKn, -⟩ := C
  unfold x_ald at hf
  dsimp only at hf hR hle hL h1 h2 hc hs ⊢
  split at hf
  · rename_i i t j st
    obtain ⟨rfl, hj, hin, hf⟩ := hf
    obtain ⟨-, q2⟩ := hR.2.2.1 t j hK hj
    have hin' := vp_in_iff.mpr hin
    have hlt : i.toNatClampNeg < x_ln h t j := Nat.not_le.mp fun q => hin' (Or.inr q)
    rw [List.map_cons, List.map_cons, show x_cv n0 oa h (.inr (.inr (t, j))) = _ from x_cr_in (Or.inr hK) hj]
    refine W.iald (v := .int (x_vi h t j i.toNatClampNeg)) hx hb q2 (by have := (hKn.2 t hK).1; rw [hty] at this; exact this _ _) (fun q => by cases q) (by rw [arrV_size]; exact hin') (by rw [arrV_read _ _ hlt]; unfold x_ae; rw [if_neg hn21, if_pos he]) rfl rfl hd ?_
    exact hq _ hf H locs fl hR hle hL h1 (x_lvs_cons trivial (x_tl (x_tl h2))) hS hc hs
  · exact hf.elim
theorem snd_bald {K : Nat} (hK : xk_a K) (hty : xk_ety K = .boolean) (he : x_et K = 0) (hn21 : K ≠ 21) (hd : decode M.cd pc = .ok (.baload, 1)) : x_Snd xm M pc (pc + 1) (x_ald K) := by
  rintro n0 oa D p l e R s m args below meth c Γ Z J q h0 ⟨ls, st, h⟩ C - hf hq - H locs fl hR hle hL h1 h2 hS hc hs
  obtain ⟨hx, hb, -, -, -, -, -, -, -, hKn, -⟩ := C
  unfold x_ald at hf
  dsimp only at hf hR hle hL h1 h2 hc hs ⊢
  split at hf
  · rename_i i t j st
    obtain ⟨rfl, hj, hin, hf⟩ := hf
    obtain ⟨-, q2⟩ := hR.2.2.1 t j hK hj
    have hin' := vp_in_iff.mpr hin
    have hlt : i.toNatClampNeg < x_ln h t j := Nat.not_le.mp fun q => hin' (Or.inr q)
    rw [List.map_cons, List.map_cons, show x_cv n0 oa h (.inr (.inr (t, j))) = _ from x_cr_in (Or.inr hK) hj]
    refine W.zald (v := .int (x_vi h t j i.toNatClampNeg)) hx hb q2 (by have := (hKn.2 t hK).1; rw [hty] at this; exact this _ _) (fun q => by cases q) (by rw [arrV_size]; exact hin') (by rw [arrV_read _ _ hlt]; unfold x_ae; rw [if_neg hn21, if_pos he]) rfl rfl hd ?_
    exact hq _ hf H locs fl hR hle hL h1 (x_lvs_cons trivial (x_tl (x_tl h2))) hS hc hs
  · exact hf.elim
theorem snd_aald {K T : Nat} (hK : xk_a K) (hty : (xk_ety K).isReference = true) (he : x_et K = T) (hT : T ≠ 0) (hn21 : K ≠ 21) (hd : decode M.cd pc = .ok (.aaload, 1)) : x_Snd xm M pc (pc + 1) (x_aald K T) := by
  rintro n0 oa D p l e R s m args below meth c Γ Z J q h0 ⟨ls, st, h⟩ C - hf hq - H locs fl hR hle hL h1 h2 hS hc hs
  obtain ⟨hx, hb, -, -, -, -, -, -, -, hKn, -⟩ := C
  unfold x_aald at hf
  dsimp only at hf hR hle hL h1 h2 hc hs ⊢
  split at hf
  · rename_i i t j st
    obtain ⟨rfl, hj, hin, hf⟩ := hf
    obtain ⟨-, q2⟩ := hR.2.2.1 t j hK hj
    have hin' := vp_in_iff.mpr hin
    have hlt : i.toNatClampNeg < x_ln h t j := Nat.not_le.mp fun q => hin' (Or.inr q)
    rw [List.map_cons, List.map_cons, show x_cv n0 oa h (.inr (.inr (t, j))) = _ from x_cr_in (Or.inr hK) hj]
    refine W.aald (v := x_cr n0 oa h T (x_vr h t j i.toNatClampNeg)) (ty := xk_ety t) hx hb q2 ((hKn.2 t hK).1 _ _) hty (fun q => by cases q) (by rw [arrV_size]; exact hin') (by rw [arrV_read _ _ hlt]; unfold x_ae; rw [if_neg hn21, if_neg (by rw [he]; exact hT), he]) rfl rfl hd ?_
    have hl := hR.2.2.2.2.2.1 t j i.toNatClampNeg hK hj
    rw [he] at hl
    exact hq _ hf H locs fl hR hle hL h1 (x_lvs_cons hl (x_tl (x_tl h2))) hS hc hs
  · exact hf.elim
theorem snd_alen {K : Nat} (hK : xk_a K) (hd : decode M.cd pc = .ok (.arraylength, 1)) : x_Snd xm M pc (pc + 1) (x_alen K) := by
  rintro n0 oa D p l e R s m args below meth c Γ Z J q h0 ⟨ls, st, h⟩ C - hf hq - H locs fl hR hle hL h1 h2 hS hc hs
  obtain ⟨hx, hb, -, -, -, -, -, -, -, hKn, -⟩ := C
  unfold x_alen at hf
  dsimp only at hf hR hle hL h1 h2 hc hs ⊢
  split at hf
  · rename_i t j st
    obtain ⟨rfl, hj, hf⟩ := hf
    obtain ⟨-, q2⟩ := hR.2.2.1 t j hK hj
    rw [List.map_cons, show x_cv n0 oa h (.inr (.inr (t, j))) = _ from x_cr_in (Or.inr hK) hj]
    refine W.alen (n := Int32.ofNat (x_ln h t j)) hx hb q2 ((hKn.2 t hK).1 _ _) (by rw [arrV_size]) rfl rfl hd ?_
    exact hq _ hf H locs fl hR hle hL h1 (x_lvs_cons trivial (x_tl h2)) hS hc hs
  · exact hf.elim
/-- what an array's store leaves -/
theorem x_stored {n0 : Nat} {oa : Nat → Nat → Nat} {D : (Nat → ClassId) × (Nat → Nat → Nat) × (Nat → ClassId)} {h h' : xH} {H H' : Heap} {K j i : Nat} {v : Value} (hR : x_Rep n0 oa D h H) (hK : xk_a K) (hj : x_live h K j)
    (e1 : x_cn h' = x_cn h) (e2 : x_ln h' = x_ln h) (e3 : x_ad h' = x_ad h) (e4 : x_sz h' = x_sz h)
    (f1 : ∀ K' k' j', xk_o K' → x_cf n0 oa h' K' k' j' = x_cf n0 oa h K' k' j') (f2 : ∀ K' j' i', xk_a K' → x_live h K' j' → ¬ (K' = K ∧ j' = j ∧ i' = i) → x_ae n0 oa h' K' j' i' = x_ae n0 oa h K' j' i') (f0 : x_ae n0 oa h' K j i = v)
    (l1 : ∀ K j k, xk_o K → x_live h K j → x_vr h' K k j ≤ x_cn h (x_ft K k)) (l2 : ∀ K j i, xk_a K → x_live h K j → x_vr h' K j i ≤ x_cn h (x_et K))
    (g1 : H'[n0 + x_ad h K j]? = some ((arrV (D.2.2 K) (x_ln h K j) (fun i => x_ae n0 oa h K j i)).setSlot i v)) (g2 : H'.size = H.size) (g3 : ∀ q, q ≠ n0 + x_ad h K j → H'[q]? = H[q]?) : x_Rep n0 oa D h' H' := by
  refine hR.put (K := K) (j := j) e1 e2 e3 e4 (Or.inr hK) hj g2 g3 (fun K' k' j' a _ _ => f1 K' k' j' a) (fun K' j' i' a b z => f2 K' j' i' a b (fun y => z ⟨y.1, y.2.1⟩)) (fun ho => absurd rfl (x_o_ne_a ho hK)) (fun _ => ?_) l1 l2
  rw [g1, arrV_store]
  refine congrArg some (congrArg (arrV _ _) (funext fun i' => ?_))
  unfold updV
  by_cases e9 : i' = i
  · rw [if_pos e9, e9, f0]
  · rw [if_neg e9, f2 K j i' hK hj (fun z => e9 z.2.2)]
theorem x_ast0 {n0 : Nat} {oa : Nat → Nat → Nat} {D : (Nat → ClassId) × (Nat → Nat → Nat) × (Nat → ClassId)} {h : xH} {H H' : Heap} {K j i : Nat} {n : Int32} (hR : x_Rep n0 oa D h H) (hK : xk_a K) (he : x_et K = 0) (hn21 : K ≠ 21) (hj : x_live h K j)
    (g1 : H'[n0 + x_ad h K j]? = some ((arrV (D.2.2 K) (x_ln h K j) (fun i => x_ae n0 oa h K j i)).setSlot i (.int n))) (g2 : H'.size = H.size) (g3 : ∀ q, q ≠ n0 + x_ad h K j → H'[q]? = H[q]?) : x_Rep n0 oa D (x_puti h K j i n) H' := by
  refine x_stored hR hK hj rfl rfl rfl rfl (fun K' k' j' ho => x_cf_puti (fun z => x_o_ne_a ho hK z.1.symm)) (fun K' j' i' _ _ z => x_ae_puti z) ?_ (fun K j k a b => hR.2.2.2.2.1 K j k a b) (fun K j i a b => hR.2.2.2.2.2.1 K j i a b) g1 g2 g3
  unfold x_ae
  rw [if_neg hn21, if_pos he]
  show Value.int (x_u3 (x_vi h) K j i n K j i) = _
  unfold x_u3
  rw [if_pos ⟨rfl, rfl, rfl⟩]
theorem snd_ast {K : Nat} (hK : xk_a K) (hty : xk_ety K = .int) (he : x_et K = 0) (hn21 : K ≠ 21) (hd : decode M.cd pc = .ok (.iastore, 1)) : x_Snd xm M pc (pc + 1) (x_ast K) := by
  rintro n0 oa D p l e R s m args below meth c Γ Z J q h0 ⟨ls, st, h⟩ C - hf hq - H locs fl hR hle hL h1 h2 hS hc hs
  obtain ⟨hx, hb, -, -, -, -, -, -, -, hKn, -⟩ := C
  unfold x_ast at hf
  dsimp only at hf hR hle hL h1 h2 hc hs ⊢
  split at hf
  · rename_i n i t j st
    obtain ⟨rfl, hj, hin, hf⟩ := hf
    obtain ⟨-, q2⟩ := hR.2.2.1 t j hK hj
    have hin' := vp_in_iff.mpr hin
    rw [List.map_cons, List.map_cons, List.map_cons, show x_cv n0 oa h (.inr (.inr (t, j))) = _ from x_cr_in (Or.inr hK) hj]
    refine W.iast hx hb q2 (by have := (hKn.2 t hK).1; rw [hty] at this; exact this _ _) (fun q => by cases q) (by rw [arrV_size]; exact hin') rfl rfl hd fun H' g1 g2 g3 => ?_
    have hl := x_le.puti (h := h) (k := j) (i := i.toNatClampNeg) (v := n) (x_a_ne10 hK)
    exact hq _ hf H' _ fl (x_ast0 hR hK he hn21 hj g1 g2 g3) (hle.tr hl) (hL.le hl h1) (x_lvs_le hl h1) (x_lvs_le hl (x_tl (x_tl (x_tl h2)))) (hS.put g2 g3 (Nat.le_add_right _ _)) hc hs
  · exact hf.elim
theorem snd_zst {K : Nat} (hK : xk_a K) (hty : xk_ety K = .boolean) (he : x_et K = 0) (hn21 : K ≠ 21) (hd : decode M.cd pc = .ok (.bastore, 1)) : x_Snd xm M pc (pc + 1) (x_zst K) := by
  rintro n0 oa D p l e R s m args below meth c Γ Z J q h0 ⟨ls, st, h⟩ C - hf hq - H locs fl hR hle hL h1 h2 hS hc hs
  obtain ⟨hx, hb, -, -, -, -, -, -, -, hKn, -⟩ := C
  unfold x_zst at hf
  dsimp only at hf hR hle hL h1 h2 hc hs ⊢
  split at hf
  · rename_i n i t j st
    obtain ⟨rfl, hj, hin, hz, hf⟩ := hf
    obtain ⟨-, q2⟩ := hR.2.2.1 t j hK hj
    have hin' := vp_in_iff.mpr hin
    rw [List.map_cons, List.map_cons, List.map_cons, show x_cv n0 oa h (.inr (.inr (t, j))) = _ from x_cr_in (Or.inr hK) hj]
    refine W.zast hx hb q2 (by have := (hKn.2 t hK).1; rw [hty] at this; exact this _ _) (fun q => by cases q) (by rw [arrV_size]; exact hin') rfl rfl hd fun H' g1 g2 g3 => ?_
    have hl := x_le.puti (h := h) (k := j) (i := i.toNatClampNeg) (v := n) (x_a_ne10 hK)
    rw [show narrow .boolean (.int n) = .int n by rcases hz with rfl | rfl <;> rfl] at g1
    exact hq _ hf H' _ fl (x_ast0 hR hK he hn21 hj g1 g2 g3) (hle.tr hl) (hL.le hl h1) (x_lvs_le hl h1) (x_lvs_le hl (x_tl (x_tl (x_tl h2)))) (hS.put g2 g3 (Nat.le_add_right _ _)) hc hs
  · exact hf.elim
theorem snd_aast {K T : Nat} (hK : xk_a K) (hT : xk_o T) (hty : xk_ety K = .object (xk_C T)) (he : x_et K = T) (hn21 : K ≠ 21) (hd : decode M.cd pc = .ok (.aastore, 1)) : x_Snd xm M pc (pc + 1) (x_aast K T) := by
  rintro n0 oa D p l e R s m args below meth c Γ Z J q h0 ⟨ls, st, h⟩ C - hf hq - H locs fl hR hle hL h1 h2 hS hc hs
  obtain ⟨hx, hb, -, -, -, -, -, -, -, hKn, -⟩ := C
  unfold x_aast at hf
  dsimp only at hf hR hle hL h1 h2 hc hs ⊢
  split at hf
  · rename_i t' j' i t j st
    obtain ⟨rfl, rfl, hj, hin, hf⟩ := hf
    have hT0 : t' ≠ 0 := by simp only [xk_o] at hT; omega
    obtain ⟨-, q2⟩ := hR.2.2.1 t j hK hj
    have hin' := vp_in_iff.mpr hin
    have hlt : i.toNatClampNeg < x_ln h t j := Nat.not_le.mp fun q => hin' (Or.inr q)
    have hv2 : j' ≤ x_cn h t' := h2 _ List.mem_cons_self
    have hKt := hKn.2 t hK
    rw [hty] at hKt
    rw [List.map_cons, List.map_cons, List.map_cons, show x_cv n0 oa h (.inr (.inr (t, j))) = _ from x_cr_in (Or.inr hK) hj]
    have hl := x_le.putr (h := h) (K := t) (k := j) (i := i.toNatClampNeg) (v := j')
    have fin : ∀ H' : Heap, H'[n0 + x_ad h t j]? = some ((arrV (D.2.2 t) (x_ln h t j) (fun i => x_ae n0 oa h t j i)).setSlot i.toNatClampNeg (x_cr n0 oa h t' j')) → H'.size = H.size → (∀ q, q ≠ n0 + x_ad h t j → H'[q]? = H[q]?) →
        W p l e R s m args below meth c H' (locs ++ [⟨n0 + x_ad h t j, i.toNatClampNeg⟩]) (x_ce h) (x_so h) (x_MQ n0 oa D s args below M h0 Z) (F0 m (pc + 1) fl (st.map (x_cv n0 oa h))) := by
      intro H' g1 g2 g3
      refine hq _ hf H' _ fl (x_stored hR hK hj rfl rfl rfl rfl (fun K' k' j' ho => x_cf_putr (fun z => x_o_ne_a ho hK z.1.symm)) (fun K' j' i' _ _ z => x_ae_putr z) ?_ ?_ ?_ g1 g2 g3) (hle.tr hl) (hL.le hl h1) (x_lvs_le hl h1) (x_lvs_le hl (x_tl (x_tl (x_tl h2)))) (hS.put g2 g3 (Nat.le_add_right _ _)) hc hs
      · unfold x_ae
        rw [if_neg hn21, if_neg (by rw [he]; exact hT0), he]
        show x_cr n0 oa h t' (x_u3 (x_vr h) t j i.toNatClampNeg j' t j i.toNatClampNeg) = _
        unfold x_u3
        rw [if_pos ⟨rfl, rfl, rfl⟩]
      · intro K9 j9 k9 a9 b9
        show x_u3 (x_vr h) t j i.toNatClampNeg j' K9 k9 j9 ≤ _
        unfold x_u3
        rw [if_neg (fun z => x_o_ne_a a9 hK z.1.symm)]
        exact hR.2.2.2.2.1 K9 j9 k9 a9 b9
      · intro K9 j9 i9 a9 b9
        show x_u3 (x_vr h) t j i.toNatClampNeg j' K9 j9 i9 ≤ _
        unfold x_u3
        by_cases z : K9 = t ∧ j9 = j ∧ i9 = i.toNatClampNeg
        · rw [if_pos z, z.1, he]; exact hv2
        · rw [if_neg z]; exact hR.2.2.2.2.2.1 K9 j9 i9 a9 b9
    by_cases hz : j' = 0
    · have e9 : x_cr n0 oa h t' j' = .null := by unfold x_cr; rw [if_pos hz]
      rw [show x_cv n0 oa h (.inr (.inr (t', j'))) = .null from e9]
      rw [e9] at fin
      exact va_WaastN (C := xk_C t') hx hb q2 (hKt.1 _ _) (fun h => by cases h) (by rw [arrV_size]; exact hin') rfl rfl hd fin
    · have hlv : x_live h t' j' := ⟨by omega, hv2⟩
      have e9 : x_cr n0 oa h t' j' = .ref (n0 + x_ad h t' j') := x_cr_in (Or.inl hT) hlv
      rw [show x_cv n0 oa h (.inr (.inr (t', j'))) = _ from e9]
      rw [e9] at fin
      obtain ⟨-, cellV, p1, p2, p3, -⟩ := hR.2.1 t' j' hT hlv
      have hcls := (hKn.1 t' hT).2
      obtain ⟨kA, comp, k1, k2, k3, -⟩ := hKt.2
      have hcomp : comp = D.1 t' := Option.some.inj (k3.symm.trans hcls.1)
      subst hcomp
      obtain ⟨kC, hkC, -⟩ := hcls.2
      exact W.aast hx hb q2 (fun q h => by cases h) (fun h => by cases h) k1 k2 rfl hkC ⟨fun z => hin' (Or.inl z), by rw [arrV_size]; exact hlt⟩ p1 (fun q h => by rw [p3] at h; cases h) (by rw [p2]; exact hkC) (by rw [p2]; exact va_assign hcls) rfl rfl hd fin
  · exact hf.elim
end XS3
