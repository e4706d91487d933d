/-! SOUND INSTRUCTIONS: new int[n][k] -/
theorem x_newa_ad {h : xH} {K n : Nat} : x_ad (x_newa h K n) K (x_cn h K + 1) = x_sz h := by
  show x_u2 (x_ad h) K (x_cn h K + 1) (x_sz h) K (x_cn h K + 1) = _
  unfold x_u2
  rw [if_pos ⟨rfl, rfl⟩]
theorem x_fill_cn {h : xH} {K K' j c k : Nat} (hne : K ≠ K') : ∀ i, x_cn (x_fill h K K' j c k i) K' = x_cn h K' + i ∧ (∀ T, T ≠ K' → x_cn (x_fill h K K' j c k i) T = x_cn h T)
  | 0 => ⟨rfl, fun _ _ => rfl⟩
  | i + 1 => by
    obtain ⟨a, b⟩ := x_fill_cn (h := h) (j := j) (c := c) (k := k) hne i
    refine ⟨?_, fun T hT => ?_⟩
    · show (if K' = K' then x_cn (x_fill h K K' j c k i) K' + 1 else _) = _
      rw [if_pos rfl, a]; omega
    · show (if T = K' then x_cn (x_fill h K K' j c k i) K' + 1 else x_cn (x_fill h K K' j c k i) T) = _
      rw [if_neg hT, b T hT]
theorem x_fill_ad {h : xH} {K K' j c k : Nat} (hne : K ≠ K') : ∀ i, x_ad (x_fill h K K' j c k i) K = x_ad h K ∧ x_sz (x_fill h K K' j c k i) = x_sz h + i ∧ x_ln (x_fill h K K' j c k i) K = x_ln h K ∧ x_ce (x_fill h K K' j c k i) = x_ce h + i ∧ x_so (x_fill h K K' j c k i) = x_so h + i * k
  | 0 => ⟨rfl, rfl, rfl, rfl, by show x_so h = _; omega⟩
  | i + 1 => by
    obtain ⟨a, b, d, e, f⟩ := x_fill_ad (h := h) (j := j) (c := c) (k := k) hne i
    refine ⟨?_, ?_, ?_, ?_, ?_⟩
    · funext q
      show (if K = K' ∧ q = _ then _ else x_ad (x_fill h K K' j c k i) K q) = _
      rw [if_neg (fun z => hne z.1), a]
    · show x_sz (x_fill h K K' j c k i) + 1 = _
      omega
    · funext q
      show (if K = K' ∧ q = _ then _ else x_ln (x_fill h K K' j c k i) K q) = _
      rw [if_neg (fun z => hne z.1), d]
    · show x_ce (x_fill h K K' j c k i) + 1 = _
      omega
    · show x_so (x_fill h K K' j c k i) + k = _
      rw [f, Nat.succ_mul]; omega
theorem x_fill_le {h : xH} {K K' j c k : Nat} (h10 : K' ≠ 10) : ∀ i, x_le h (x_fill h K K' j c k i)
  | 0 => x_le.rf
  | i + 1 => ((x_fill_le h10 i).tr (x_le.newa h10)).tr x_le.putr
theorem x_fill_rep {n0 : Nat} {oa : Nat → Nat → Nat} {D : (Nat → ClassId) × (Nat → Nat → Nat) × (Nat → ClassId)} {h : xH} {T : State} {K K' N k : Nat} (hK : xk_a K) (hK' : xk_a K') (hne : K ≠ K') (h21 : K ≠ 21) (h21' : K' ≠ 21) (he : x_et K = K') (he' : x_et K' = 0) (hR : x_Rep n0 oa D h T.heap) :
    ∀ i : Nat, i ≤ N → x_Rep n0 oa D (x_fill (x_newa h K N) K K' (x_cn h K + 1) (x_cn h K') k i) (Jvm.Free.Multi.fill T (D.2.2 K) (D.2.2 K') N k (.int 0) i).heap
  | 0, _ => by
    refine (x_newa_done hR hK h21 (v := .null) (Or.inr ⟨?_, rfl⟩) ?_ ?_ ?_).1
    · rw [he]; simp only [xk_a] at hK'; omega
    · show (T.pushCell _).heap[T.heap.size]? = _
      rw [State.heap_pushCell_size, ← arrV_new]
      rfl
    · exact size_pushCell _ _
    · intro q hq
      exact State.heap_pushCell_of_lt _ _ hq
  | i + 1, hi => by
    have ih := x_fill_rep (N := N) (k := k) hK hK' hne h21 h21' he he' hR i (by omega)
    obtain ⟨f1, f2, -, -⟩ := Jvm.Free.Multi.fill_facts T (D.2.2 K) (D.2.2 K') N k (.int 0) i
    generalize hF : Jvm.Free.Multi.fill T (D.2.2 K) (D.2.2 K') N k (.int 0) i = F at ih f1 f2
    generalize hg : x_fill (x_newa h K N) K K' (x_cn h K + 1) (x_cn h K') k i = g at ih
    have hcn := x_fill_cn (h := x_newa h K N) (j := x_cn h K + 1) (c := x_cn h K') (k := k) hne i
    have had := x_fill_ad (h := x_newa h K N) (j := x_cn h K + 1) (c := x_cn h K') (k := k) hne i
    rw [hg] at hcn had
    have c1 : x_cn g K' = x_cn h K' + i := by rw [hcn.1]; show (if K' = K then _ else x_cn h K') + i = _; rw [if_neg (fun z => hne z.symm)]
    have c2 : x_cn g K = x_cn h K + 1 := by rw [hcn.2 K hne]; show (if K = K then x_cn h K + 1 else _) = _; rw [if_pos rfl]
    have c3 : x_ad g K (x_cn h K + 1) = x_sz h := by rw [had.1]; show (if K = K ∧ x_cn h K + 1 = x_cn h K + 1 then x_sz h else _) = _; rw [if_pos ⟨rfl, rfl⟩]
    have z0 : T.heap.size = n0 + x_sz h := hR.1
    have z1 : (F.pushCell (Jvm.Free.Multi.innerC (D.2.2 K') k (.int 0))).heap.size = F.heap.size + 1 := size_pushCell _ _
    have o1 : ∀ q, q < F.heap.size → (F.pushCell (Jvm.Free.Multi.innerC (D.2.2 K') k (.int 0))).heap[q]? = F.heap[q]? := fun q hq => State.heap_pushCell_of_lt _ _ hq
    obtain ⟨hR1, hlv, e9⟩ := x_newa_done (K := K') (n := k) ih hK' h21' (v := .int 0) (Or.inl ⟨he', rfl⟩) (by rw [State.heap_pushCell_size, ← arrV_new]; try rfl) z1 o1
    have hlK : x_live (x_newa g K' k) K (x_cn h K + 1) := by
      refine ⟨by omega, ?_⟩
      show x_cn h K + 1 ≤ (if K = K' then _ else x_cn g K)
      rw [if_neg hne, c2]
      exact Nat.le_refl _
    have a3 : x_ad (x_newa g K' k) K (x_cn h K + 1) = x_sz h := by
      show (if K = K' ∧ x_cn h K + 1 = x_cn g K' + 1 then _ else x_ad g K (x_cn h K + 1)) = _
      rw [if_neg (fun z => hne z.1), c3]
    have hcell := (hR1.2.2.1 K (x_cn h K + 1) hK hlK).2
    rw [a3, ← z0, o1 _ (by omega), f2] at hcell
    have hout := Option.some.inj hcell
    show x_Rep n0 oa D (x_putr (x_newa (x_fill (x_newa h K N) K K' (x_cn h K + 1) (x_cn h K') k i) K' k) K (x_cn h K + 1) i (x_cn h K' + i + 1)) (((Jvm.Free.Multi.fill T (D.2.2 K) (D.2.2 K') N k (.int 0) i).pushCell (Jvm.Free.Multi.innerC (D.2.2 K') k (.int 0))).setCell T.heap.size ((Jvm.Free.Multi.outerC (D.2.2 K) N T.heap.size i).setSlot i (.ref (T.heap.size + 1 + i)))).heap
    rw [hF, hg]
    have hT0 : x_et K ≠ 0 := by rw [he]; simp only [xk_a] at hK'; omega
    refine x_stored (v := .ref (T.heap.size + 1 + i)) (i := i) hR1 hK hlK rfl rfl rfl rfl (fun K9 k9 j9 ho => x_cf_putr (fun z => x_o_ne_a ho hK z.1.symm)) (fun K9 j9 i9 _ _ z => x_ae_putr z) ?_ ?_ ?_ ?_ ?_ ?_
    · unfold x_ae
      rw [if_neg h21, if_neg hT0, he]
      show x_cr n0 oa (x_newa g K' k) K' (x_u3 (x_vr (x_newa g K' k)) K (x_cn h K + 1) i (x_cn h K' + i + 1) K (x_cn h K + 1) i) = _
      unfold x_u3
      rw [if_pos ⟨rfl, rfl, rfl⟩, ← c1, e9, f1]
    · intro K9 j9 k9 a9 b9
      show x_u3 _ K _ i _ K9 k9 j9 ≤ _
      unfold x_u3
      rw [if_neg (fun z => x_o_ne_a a9 hK z.1.symm)]
      exact hR1.2.2.2.2.1 K9 j9 k9 a9 b9
    · intro K9 j9 i9 a9 b9
      show x_u3 _ K _ i _ K9 j9 i9 ≤ _
      unfold x_u3
      by_cases z : K9 = K ∧ j9 = x_cn h K + 1 ∧ i9 = i
      · rw [if_pos z, z.1, he, ← c1]; exact hlv.2
      · rw [if_neg z]; exact hR1.2.2.2.2.2.1 K9 j9 i9 a9 b9
    · rw [a3, ← z0, ← hout]
      have hlt9 : T.heap.size < (F.pushCell (Jvm.Free.Multi.innerC (D.2.2 K') k (.int 0))).heap.size := by rw [z1, f1]; omega
      exact heapAt_setCell_self _ hlt9
    · exact size_setCell _ _ _
    · intro q hq
      rw [a3, ← z0] at hq
      exact heapAt_setCell_ne _ (Ne.symm hq)
section XS6
variable {xm : Nat → xM} {M : xM} {pc : Nat}
theorem snd_newm {idx bc bs : Nat} (hbc : bc = M.mc) (hbs : bs = M.ms) (hc1 : Cond.classLink M.own idx "[[I" ∈ x_big) (hc3 : Cond.arrayClass .int ∈ x_big) (hd : decode M.cd pc = .ok (.multianewarray idx 2, 4)) : x_Snd xm M pc (pc + 4) (x_newm 14 15 bc bs) := by
  rintro n0 oa D p l e R s m args below meth c Γ Z J q h0 ⟨ls, st, h⟩ C - hf hq - H locs fl hR hle hL h1 h2 hS hc hs
  obtain ⟨hx, hb, -, hown, hts, -, -, -, -, hKn, hSt, -, hRm, -⟩ := C
  unfold x_newm at hf
  dsimp only at hf hR hle hL h1 h2 hc hs ⊢
  split at hf
  · rename_i k n st
    obtain ⟨n1, n2, k1, k2, b1, b2, hf⟩ := hf
    subst hbc; subst hbs; subst hRm
    have hn := x_clamp n1
    have hk := x_clamp k1
    have h14 : xk_a 14 := ⟨by decide, by decide⟩
    have h15 : xk_a 15 := ⟨by decide, by decide⟩
    intro T hT X
    obtain ⟨vm₁, cA, comp, hW, fA, fC, hO, hI, X', step⟩ := X.multianewarray2F hx (ty := .int) hown (hts _ hc1) hSt.2.2.2.2.2.2.2.2.2.2 (hts _ hc3) (g := F0 m pc fl (.int k :: .int n :: st.map (x_cv n0 oa h))) rfl (by rw [hb]; exact hd) rfl (x_nn n1) (x_nn k1) (by omega) (by show _ * 4 ≤ _; omega) (by omega) rfl rfl (by show _ ≤ M.mc; omega) (by show _ ≤ M.ms; omega)
    have eA : cA = D.2.2 14 := Option.some.inj (fA.symm.trans (hKn.2 14 h14).2)
    have eC : comp = D.2.2 15 := Option.some.inj (fC.symm.trans (hKn.2 15 h15).2)
    subst eA; subst eC
    have hRT : x_Rep n0 oa D h (T.setVm vm₁).heap := by show x_Rep n0 oa D h T.heap; rw [hT]; exact hR
    have hR1 := x_fill_rep (T := T.setVm vm₁) (N := n.toNatClampNeg) (k := k.toNatClampNeg) h14 h15 (by decide) (by decide) (by decide) rfl rfl hRT n.toNatClampNeg (Nat.le_refl _)
    have hl0 := x_le.newa (h := h) (K := 14) (n := n.toNatClampNeg) (by decide)
    have hl := hl0.tr (x_fill_le (h := x_newa h 14 n.toNatClampNeg) (K := 14) (K' := 15) (j := x_cn h 14 + 1) (c := x_cn h 15) (k := k.toNatClampNeg) (by decide) n.toNatClampNeg)
    obtain ⟨f1, -, -, -⟩ := Jvm.Free.Multi.fill_facts (T.setVm vm₁) (D.2.2 14) (D.2.2 15) n.toNatClampNeg k.toNatClampNeg (.int 0) n.toNatClampNeg
    have hold : ∀ x : Nat, x < H.size → (Jvm.Free.Multi.fill (T.setVm vm₁) (D.2.2 14) (D.2.2 15) n.toNatClampNeg k.toNatClampNeg (.int 0) n.toNatClampNeg).heap[x]? = H[x]? := fun x hx => by
      have := Jvm.Free.Multi.fill_old (T.setVm vm₁) (D.2.2 14) (D.2.2 15) n.toNatClampNeg k.toNatClampNeg (.int 0) (a := x) (by show x < T.heap.size; rw [hT]; exact hx) n.toNatClampNeg
      rw [this]
      show T.heap[x]? = _
      rw [hT]
    have hcn := x_fill_cn (h := x_newa h 14 n.toNatClampNeg) (K := 14) (K' := 15) (j := x_cn h 14 + 1) (c := x_cn h 15) (k := k.toNatClampNeg) (by decide) n.toNatClampNeg
    have had := x_fill_ad (h := x_newa h 14 n.toNatClampNeg) (K := 14) (K' := 15) (j := x_cn h 14 + 1) (c := x_cn h 15) (k := k.toNatClampNeg) (by decide) n.toNatClampNeg
    have hlv : x_live (x_fill (x_newa h 14 n.toNatClampNeg) 14 15 (x_cn h 14 + 1) (x_cn h 15) k.toNatClampNeg n.toNatClampNeg) 14 (x_cn h 14 + 1) := by
      refine ⟨by omega, ?_⟩
      rw [hcn.2 14 (by decide)]
      rw [x_newa_cn, if_pos rfl]
      exact Nat.le_refl _
    have hz : T.heap.size = n0 + x_sz h := by rw [hT]; exact hR.1
    have e9 : x_cr n0 oa (x_fill (x_newa h 14 n.toNatClampNeg) 14 15 (x_cn h 14 + 1) (x_cn h 15) k.toNatClampNeg n.toNatClampNeg) 14 (x_cn h 14 + 1) = .ref T.heap.size := by
      rw [x_cr_in (Or.inr h14) hlv, had.1, x_newa_ad, hz]
    have q1 : x_ce (x_fill (x_newa h 14 n.toNatClampNeg) 14 15 (x_cn h 14 + 1) (x_cn h 15) k.toNatClampNeg n.toNatClampNeg) = x_ce h + 1 + n.toNatClampNeg := had.2.2.2.1
    have q2 : x_so (x_fill (x_newa h 14 n.toNatClampNeg) 14 15 (x_cn h 14 + 1) (x_cn h 15) k.toNatClampNeg n.toNatClampNeg) = x_so h + n.toNatClampNeg + n.toNatClampNeg * k.toNatClampNeg := had.2.2.2.2
    have fsz : H.size ≤ (Jvm.Free.Multi.fill (T.setVm vm₁) (D.2.2 14) (D.2.2 15) n.toNatClampNeg k.toNatClampNeg (.int 0) n.toNatClampNeg).heap.size := by rw [f1, ← hT]; show T.heap.size ≤ T.heap.size + 1 + _; omega
    have := hq _ hf _ locs fl hR1 (hle.tr hl) (hL.le hl h1) (x_lvs_le hl h1) (x_lvs_cons hlv.2 (x_lvs_le hl (x_tl (x_tl h2)))) (x_S_grow hS fsz hold) (by rw [q1]; exact b1) (by rw [q2]; exact b2)
    dsimp only at this
    rw [List.map_cons, show x_cv n0 oa _ (.inr (.inr (14, x_cn h 14 + 1))) = _ from e9, x_cvs_le hl (x_tl (x_tl h2)), q1, q2] at this
    obtain ⟨t2, c1, c2⟩ := this _ rfl X'
    exact ⟨t2, step t2 c1, c2⟩
  · exact hf.elim
end XS6
