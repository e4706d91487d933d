/-! NEW OBJECTS IN THE CLASS: trunks, routes with their rows -/
section XNE
variable {σ : Type} {R : σ → xH → Prop} {m μ nx : Nat} {r : List (Nat × xI)} {ls st : List xV} {s : σ} {G : xO → σ → Prop}
theorem c_newo {K N bc bs j : Nat} {s' : σ} (hv : ∀ h, R s h → R s' (x_new h K N) ∧ x_cn h K + 1 = j) (kk : TC R m μ r ls (.inr (.inr (K, j)) :: st) s' G) : TC R m μ ((nx, x_newo K N bc bs) :: r) ls st s G := by
  intro h C Z H
  obtain ⟨b1, b2, H⟩ := H
  obtain ⟨c1, c2⟩ := hv h C
  have H : x_seq r (xC m) Z (fun pc' S' => xR m μ pc' S' Z) (ls, .inr (.inr (K, x_cn h K + 1)) :: st, x_new h K N) := H
  rw [c2] at H
  refine q_newo b1 b2 ?_
  rw [c2]
  exact kk _ c1 Z H
theorem c_newr {K bc bs j : Nat} {n : Int32} {s' : σ} (hv : ∀ h, R s h → R s' (x_newa h K n.toNatClampNeg) ∧ x_cn h K + 1 = j) (kk : TC R m μ r ls (.inr (.inr (K, j)) :: st) s' G) : TC R m μ ((nx, x_newr K bc bs) :: r) ls (.inl n :: st) s G := by
  intro h C Z H
  obtain ⟨b3, b4, b1, b2, H⟩ := H
  obtain ⟨c1, c2⟩ := hv h C
  have H : x_seq r (xC m) Z (fun pc' S' => xR m μ pc' S' Z) (ls, .inr (.inr (K, x_cn h K + 1)) :: st, x_newa h K n.toNatClampNeg) := H
  rw [c2] at H
  refine q_newr b3 b4 b1 b2 ?_
  rw [c2]
  exact kk _ c1 Z H
theorem c_objinit {t j : Nat} (kk : TC R m μ r ls st s G) : TC R m μ ((nx, x_objinit) :: r) ls (.inr (.inr (t, j)) :: st) s G := by
  intro h C Z H
  obtain ⟨a1, a2, a3, H⟩ := H
  exact q_objinit a1 a2 a3 (kk h C Z H)
theorem c_calli {y n mc ms bc bs : Nat} {P : xO → σ → Prop} (hR : RS R) (he : EC R y (st.take n).reverse s P) (kk : ∀ w s', P (.inl w) s' → TC R m μ r ls (w.toList ++ st.drop n) s' G) : TC R m μ ((nx, x_calli y n mc ms bc bs) :: r) ls st s G := by
  intro h C Z H
  obtain ⟨h1, h2, h3, h4, h5, h6, H⟩ := H
  refine ⟨h1, h2, h3, h4, h5, h6, (he _ (hR.1 _ _ _ _ C) m _ H).mono (Nat.le_refl m) ?_⟩
  rintro (w | k) g ⟨z, s', C', p⟩
  · exact kk w s' p _ (hR.1 _ _ _ _ C') Z z
  · exact z.elim
theorem d_calli {y n mc ms bc bs : Nat} {w : Option xV} {s' : σ} (hR : RS R) (he : ED R y (st.take n).reverse s (.inl w) s') (kk : TC R m μ r ls (w.toList ++ st.drop n) s' G) : TC R m μ ((nx, x_calli y n mc ms bc bs) :: r) ls st s G :=
  c_calli hR he (fun w' t p => by obtain ⟨e, rfl⟩ := p; cases e; exact kk)
end XNE
/-- the same heap, counts of the method's own aside -/
def HE (s h : xH) : Prop := h.1 = s.1 ∧ h.2.1 = s.2.1 ∧ h.2.2.1 = s.2.2.1 ∧ h.2.2.2.1 = s.2.2.2.1
theorem he_rs : RS HE := ⟨fun _ _ _ _ C => C, fun _ _ _ C => C⟩
section XHE
variable {s h : xH} {K k i N y : Nat} {x : Int32}
theorem HE.cn (C : HE s h) : x_cn h K + 1 = x_cn s K + 1 := congrArg (fun f => f K + 1) C.1
theorem HE.pi (C : HE s h) : HE (x_puti s K k i x) (x_puti h K k i x) := ⟨C.1, C.2.1, congrArg (fun f => x_u3 f K k i x) C.2.2.1, C.2.2.2⟩
theorem HE.pr (C : HE s h) : HE (x_putr s K k i y) (x_putr h K k i y) := ⟨C.1, C.2.1, C.2.2.1, congrArg (fun f => x_u3 f K k i y) C.2.2.2⟩
theorem HE.nw (C : HE s h) : HE (x_new s K N) (x_new h K N) := by
  obtain ⟨a1, a2, a3, a4, r⟩ := h
  obtain ⟨b1, b2, b3, b4, r'⟩ := s
  obtain ⟨rfl, rfl, rfl, rfl⟩ : a1 = b1 ∧ a2 = b2 ∧ a3 = b3 ∧ a4 = b4 := C
  exact ⟨rfl, rfl, rfl, rfl⟩
theorem HE.na (C : HE s h) : HE (x_newa s K N) (x_newa h K N) := by
  obtain ⟨a1, a2, a3, a4, r⟩ := h
  obtain ⟨b1, b2, b3, b4, r'⟩ := s
  obtain ⟨rfl, rfl, rfl, rfl⟩ : a1 = b1 ∧ a2 = b2 ∧ a3 = b3 ∧ a4 = b4 := C
  exact ⟨rfl, rfl, rfl, rfl⟩
theorem CR.he {v : vS} (C : CR v s) (E : HE s h) : CR v h := by
  obtain ⟨a1, a2, a3, a4, r⟩ := h
  obtain ⟨b1, b2, b3, b4, r'⟩ := s
  obtain ⟨rfl, rfl, rfl, rfl⟩ : a1 = b1 ∧ a2 = b2 ∧ a3 = b3 ∧ a4 = b4 := E
  exact C
theorem h0 {r : Nat} {n : Int32} : ED HE 0 [rf 5 r, .inl n] s ov (x_putr (x_newa s 20 n.toNatClampNeg) 5 0 r (x_cn s 20 + 1)) := by
  refine EC.mk (fun n0 => ?_)
  show BC _ n0 0 0 [rf 5 r, .inl n] [] _ _
  refine BC.blk c0_0 (fun m1 hm1 => ?_)
  refine c_aload rfl ?_
  refine c_objinit ?_
  refine c_aload rfl ?_
  refine c_iload rfl ?_
  refine c_newr (fun _ C => ⟨C.na, C.cn⟩) ?_
  refine c_pfr (fun _ C _ => C.pr) ?_
  exact c_ret ⟨rfl, rfl⟩
/-- behind a route's constructor -/
def hin (s : xH) (j : Nat) (x b : Int32) : xH := x_puti (x_puti (x_putr (x_putr (x_newa (x_new s 5 2) 20 (3 : Int32).toNatClampNeg) 5 0 (x_cn s 5 + 1) (x_cn (x_new s 5 2) 20 + 1)) 4 2 j (x_cn s 5 + 1)) 4 0 j x) 4 1 j b
theorem h32 {j : Nat} {b : Int32} : ED HE 32 [rf 4 j, .inl x, .inl b] s ov (hin s j x b) := by
  refine EC.mk (fun n0 => ?_)
  show BC _ n0 32 0 [rf 4 j, .inl x, .inl b] [] _ _
  refine BC.blk c32_0 (fun m1 hm1 => ?_)
  refine c_aload rfl ?_
  refine c_objinit ?_
  refine c_aload rfl ?_
  refine c_newo (fun _ C => ⟨C.nw, C.cn⟩) ?_
  refine c_dup ?_
  refine c_iconst ?_
  refine d_calli he_rs h0 ?_
  refine c_pfr (fun _ C _ => C.pr) ?_
  refine c_aload rfl ?_
  refine c_iload rfl ?_
  refine c_pfi (fun _ C _ => C.pi) ?_
  refine c_aload rfl ?_
  refine c_iload rfl ?_
  refine c_pfz (fun _ C _ => C.pi) ?_
  exact c_ret ⟨rfl, rfl⟩
end XHE
/-- one object more of a kind -/
def vno (v : vS) (K : Nat) : vS := (fun K' k j => if K' = K ∧ j = v.2.2.2 K + 1 then 0 else v.1 K' k j, fun K' k j => if K' = K ∧ j = v.2.2.2 K + 1 then 0 else v.2.1 K' k j, v.2.2.1, x_u1 v.2.2.2 K (v.2.2.2 K + 1))
/-- behind a route's constructor -/
def vin (v : vS) (j : Nat) (x b : Int32) : vS := (x_u3 (x_u3 v.1 4 0 j x) 4 1 j b, x_u3 (x_u3 (fun K k i => if K = 5 ∧ i = v.2.2.2 5 + 1 then 0 else v.2.1 K k i) 5 0 (v.2.2.2 5 + 1) (v.2.2.2 5 + 1)) 4 2 j (v.2.2.2 5 + 1), x_u1 v.2.2.1 (v.2.2.2 5 + 1) [], x_u1 (x_u1 v.2.2.2 5 (v.2.2.2 5 + 1)) 20 (v.2.2.2 5 + 1))
section XVN
variable {v v' : vS} {h : xH} {K N j : Nat} {x b : Int32}
theorem ST.cg (hS : ST v) (n1 : ∀ K', K' ≠ 4 → K' ≠ 5 → K' ≠ 6 → K' ≠ 20 → v'.2.2.2 K' = v.2.2.2 K') (n2 : ∀ K', K' ≠ 4 → K' ≠ 5 → K' ≠ 6 → ∀ k j, v'.1 K' k j = v.1 K' k j) (n3 : ∀ K', K' ≠ 4 → K' ≠ 5 → K' ≠ 6 → ∀ k j, v'.2.1 K' k j = v.2.1 K' k j) : ST v' := by
  obtain ⟨⟨a1, a2, a3, a4, a5, a6⟩, b, c, d⟩ := hS
  refine ⟨⟨?_, ?_, ?_, ?_, fun K' q1 q2 => ?_, fun K' q1 q2 => ?_⟩, fun o ho => ?_, fun c' hc' => ?_, fun k hk => ?_⟩
  · rw [n1 1 (by decide) (by decide) (by decide) (by decide)]; exact a1
  · rw [n1 2 (by decide) (by decide) (by decide) (by decide)]; exact a2
  · rw [n1 3 (by decide) (by decide) (by decide) (by decide)]; exact a3
  · rw [n1 7 (by decide) (by decide) (by decide) (by decide)]; exact a4
  · rw [n1 K' (by omega) (by omega) (by omega) (by omega)]; exact a5 K' q1 q2
  · rw [n1 K' (by omega) (by omega) (by omega) (by omega)]; exact a6 K' q1 q2
  · simp only [n3 11 (by decide) (by decide) (by decide), n3 3 (by decide) (by decide) (by decide), n2 3 (by decide) (by decide) (by decide), n3 16 (by decide) (by decide) (by decide), n3 19 (by decide) (by decide) (by decide), n3 14 (by decide) (by decide) (by decide)]
    exact b o ho
  · simp only [n3 12 (by decide) (by decide) (by decide), n3 1 (by decide) (by decide) (by decide), n2 2 (by decide) (by decide) (by decide)]
    exact c c' hc'
  · rw [n3 7 (by decide) (by decide) (by decide)]; exact d k hk
theorem lnl_k {K L : Nat} (hm : (K, L) ∈ x_lnl) : 11 ≤ K ∧ K ≤ 19 := by
  simp only [x_lnl, List.mem_cons, Prod.mk.injEq, List.not_mem_nil, or_false] at hm
  omega
theorem CR.no (C : CR v h) (hK : K = 4 ∨ K = 6) : CR (vno v K) (x_new h K N) := by
  have ec : x_cn h K = v.2.2.2 K := C.1.cn (by unfold ck; omega)
  have lv : ∀ K' j, K' ≠ K → x_live (x_new h K N) K' j → x_live h K' j := fun K' j hn l => ⟨l.1, by have := l.2; rw [x_new_cn, if_neg hn] at this; exact this⟩
  refine ⟨⟨fun K' hk => ?_, fun K' k j hk => ?_, fun K' k j hk => ?_, fun K' L j hm l => ?_, fun r l => ?_, C.1.2.2.2.2.2.cg (fun K' a1 a2 a3 a4 => u1_ne (by omega)) (fun K' a1 a2 a3 k j => if_neg (by omega)) (fun K' a1 a2 a3 k j => if_neg (by omega))⟩, fun r l => ?_⟩
  · show x_cn (x_new h K N) K' = x_u1 v.2.2.2 K (v.2.2.2 K + 1) K'
    rw [x_new_cn, ec]
    unfold x_u1
    split
    · rfl
    · exact C.1.cn hk
  · show (if K' = K ∧ j = h.1 K + 1 then 0 else h.2.2.1 K' k j) = (if K' = K ∧ j = v.2.2.2 K + 1 then 0 else v.1 K' k j)
    rw [show h.1 K = v.2.2.2 K from ec, show h.2.2.1 K' k j = v.1 K' k j from C.1.2.1 K' k j hk]
  · show (if K' = K ∧ j = h.1 K + 1 then 0 else h.2.2.2.1 K' k j) = (if K' = K ∧ j = v.2.2.2 K + 1 then 0 else v.2.1 K' k j)
    rw [show h.1 K = v.2.2.2 K from ec, show h.2.2.2.1 K' k j = v.2.1 K' k j from C.1.2.2.1 K' k j hk]
  · have q := lnl_k hm
    exact C.1.2.2.2.1 K' L j hm (lv K' j (by omega) l)
  · obtain ⟨a1, a2⟩ := C.1.2.2.2.2.1 r (lv 5 r (by omega) l)
    exact ⟨(if_neg (by omega)).trans a1, a2⟩
  · obtain ⟨a1, a2, a3⟩ := C.2 r (lv 5 r (by omega) l)
    exact ⟨(if_neg (by omega)).trans a1, a2, fun i x hx => (if_neg (by omega)).trans (a3 i x hx)⟩
theorem cri_k {K : Nat} (h : cri K = true) : K ≤ 19 ∧ K ≠ 5 := by
  simp only [cri, Bool.and_eq_true, Bool.not_eq_true', beq_eq_false_iff_ne, Nat.ble_eq] at h
  omega
theorem crr_k {K : Nat} (h : crr K = true) : K ≤ 19 := by
  simp only [crr, Bool.and_eq_true, Bool.not_eq_true', beq_eq_false_iff_ne, Nat.ble_eq] at h
  omega
theorem CR.in (C : CR v h) (h5 : 90 ≤ v.2.2.2 5) (h20 : v.2.2.2 20 = v.2.2.2 5) : CR (vin v j x b) (hin h j x b) := by
  have c5 : x_cn h 5 = v.2.2.2 5 := C.1.cn (by unfold ck; omega)
  have c20 : x_cn h 20 = v.2.2.2 5 := (C.1.cn (by unfold ck; omega)).trans h20
  have c20' : x_cn (x_new h 5 2) 20 = v.2.2.2 5 := c20
  have ecn : ∀ K', x_cn (hin h j x b) K' = if K' = 20 then v.2.2.2 5 + 1 else if K' = 5 then v.2.2.2 5 + 1 else x_cn h K' := fun K' => by
    show (if K' = 20 then x_cn (x_new h 5 2) 20 + 1 else if K' = 5 then x_cn h 5 + 1 else x_cn h K') = _
    rw [c20', c5]
  have evi : ∀ K' k i, x_vi (hin h j x b) K' k i = if K' = 4 ∧ k = 1 ∧ i = j then b else if K' = 4 ∧ k = 0 ∧ i = j then x else if K' = 20 ∧ k = v.2.2.2 5 + 1 then 0 else if K' = 5 ∧ i = v.2.2.2 5 + 1 then 0 else x_vi h K' k i := fun K' k i => by
    show (if K' = 4 ∧ k = 1 ∧ i = j then b else if K' = 4 ∧ k = 0 ∧ i = j then x else if K' = 20 ∧ k = x_cn (x_new h 5 2) 20 + 1 then 0 else if K' = 5 ∧ i = x_cn h 5 + 1 then 0 else x_vi h K' k i) = _
    rw [c20', c5]
  have evr : ∀ K' k i, x_vr (hin h j x b) K' k i = if K' = 4 ∧ k = 2 ∧ i = j then v.2.2.2 5 + 1 else if K' = 5 ∧ k = 0 ∧ i = v.2.2.2 5 + 1 then v.2.2.2 5 + 1 else if K' = 20 ∧ k = v.2.2.2 5 + 1 then 0 else if K' = 5 ∧ i = v.2.2.2 5 + 1 then 0 else x_vr h K' k i := fun K' k i => by
    show (if K' = 4 ∧ k = 2 ∧ i = j then x_cn h 5 + 1 else if K' = 5 ∧ k = 0 ∧ i = x_cn h 5 + 1 then x_cn (x_new h 5 2) 20 + 1 else if K' = 20 ∧ k = x_cn (x_new h 5 2) 20 + 1 then 0 else if K' = 5 ∧ i = x_cn h 5 + 1 then 0 else x_vr h K' k i) = _
    rw [c20', c5]
  have eln : ∀ K' k, x_ln (hin h j x b) K' k = if K' = 20 ∧ k = v.2.2.2 5 + 1 then 3 else x_ln h K' k := fun K' k => by
    show (if K' = 20 ∧ k = x_cn (x_new h 5 2) 20 + 1 then 3 else x_ln h K' k) = _
    rw [c20']
  have lv : ∀ K' j', K' ≠ 5 → K' ≠ 20 → x_live (hin h j x b) K' j' → x_live h K' j' := fun K' j' n1 n2 l => ⟨l.1, by have := l.2; rw [ecn, if_neg n2, if_neg n1] at this; exact this⟩
  have l5 : ∀ r, x_live (hin h j x b) 5 r → r = v.2.2.2 5 + 1 ∨ (r ≠ v.2.2.2 5 + 1 ∧ x_live h 5 r) := fun r l => by
    have q := l.2
    rw [ecn, if_neg (by decide), if_pos rfl] at q
    by_cases z : r = v.2.2.2 5 + 1
    · exact Or.inl z
    · exact Or.inr ⟨z, l.1, by rw [c5]; omega⟩
  refine ⟨⟨fun K' hk => ?_, fun K' k i hk => ?_, fun K' k i hk => ?_, fun K' L j' hm l => ?_, fun r l => ?_, C.1.2.2.2.2.2.cg (fun K' a1 a2 a3 a4 => (u1_ne a4).trans (u1_ne a2)) (fun K' a1 a2 a3 k i => (u3_ne (fun z _ => a1 z)).trans (u3_ne (fun z _ => a1 z))) (fun K' a1 a2 a3 k i => (u3_ne (fun z _ => a1 z)).trans ((u3_ne (fun z _ => a2 z)).trans (if_neg (fun z => a2 z.1))))⟩, fun r l => ?_⟩
  · rw [ecn]
    show _ = if K' = 20 then v.2.2.2 5 + 1 else if K' = 5 then v.2.2.2 5 + 1 else v.2.2.2 K'
    rw [C.1.cn hk]
  · have q := cri_k hk
    rw [evi, if_neg (c := K' = 20 ∧ _) (by omega), if_neg (c := K' = 5 ∧ _) (by omega), C.i hk]
    rfl
  · have q := crr_k hk
    rw [evr, if_neg (c := K' = 20 ∧ _) (by omega), C.r hk]
    rfl
  · have q := lnl_k hm
    rw [eln, if_neg (by omega)]
    exact C.1.2.2.2.1 K' L j' hm (lv K' j' (by omega) (by omega) l)
  · rcases l5 r l with rfl | ⟨n, l'⟩
    · rw [eln, if_pos ⟨rfl, rfl⟩]
      refine ⟨?_, ?_⟩
      · show (if 5 = 4 ∧ 0 = 2 ∧ v.2.2.2 5 + 1 = j then v.2.2.2 5 + 1 else if 5 = 5 ∧ 0 = 0 ∧ v.2.2.2 5 + 1 = v.2.2.2 5 + 1 then v.2.2.2 5 + 1 else if 5 = 5 ∧ v.2.2.2 5 + 1 = v.2.2.2 5 + 1 then 0 else v.2.1 5 0 (v.2.2.2 5 + 1)) = _
        rw [if_neg (by omega), if_pos ⟨rfl, rfl, rfl⟩]
      · unfold cap
        rw [if_pos (by omega)]
    · obtain ⟨a1, a2⟩ := C.1.2.2.2.2.1 r l'
      rw [eln, if_neg (by omega)]
      refine ⟨?_, a2⟩
      show (if 5 = 4 ∧ 0 = 2 ∧ r = j then v.2.2.2 5 + 1 else if 5 = 5 ∧ 0 = 0 ∧ r = v.2.2.2 5 + 1 then v.2.2.2 5 + 1 else if 5 = 5 ∧ r = v.2.2.2 5 + 1 then 0 else v.2.1 5 0 r) = _
      rw [if_neg (by omega), if_neg (by omega), if_neg (by omega)]
      exact a1
  · unfold RWL
    rcases l5 r l with rfl | ⟨n, l'⟩
    · rw [evi, if_neg (by omega), if_neg (by omega), if_neg (by omega), if_pos ⟨rfl, rfl⟩, show (vin v j x b).2.2.1 (v.2.2.2 5 + 1) = [] from u1_eq]
      exact ⟨rfl, Nat.zero_le _, fun i y hy => by cases hy⟩
    · obtain ⟨a1, a2, a3⟩ := C.2 r l'
      rw [evi, if_neg (by omega), if_neg (by omega), if_neg (by omega), if_neg (by omega), show (vin v j x b).2.2.1 r = v.2.2.1 r from u1_ne n]
      exact ⟨a1, a2, fun i y hy => by rw [evi, if_neg (by omega), if_neg (by omega), if_neg (by omega), if_neg (by omega)]; exact a3 i y hy⟩
theorem e32 (h5 : 90 ≤ v.2.2.2 5) (h20 : v.2.2.2 20 = v.2.2.2 5) : ED CR 32 [rf 4 j, .inl x, .inl b] v ov (vin v j x b) :=
  EC.sw (R' := HE) (fun h C => ⟨h, ⟨rfl, rfl, rfl, rfl⟩, h32.mono (fun o t p g E => by
    obtain ⟨rfl, rfl⟩ := p
    exact ⟨_, (C.in h5 h20).he E, rfl, rfl⟩)⟩)
end XVN
/-- trunk -/
abbrev trok (x y : Int32) : Prop := (0 ≤ x.toInt ∧ x.toInt ≤ 2) ∧ (0 ≤ y.toInt ∧ y.toInt ≤ 2) ∧ ¬ x = y
def vtrk (v : vS) (x y : Int32) : vS := vpi (vpr (vpi (vpi (vno v 6) 6 0 (v.2.2.2 6 + 1) x) 6 1 (v.2.2.2 6 + 1) y) 13 1 (v.1 7 4 1).toNatClampNeg (v.2.2.2 6 + 1)) 7 4 1 (v.1 7 4 1 + 1)
def vtrunk (v : vS) (x y : Int32) : vS := if trok x y ∧ (v.1 7 4 1).toInt < 16 then vtrk v x y else v
def otrunk (v : vS) (x y : Int32) : xO := if trok x y then (if (v.1 7 4 1).toInt < 16 then oi (v.1 7 4 1 + 1 - 1) else .inr 2) else .inr 1
/-- route -/
abbrev pfx2 (x : Int) : Prop := (10 ≤ x ∧ x ≤ 19) ∨ (100 ≤ x ∧ x ≤ 199) ∨ (1000 ≤ x ∧ x ≤ 1999)
abbrev rtok (x p y u q : Int32) : Prop := ((0 ≤ x.toInt ∧ x.toInt ≤ 2) ∧ (0 ≤ y.toInt ∧ y.toInt ≤ 2) ∧ pfx2 p.toInt) ∧ (0 ≤ u.toInt ∧ u.toInt ≤ 99) ∧ (0 ≤ q.toInt ∧ q.toInt ≤ 1000)
def vrt2 (w : vS) (m : Nat) (y u q : Int32) : vS := vpi (vpi (if w.1 4 1 m = 0 then vrw w (w.2.1 4 2 m) (radd (cap (w.2.1 4 2 m)) (w.2.2.1 (w.2.1 4 2 m)) y) else w) 4 3 m u) 4 4 m q
def ort2 (w : vS) (m : Nat) (y u q : Int32) : xO := oi (Int32.ofNat ((vrt2 w m y u q).2.2.1 ((vrt2 w m y u q).2.1 4 2 m)).length)
def vrtn (v : vS) (x p y : Int32) : vS := vadr (vin (vno v 4) (v.2.2.2 4 + 1) p (b2i (y = x))) (x.toNatClampNeg + 1) (v.2.2.2 4 + 1)
abbrev rtm (v : vS) (x p : Int32) : Nat := fro v (x.toNatClampNeg + 1) (rnm v (x.toNatClampNeg + 1) p)
noncomputable def vroute (v : vS) (x p y u q : Int32) : vS := if rtok x p y u q then (if rtm v x p = 0 then (if hrf v (x.toNatClampNeg + 1) p = true then vrt2 (vrtn v x p y) (v.2.2.2 4 + 1) y u q else v) else (if ¬ y = x ∧ chv v (rtm v x p) y = true then vrt2 v (rtm v x p) y u q else v)) else v
noncomputable def oroute (v : vS) (x p y u q : Int32) : xO := if rtok x p y u q then (if rtm v x p = 0 then (if hrf v (x.toNatClampNeg + 1) p = true then ort2 (vrtn v x p y) (v.2.2.2 4 + 1) y u q else .inr 2) else (if ¬ y = x ∧ chv v (rtm v x p) y = true then ort2 v (rtm v x p) y u q else .inr 2)) else .inr 1
theorem e40 {v : vS} {j : Nat} {x y : Int32} : ED CR 40 [rf 6 j, .inl x, .inl y] v (ov) (vpi (vpi v 6 0 j x) 6 1 j y) := by
  refine EC.mk (fun n0 => ?_)
  show BC _ n0 40 0 [rf 6 j, .inl x, .inl y] [] _ _
  refine BC.blk c40_0 (fun m1 hm1 => ?_)
  refine c_aload rfl ?_
  refine c_objinit ?_
  refine c_aload rfl ?_
  refine c_iload rfl ?_
  refine c_pfi (fun _ C _ => C.pi rfl) ?_
  refine c_aload rfl ?_
  refine c_iload rfl ?_
  refine c_pfi (fun _ C _ => C.pi rfl) ?_
  exact c_ret ⟨rfl, rfl⟩
theorem e48 {v : vS} {x : Int32} : ED CR 48 [.inl x] v (oi (b2i (pfx2 x.toInt))) (v) := by
  refine EC.mk (fun n0 => ?_)
  show BC _ n0 48 0 [.inl x] [] _ _
  refine BC.blk c48_0 (fun m1 hm1 => ?_)
  refine c_iload rfl ?_
  refine c_iconst ?_
  refine c_iconst ?_
  refine d_call cr_rs (e25) ?_
  refine c_if_ne (fun d1 => ?_) (fun d1 => ?_)
  · skip
    refine BC.blk c48_36 (fun m2 hm2 => ?_)
    refine c_iconst ?_
    refine c_goto ?_
    refine BC.blk c48_41 (fun m3 hm3 => ?_)
    exact c_zret ⟨by rw [b2i_pos (p := pfx2 x.toInt) (Or.inl (b2i1.mp d1))], rfl⟩
  · skip
    refine c_iload rfl ?_
    refine c_iconst ?_
    refine c_iconst ?_
    refine d_call cr_rs (e25) ?_
    refine c_if_ne (fun d2 => ?_) (fun d2 => ?_)
    · skip
      refine BC.blk c48_36 (fun m4 hm4 => ?_)
      refine c_iconst ?_
      refine c_goto ?_
      refine BC.blk c48_41 (fun m5 hm5 => ?_)
      exact c_zret ⟨by rw [b2i_pos (p := pfx2 x.toInt) (Or.inr (Or.inl (b2i1.mp d2)))], rfl⟩
    · skip
      refine c_iload rfl ?_
      refine c_iconst ?_
      refine c_iconst ?_
      refine d_call cr_rs (e25) ?_
      refine c_if_eq (fun d3 => ?_) (fun d3 => ?_)
      · skip
        refine BC.blk c48_40 (fun m6 hm6 => ?_)
        refine c_iconst ?_
        refine c_goto ?_
        refine BC.blk c48_41 (fun m7 hm7 => ?_)
        exact c_zret ⟨by rw [b2i_neg (fun z => z.elim (b2i0.mp d1) (fun z => z.elim (b2i0.mp d2) (b2i0.mp d3)))], rfl⟩
      · skip
        refine c_goto ?_
        refine BC.blk c48_36 (fun m8 hm8 => ?_)
        refine c_iconst ?_
        refine c_goto ?_
        refine BC.blk c48_41 (fun m9 hm9 => ?_)
        exact c_zret ⟨by rw [b2i_pos (p := pfx2 x.toInt) (Or.inr (Or.inr (b2i1.mp d3)))], rfl⟩
theorem e47 {v : vS} {x y : Int32} : ED CR 47 [rf 7 1, .inl x, .inl y] v (otrunk v x y) (vtrunk v x y) := by
  refine EC.mk (fun n0 => ?_)
  show BC _ n0 47 0 [rf 7 1, .inl x, .inl y] [] _ _
  refine BC.blk c47_0 (fun m1 hm1 => ?_)
  refine c_iload rfl ?_
  refine d_call cr_rs (e44) ?_
  refine c_if_eq (fun d1 => ?_) (fun d1 => ?_)
  · skip
    refine BC.blk c47_23 (fun m2 hm2 => ?_)
    refine c_iconst ?_
    refine c_goto ?_
    refine BC.blk c47_24 (fun m3 hm3 => ?_)
    refine n_need (fun d2 => ?_) (fun d2 => ?_)
    · skip
      exact id ⟨by rw [otrunk, if_neg (fun z => b2i0.mp d1 z.1)], by rw [vtrunk, if_neg (fun z => b2i0.mp d1 z.1.1)]⟩
    · exact absurd rfl d2
  · skip
    refine c_iload rfl ?_
    refine d_call cr_rs (e44) ?_
    refine c_if_eq (fun d3 => ?_) (fun d3 => ?_)
    · skip
      refine BC.blk c47_23 (fun m4 hm4 => ?_)
      refine c_iconst ?_
      refine c_goto ?_
      refine BC.blk c47_24 (fun m5 hm5 => ?_)
      refine n_need (fun d4 => ?_) (fun d4 => ?_)
      · skip
        exact id ⟨by rw [otrunk, if_neg (fun z => b2i0.mp d3 z.2.1)], by rw [vtrunk, if_neg (fun z => b2i0.mp d3 z.1.2.1)]⟩
      · exact absurd rfl d4
    · skip
      refine c_iload rfl ?_
      refine c_iload rfl ?_
      refine c_icmp_eq (fun d5 => ?_) (fun d5 => ?_)
      · skip
        refine BC.blk c47_23 (fun m6 hm6 => ?_)
        refine c_iconst ?_
        refine c_goto ?_
        refine BC.blk c47_24 (fun m7 hm7 => ?_)
        refine n_need (fun d6 => ?_) (fun d6 => ?_)
        · skip
          exact id ⟨by rw [otrunk, if_neg (fun z => z.2.2 d5)], by rw [vtrunk, if_neg (fun z => z.1.2.2 d5)]⟩
        · exact absurd rfl d6
      · skip
        refine c_iconst ?_
        refine c_goto ?_
        refine BC.blk c47_24 (fun m8 hm8 => ?_)
        refine n_need (fun d7 => ?_) (fun d7 => ?_)
        · exact absurd d7 (by decide)
        · skip
          refine c_aload rfl ?_
          refine c_gfi (fun _ C _ => C.i rfl) ?_
          refine c_iconst ?_
          refine c_icmpk_ge (k := 16) rfl (fun d8 => ?_) (fun d8 => ?_)
          · skip
            refine BC.blk c47_40 (fun m9 hm9 => ?_)
            refine c_iconst ?_
            refine c_goto ?_
            refine BC.blk c47_41 (fun m10 hm10 => ?_)
            refine n_allow (fun d9 => ?_) (fun d9 => ?_)
            · skip
              exact id ⟨by rw [otrunk, if_pos ⟨b2i1.mp d1, b2i1.mp d3, d5⟩, if_neg (by omega)], by rw [vtrunk, if_neg (fun z => absurd z.2 (by omega))]⟩
            · exact absurd rfl d9
          · skip
            refine c_iconst ?_
            refine c_goto ?_
            refine BC.blk c47_41 (fun m11 hm11 => ?_)
            refine n_allow (fun d10 => ?_) (fun d10 => ?_)
            · exact absurd d10 (by decide)
            · skip
              refine c_aload rfl ?_
              refine c_gfr (fun _ C l => C.r7 (k := 2) (by decide) l) ?_
              refine c_aload rfl ?_
              refine c_gfi (fun _ C _ => C.i rfl) ?_
              refine c_newo (j := v.2.2.2 6 + 1) (fun _ C => ⟨C.no (K := 6) (by decide), by rw [C.1.cn (by unfold ck; omega)]⟩) ?_
              refine c_dup ?_
              refine c_iload rfl ?_
              refine c_iload rfl ?_
              refine d_calli cr_rs (e40) ?_
              refine c_aast (fun _ C l i => C.s13 l i) (fun p1 => ?_)
              refine c_aload rfl ?_
              refine c_dup ?_
              refine c_gfi (fun _ C _ => C.i rfl) ?_
              refine c_iconst ?_
              refine c_bin rfl ?_
              refine c_pfi (fun _ C _ => C.pi rfl) ?_
              refine c_aload rfl ?_
              refine c_gfi (fun _ C _ => C.i rfl) ?_
              refine c_iconst ?_
              refine c_bin rfl ?_
              exact c_iret ⟨by rw [otrunk, if_pos ⟨b2i1.mp d1, b2i1.mp d3, d5⟩, if_pos (by omega)]; rfl, by rw [vtrunk, if_pos ⟨⟨b2i1.mp d1, b2i1.mp d3, d5⟩, by omega⟩]; rfl⟩
