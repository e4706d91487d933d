/-! THE REFERENCE'S CONSTRUCTOR -/
theorem msl_one : (∀ a ∈ msl, ∀ b ∈ msl, a.1 = b.1 → a = b) ∧ (∀ a ∈ msl, ∀ b ∈ msl, a.2.1 = b.2.1 → a = b) := by decide +kernel
theorem msl_all : ∀ K, K < 65 → 22 ≤ K → ∃ a ∈ msl, a.2.1 = K := by decide +kernel
/-- the arrays of the kinds below m are made -/
def PM (m : Nat) (h0 h : xH) : Prop :=
  (∀ K, K ≠ 8 → ¬ (22 ≤ K ∧ K ≤ 64) → x_cn h K = x_cn h0 K ∧ x_ln h K = x_ln h0 K ∧ x_vi h K = x_vi h0 K ∧ x_vr h K = x_vr h0 K) ∧
  x_cn h 8 = 1 ∧ (∀ k, x_vi h 8 k 1 = 0) ∧
  (∀ k K n, (k, K, n) ∈ msl → K < m → x_vr h 8 k 1 = 1 ∧ x_cn h K = 1 ∧ x_ln h K 1 = n ∧ ∀ i, x_vi h K 1 i = 0) ∧
  (∀ K, m ≤ K → K ≤ 64 → x_cn h K = 0)
theorem PM.step {m k n : Nat} {h0 h : xH} (P : PM m h0 h) (hm : (k, m, n) ∈ msl) : PM (m + 1) h0 (x_putr (x_newa h m n) 8 k 1 1) := by
  obtain ⟨p1, p2, p3, p4, p5⟩ := P
  have hK := msl_K hm
  have c0 : x_cn h m = 0 := p5 m (Nat.le_refl _) hK.2
  have h8m : ¬ (8 = m) := by omega
  have c1 : 1 = h.1 m + 1 := by show 1 = x_cn h m + 1; omega
  refine ⟨fun K h8 hn => ?_, ?_, fun k' => ?_, fun k' K n' hm' hlt => ?_, fun K h1 h2 => ?_⟩
  · have e : ¬ K = m := by omega
    obtain ⟨a1, a2, a3, a4⟩ := p1 K h8 hn
    refine ⟨?_, ?_, ?_, ?_⟩
    · show x_cn (x_newa h m n) K = _
      rw [x_newa_cn, if_neg e]; exact a1
    · refine Eq.trans ?_ a2
      funext j
      exact if_neg (fun z => e z.1)
    · refine Eq.trans ?_ a3
      funext a b
      exact if_neg (fun z => e z.1)
    · refine Eq.trans ?_ a4
      funext a b
      rw [x_vr_putr, if_neg (fun z => h8 z.1)]
      exact if_neg (fun z => e z.1)
  · show x_cn (x_newa h m n) 8 = 1
    rw [x_newa_cn, if_neg h8m]; exact p2
  · exact (if_neg (fun z => h8m z.1)).trans (p3 k')
  · by_cases e : K = m
    · have q := msl_one.2 _ hm' _ hm e
      have q1 : k' = k := congrArg (fun z => z.1) q
      have q2 : n' = n := congrArg (fun z => z.2.2) q
      subst e; subst q1; subst q2
      refine ⟨?_, ?_, if_pos ⟨rfl, c1⟩, fun i => if_pos ⟨rfl, c1⟩⟩
      · rw [x_vr_putr, if_pos ⟨rfl, rfl, rfl⟩]
      · show x_cn (x_newa h K n') K = 1
        rw [x_newa_cn, if_pos rfl, c0]
    · obtain ⟨a1, a2, a3, a4⟩ := p4 k' K n' hm' (by omega)
      have hk : ¬ k' = k := fun z => e (congrArg (fun z => z.2.1) (msl_one.1 _ hm' _ hm z))
      refine ⟨?_, ?_, (if_neg (fun z => e z.1)).trans a3, fun i => (if_neg (fun z => e z.1)).trans (a4 i)⟩
      · rw [x_vr_putr, if_neg (fun z => hk z.2.1)]
        exact (if_neg (fun z => h8m z.1)).trans a1
      · show x_cn (x_newa h m n) K = 1
        rw [x_newa_cn, if_neg e]; exact a2
  · show x_cn (x_newa h m n) K = 0
    rw [x_newa_cn, if_neg (by omega)]
    exact p5 K (by omega) h2
section XI8
variable {n1 n2 n3 n4 nx nn : Nat} {r : List (Nat × xI)} {Z : xO → xH → Prop} {J : Nat → xS → Prop} {ls st : List xV} {h h0 : xH} {F : xF} {a b : Nat}
theorem w_m {K n k : Nat} {v : Int32} (P : PM K h0 h) (hm : (k, K, n) ∈ msl) (hv : v.toInt = n) (hl : ls[0]? = some (.inr (.inr (8, 1)))) (hce : x_ce h = a) (hso : x_so h = b) (ha : a + 1 ≤ 43) (hb : b + n ≤ 3970)
    (kk : ∀ H', PM (K + 1) h0 H' → x_ce H' = a + 1 → x_so H' = b + n → x_seq r (xC nn) Z J (ls, [], H')) :
    x_seq ((n1, x_aload 0) :: (n2, x_iconst v) :: (n3, x_newr K 43 3970) :: (n4, x_pfr 8 k K) :: r) (xC nn) Z J (ls, [], h) := by
  have hK := msl_K hm
  have hcl : v.toNatClampNeg = n := by have := x_clamp (n := v) (by omega); omega
  have c0 : x_cn h K = 0 := P.2.2.2.2 K (Nat.le_refl _) hK.2
  refine q_aload hl (by decide) (q_iconst (q_newr (by omega) (by omega) (by omega) (by omega) ?_))
  rw [hcl, c0]
  have l8 : x_live (x_newa h K n) 8 1 := x_newa_lv.mpr (Or.inl ⟨Nat.le_refl 1, by rw [P.2.1]; exact Nat.le_refl 1⟩)
  refine q_pfr l8 (kk _ (P.step hm) ?_ ?_)
  · show x_ce h + 1 = _
    rw [hce]
  · show x_so h + n = _
    rw [hso]
/-- -1 or 0 -/
def ZF (F : xF) : Prop := ∀ K i, F K i = 0 ∨ ((F K i).toInt = -1 ∧ (K = 24 ∨ K = 28 ∨ K = 57 ∨ K = 36 ∨ K = 37 ∨ K = 38 ∨ K = 41))
theorem ZF.put {K i : Nat} {v : Int32} (z : ZF F) (hv : v.toInt = -1) (hK : K = 24 ∨ K = 28 ∨ K = 57 ∨ K = 36 ∨ K = 37 ∨ K = 38 ∨ K = 41) : ZF (x_u2 F K i v) := by
  intro K' i'
  unfold x_u2
  by_cases q : K' = K ∧ i' = i
  · rw [if_pos q, q.1]; exact Or.inr ⟨hv, hK⟩
  · rw [if_neg q]; exact z K' i'
theorem ZF.z (z : ZF F) {K i : Nat} (hK : ¬ (K = 24 ∨ K = 28 ∨ K = 57 ∨ K = 36 ∨ K = 37 ∨ K = 38 ∨ K = 41)) : (F K i).toInt = 0 := by
  rcases z K i with q | q
  · rw [q]; rfl
  · exact absurd q.2 hK
theorem ZF.mx (z : ZF F) : MX 72 F := by
  refine ⟨fun K lo hi i hm => ?_, fun k lo hi hm => ?_, fun i => ?_, fun c h72 hc => ?_, fun o k ho hk => ?_, fun o k ho hk => ?_⟩
  · rcases z K i with q | q
    · rw [q, i32_0]
      simp only [mrl, List.mem_cons, Prod.mk.injEq, List.not_mem_nil, or_false] at hm
      omega
    · rw [q.1]
      have q2 := q.2
      clear q
      simp only [mrl, List.mem_cons, Prod.mk.injEq, List.not_mem_nil, or_false] at hm
      omega
  · rw [z.z (by omega)]
    simp only [mfl, List.mem_cons, Prod.mk.injEq, List.not_mem_nil, or_false] at hm
    omega
  · rw [z.z (by omega)]
    exact Or.inr (by decide)
  · have e47 : (F 47 c).toInt = 0 := z.z (by omega)
    unfold SL
    rw [e47]
    exact ⟨fun q => by omega, fun q => by omega, fun q => by omega, fun _ => rfl⟩
  · rw [z.z (by omega)] at hk; omega
  · rw [z.z (by omega)] at hk; omega
theorem mi_gfr {k K n : Nat} (P : PM 65 h0 h) (hm : (k, K, n) ∈ msl) (kk : x_seq r (xC nn) Z J (ls, .inr (.inr (K, 1)) :: st, mh h F)) : x_seq ((nx, x_gfr 8 k K) :: r) (xC nn) Z J (ls, .inr (.inr (8, 1)) :: st, mh h F) := by
  refine q_gfr ⟨Nat.le_refl 1, Nat.le_of_eq P.2.1.symm⟩ ?_
  show x_seq r (xC nn) Z J (ls, .inr (.inr (K, x_vr h 8 k 1)) :: st, mh h F)
  have := msl_K hm
  rw [(P.2.2.2.1 k K n hm (by omega)).1]
  exact kk
theorem mi_ast {k K n : Nat} {i v : Int32} (P : PM 65 h0 h) (hm : (k, K, n) ∈ msl) (i0 : 0 ≤ i.toInt) (i1 : i.toInt < n) (kk : x_seq r (xC nn) Z J (ls, st, mh h (x_u2 F K i.toNatClampNeg v))) : x_seq ((nx, x_ast K) :: r) (xC nn) Z J (ls, .inl v :: .inl i :: .inr (.inr (K, 1)) :: st, mh h F) := by
  have hK := msl_K hm
  obtain ⟨-, e2, e3, -⟩ := P.2.2.2.1 k K n hm (by omega)
  refine q_ast ⟨Nat.le_refl 1, Nat.le_of_eq e2.symm⟩ ⟨i0, by show i.toInt < (x_ln h K 1 : Int); rw [e3]; exact i1⟩ ?_
  rw [mh_puta hK]
  exact kk
end XI8
theorem PM.eq0 {h0 h : xH} (P : PM 65 h0 h) : mh h (fun _ _ => 0) = h := by
  refine Prod.ext rfl (Prod.ext rfl (Prod.ext ?_ rfl))
  funext K k i
  show (if K = 8 ∧ i = 1 then (0 : Int32) else if (22 ≤ K ∧ K ≤ 64) ∧ k = 1 then 0 else x_vi h K k i) = x_vi h K k i
  by_cases e : K = 8 ∧ i = 1
  · rw [if_pos e, e.1, e.2]; exact (P.2.2.1 k).symm
  · rw [if_neg e]
    by_cases e2 : (22 ≤ K ∧ K ≤ 64) ∧ k = 1
    · rw [if_pos e2, e2.2]
      obtain ⟨a, ha, hK⟩ := msl_all K (by omega) e2.1.1
      subst hK
      exact ((P.2.2.2.1 a.1 a.2.1 a.2.2 ha (by omega)).2.2.2 i).symm
    · rw [if_neg e2]
theorem tv89 {h : xH} {Z : xO → xH → Prop} (hc : x_ce h = 0) (hs : x_so h = 0) (h8 : x_cn h 8 = 1) (hv : ∀ k, x_vi h 8 k 1 = 0) (h0 : ∀ K, 22 ≤ K → K ≤ 64 → x_cn h K = 0) (hZ : ∀ (g : xH) (F : xF), PM 65 h g → ZF F → Z (.inl none) (mh g F)) : xC 1000 89 [.inr (.inr (8, 1))] h Z := by
  have P22 : PM 22 h h := ⟨fun K _ _ => ⟨rfl, rfl, rfl, rfl⟩, h8, hv, fun k K n hm hlt => absurd (msl_K hm).1 (by omega), h0⟩
  refine ⟨rfl, hc, hs, ?_⟩
  show xR _ 89 0 ([.inr (.inr (8, 1)), .inr (.inr (0, 0))], [], h) Z
  refine xR.blk c89_0 ?_
  refine q_aload rfl (by decide) (q_objinit (by decide) (Nat.le_refl 1) (Nat.le_of_ble_eq_true rfl) ?_)
  refine w_m P22 (n := 72) (by decide) rfl rfl hc hs (by decide) (by decide) (fun H22 P23 c22 s22 => ?_)
  refine w_m P23 (n := 72) (by decide) rfl rfl c22 s22 (by decide) (by decide) (fun H23 P24 c23 s23 => ?_)
  refine w_m P24 (n := 72) (by decide) rfl rfl c23 s23 (by decide) (by decide) (fun H24 P25 c24 s24 => ?_)
  refine w_m P25 (n := 72) (by decide) rfl rfl c24 s24 (by decide) (by decide) (fun H25 P26 c25 s25 => ?_)
  refine w_m P26 (n := 12) (by decide) rfl rfl c25 s25 (by decide) (by decide) (fun H26 P27 c26 s26 => ?_)
  refine w_m P27 (n := 72) (by decide) rfl rfl c26 s26 (by decide) (by decide) (fun H27 P28 c27 s27 => ?_)
  refine w_m P28 (n := 72) (by decide) rfl rfl c27 s27 (by decide) (by decide) (fun H28 P29 c28 s28 => ?_)
  refine w_m P29 (n := 3) (by decide) rfl rfl c28 s28 (by decide) (by decide) (fun H29 P30 c29 s29 => ?_)
  refine w_m P30 (n := 36) (by decide) rfl rfl c29 s29 (by decide) (by decide) (fun H30 P31 c30 s30 => ?_)
  refine w_m P31 (n := 36) (by decide) rfl rfl c30 s30 (by decide) (by decide) (fun H31 P32 c31 s31 => ?_)
  refine w_m P32 (n := 36) (by decide) rfl rfl c31 s31 (by decide) (by decide) (fun H32 P33 c32 s32 => ?_)
  refine w_m P33 (n := 36) (by decide) rfl rfl c32 s32 (by decide) (by decide) (fun H33 P34 c33 s33 => ?_)
  refine w_m P34 (n := 36) (by decide) rfl rfl c33 s33 (by decide) (by decide) (fun H34 P35 c34 s34 => ?_)
  refine w_m P35 (n := 108) (by decide) rfl rfl c34 s34 (by decide) (by decide) (fun H35 P36 c35 s35 => ?_)
  refine w_m P36 (n := 36) (by decide) rfl rfl c35 s35 (by decide) (by decide) (fun H36 P37 c36 s36 => ?_)
  refine w_m P37 (n := 15) (by decide) rfl rfl c36 s36 (by decide) (by decide) (fun H37 P38 c37 s37 => ?_)
  refine w_m P38 (n := 9) (by decide) rfl rfl c37 s37 (by decide) (by decide) (fun H38 P39 c38 s38 => ?_)
  refine w_m P39 (n := 16) (by decide) rfl rfl c38 s38 (by decide) (by decide) (fun H39 P40 c39 s39 => ?_)
  refine w_m P40 (n := 16) (by decide) rfl rfl c39 s39 (by decide) (by decide) (fun H40 P41 c40 s40 => ?_)
  refine w_m P41 (n := 16) (by decide) rfl rfl c40 s40 (by decide) (by decide) (fun H41 P42 c41 s41 => ?_)
  refine w_m P42 (n := 16) (by decide) rfl rfl c41 s41 (by decide) (by decide) (fun H42 P43 c42 s42 => ?_)
  refine w_m P43 (n := 3) (by decide) rfl rfl c42 s42 (by decide) (by decide) (fun H43 P44 c43 s43 => ?_)
  refine w_m P44 (n := 9) (by decide) rfl rfl c43 s43 (by decide) (by decide) (fun H44 P45 c44 s44 => ?_)
  refine w_m P45 (n := 3) (by decide) rfl rfl c44 s44 (by decide) (by decide) (fun H45 P46 c45 s45 => ?_)
  refine w_m P46 (n := 216) (by decide) rfl rfl c45 s45 (by decide) (by decide) (fun H46 P47 c46 s46 => ?_)
  refine w_m P47 (n := 72) (by decide) rfl rfl c46 s46 (by decide) (by decide) (fun H47 P48 c47 s47 => ?_)
  refine w_m P48 (n := 72) (by decide) rfl rfl c47 s47 (by decide) (by decide) (fun H48 P49 c48 s48 => ?_)
  refine w_m P49 (n := 576) (by decide) rfl rfl c48 s48 (by decide) (by decide) (fun H49 P50 c49 s49 => ?_)
  refine w_m P50 (n := 72) (by decide) rfl rfl c49 s49 (by decide) (by decide) (fun H50 P51 c50 s50 => ?_)
  refine w_m P51 (n := 72) (by decide) rfl rfl c50 s50 (by decide) (by decide) (fun H51 P52 c51 s51 => ?_)
  refine w_m P52 (n := 72) (by decide) rfl rfl c51 s51 (by decide) (by decide) (fun H52 P53 c52 s52 => ?_)
  refine w_m P53 (n := 72) (by decide) rfl rfl c52 s52 (by decide) (by decide) (fun H53 P54 c53 s53 => ?_)
  refine w_m P54 (n := 72) (by decide) rfl rfl c53 s53 (by decide) (by decide) (fun H54 P55 c54 s54 => ?_)
  refine w_m P55 (n := 72) (by decide) rfl rfl c54 s54 (by decide) (by decide) (fun H55 P56 c55 s55 => ?_)
  refine w_m P56 (n := 72) (by decide) rfl rfl c55 s55 (by decide) (by decide) (fun H56 P57 c56 s56 => ?_)
  refine w_m P57 (n := 72) (by decide) rfl rfl c56 s56 (by decide) (by decide) (fun H57 P58 c57 s57 => ?_)
  refine w_m P58 (n := 72) (by decide) rfl rfl c57 s57 (by decide) (by decide) (fun H58 P59 c58 s58 => ?_)
  refine w_m P59 (n := 72) (by decide) rfl rfl c58 s58 (by decide) (by decide) (fun H59 P60 c59 s59 => ?_)
  refine w_m P60 (n := 72) (by decide) rfl rfl c59 s59 (by decide) (by decide) (fun H60 P61 c60 s60 => ?_)
  refine w_m P61 (n := 72) (by decide) rfl rfl c60 s60 (by decide) (by decide) (fun H61 P62 c61 s61 => ?_)
  refine w_m P62 (n := 72) (by decide) rfl rfl c61 s61 (by decide) (by decide) (fun H62 P63 c62 s62 => ?_)
  refine w_m P63 (n := 72) (by decide) rfl rfl c62 s62 (by decide) (by decide) (fun H63 P64 c63 s63 => ?_)
  refine w_m P64 (n := 1152) (by decide) rfl rfl c63 s63 (by decide) (by decide) (fun H64 P65 c64 s64 => ?_)
  have Z0 : ZF (fun _ _ => 0) := fun _ _ => Or.inl rfl
  clear c64 s64
  generalize H64 = g at P65 ⊢
  have l448 : ∀ (m : Nat) (n : Int32) (F : xF), ZF F → (0 ≤ n.toInt ∧ n.toInt ≤ 16) → (16 - n.toInt).toNat < m → xR (10 + m) 89 448 ([.inr (.inr (8, 1)), .inl n], [], mh g F) Z := by
    intro m
    induction m with
    | zero => intro n F _ _ hm; exact absurd hm (by omega)
    | succ m ih =>
      intro n F z hn hm
      refine xR.blk (n := 10 + m) c89_448 ?_
      refine q_iload rfl (v_iconst (k := 16) rfl (fun v1 e1 => v_icmp_ge (fun d => ?_) (fun d => ?_)))
      · exact (xR.blk (n := 1) c89_467 (q_ret (hZ _ _ P65 z))).up (by omega)
      · refine q_aload rfl (by decide) (mi_gfr P65 (n := 16) (by decide) (q_iload rfl (v_iconst (k := -1) rfl (fun w41 f41 => mi_ast P65 (k := 23) (n := 16) (by decide) (by omega) (by omega) ?_))))
        refine v_iinc (k := 1) rfl rfl (by omega) (by omega) (fun n2 e2 => q_goto ?_)
        exact ih n2 _ (ZF.put z f41 (by decide)) (by omega) (by omega)
  have l427 : ∀ (m : Nat) (n : Int32) (F : xF), ZF F → (0 ≤ n.toInt ∧ n.toInt ≤ 9) → (9 - n.toInt).toNat < m → xR (36 + m) 89 427 ([.inr (.inr (8, 1)), .inl n], [], mh g F) Z := by
    intro m
    induction m with
    | zero => intro n F _ _ hm; exact absurd hm (by omega)
    | succ m ih =>
      intro n F z hn hm
      refine xR.blk (n := 36 + m) c89_427 ?_
      refine q_iload rfl (v_iconst (k := 9) rfl (fun v1 e1 => v_icmp_ge (fun d => ?_) (fun d => ?_)))
      · refine xR.up (xR.blk (n := 28) c89_446 (v_iconst (k := 0) rfl (fun z0 ez0 => q_istore (Nat.le_of_ble_eq_true rfl) (q_goto ?_)))) (show 28 + 1 ≤ 36 + m by omega)
        exact (l448 17 z0 F z (by omega) (by omega)).up (by omega)
      · refine q_aload rfl (by decide) (mi_gfr P65 (n := 9) (by decide) (q_iload rfl (v_iconst (k := -1) rfl (fun w38 f38 => mi_ast P65 (k := 19) (n := 9) (by decide) (by omega) (by omega) ?_))))
        refine v_iinc (k := 1) rfl rfl (by omega) (by omega) (fun n2 e2 => q_goto ?_)
        exact ih n2 _ (ZF.put z f38 (by decide)) (by omega) (by omega)
  have l406 : ∀ (m : Nat) (n : Int32) (F : xF), ZF F → (0 ≤ n.toInt ∧ n.toInt ≤ 15) → (15 - n.toInt).toNat < m → xR (55 + m) 89 406 ([.inr (.inr (8, 1)), .inl n], [], mh g F) Z := by
    intro m
    induction m with
    | zero => intro n F _ _ hm; exact absurd hm (by omega)
    | succ m ih =>
      intro n F z hn hm
      refine xR.blk (n := 55 + m) c89_406 ?_
      refine q_iload rfl (v_iconst (k := 15) rfl (fun v1 e1 => v_icmp_ge (fun d => ?_) (fun d => ?_)))
      · refine xR.up (xR.blk (n := 47) c89_425 (v_iconst (k := 0) rfl (fun z0 ez0 => q_istore (Nat.le_of_ble_eq_true rfl) (q_goto ?_)))) (show 47 + 1 ≤ 55 + m by omega)
        exact (l427 10 z0 F z (by omega) (by omega)).up (by omega)
      · refine q_aload rfl (by decide) (mi_gfr P65 (n := 15) (by decide) (q_iload rfl (v_iconst (k := -1) rfl (fun w37 f37 => mi_ast P65 (k := 18) (n := 15) (by decide) (by omega) (by omega) ?_))))
        refine v_iinc (k := 1) rfl rfl (by omega) (by omega) (fun n2 e2 => q_goto ?_)
        exact ih n2 _ (ZF.put z f37 (by decide)) (by omega) (by omega)
  have l385 : ∀ (m : Nat) (n : Int32) (F : xF), ZF F → (0 ≤ n.toInt ∧ n.toInt ≤ 36) → (36 - n.toInt).toNat < m → xR (80 + m) 89 385 ([.inr (.inr (8, 1)), .inl n], [], mh g F) Z := by
    intro m
    induction m with
    | zero => intro n F _ _ hm; exact absurd hm (by omega)
    | succ m ih =>
      intro n F z hn hm
      refine xR.blk (n := 80 + m) c89_385 ?_
      refine q_iload rfl (v_iconst (k := 36) rfl (fun v1 e1 => v_icmp_ge (fun d => ?_) (fun d => ?_)))
      · refine xR.up (xR.blk (n := 72) c89_404 (v_iconst (k := 0) rfl (fun z0 ez0 => q_istore (Nat.le_of_ble_eq_true rfl) (q_goto ?_)))) (show 72 + 1 ≤ 80 + m by omega)
        exact (l406 16 z0 F z (by omega) (by omega)).up (by omega)
      · refine q_aload rfl (by decide) (mi_gfr P65 (n := 36) (by decide) (q_iload rfl (v_iconst (k := -1) rfl (fun w36 f36 => mi_ast P65 (k := 17) (n := 36) (by decide) (by omega) (by omega) ?_))))
        refine v_iinc (k := 1) rfl rfl (by omega) (by omega) (fun n2 e2 => q_goto ?_)
        exact ih n2 _ (ZF.put z f36 (by decide)) (by omega) (by omega)
  have l350 : ∀ (m : Nat) (n : Int32) (F : xF), ZF F → (0 ≤ n.toInt ∧ n.toInt ≤ 72) → (72 - n.toInt).toNat < m → xR (126 + m) 89 350 ([.inr (.inr (8, 1)), .inl n], [], mh g F) Z := by
    intro m
    induction m with
    | zero => intro n F _ _ hm; exact absurd hm (by omega)
    | succ m ih =>
      intro n F z hn hm
      refine xR.blk (n := 126 + m) c89_350 ?_
      refine q_iload rfl (v_iconst (k := 72) rfl (fun v1 e1 => v_icmp_ge (fun d => ?_) (fun d => ?_)))
      · refine xR.up (xR.blk (n := 118) c89_383 (v_iconst (k := 0) rfl (fun z0 ez0 => q_istore (Nat.le_of_ble_eq_true rfl) (q_goto ?_)))) (show 118 + 1 ≤ 126 + m by omega)
        exact (l385 37 z0 F z (by omega) (by omega)).up (by omega)
      · refine q_aload rfl (by decide) (mi_gfr P65 (n := 72) (by decide) (q_iload rfl (v_iconst (k := -1) rfl (fun w24 f24 => mi_ast P65 (k := 5) (n := 72) (by decide) (by omega) (by omega) ?_))))
        refine q_aload rfl (by decide) (mi_gfr P65 (n := 72) (by decide) (q_iload rfl (v_iconst (k := -1) rfl (fun w28 f28 => mi_ast P65 (k := 9) (n := 72) (by decide) (by omega) (by omega) ?_))))
        refine q_aload rfl (by decide) (mi_gfr P65 (n := 72) (by decide) (q_iload rfl (v_iconst (k := -1) rfl (fun w57 f57 => mi_ast P65 (k := 39) (n := 72) (by decide) (by omega) (by omega) ?_))))
        refine v_iinc (k := 1) rfl rfl (by omega) (by omega) (fun n2 e2 => q_goto ?_)
        exact ih n2 _ (ZF.put (ZF.put (ZF.put z f24 (by decide)) f28 (by decide)) f57 (by decide)) (by omega) (by omega)
  refine v_iconst (k := 0) rfl (fun z0 ez0 => q_istore (Nat.le_of_ble_eq_true rfl) (q_goto ?_))
  have := (l350 73 z0 _ Z0 (by omega) (by omega)).up (show _ ≤ 999 by omega)
  rw [P65.eq0] at this
  exact this
