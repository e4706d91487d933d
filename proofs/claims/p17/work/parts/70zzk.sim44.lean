/-! THE REFERENCE AT ITS START, place by place -/
def zk (K : Nat) : Prop := K = 24 ∨ K = 28 ∨ K = 57 ∨ K = 36 ∨ K = 37 ∨ K = 38 ∨ K = 41
def ZG (B : Nat → Int) (F : xF) : Prop := ZF F ∧ ∀ K (i : Nat), zk K → (i : Int) < B K → F K i = -1
def bz (a b c d e : Int) (K : Nat) : Int := if K = 36 then b else if K = 37 then c else if K = 38 then d else if K = 41 then e else a
section XZG
variable {B B' : Nat → Int} {F : xF}
theorem ZG.mono (z : ZG B F) (h : ∀ K, B' K ≤ B K) : ZG B' F := ⟨z.1, fun K i hK hi => z.2 K i hK (by have := h K; omega)⟩
theorem ZG.put {K : Nat} {n v : Int32} (z : ZG B F) (hv : v.toInt = -1) (hK : K = 24 ∨ K = 28 ∨ K = 57 ∨ K = 36 ∨ K = 37 ∨ K = 38 ∨ K = 41) (h0 : 0 ≤ n.toInt) (hB : ∀ K', zk K' → B' K' ≤ B K' ∨ (K' = K ∧ B' K' ≤ n.toInt + 1 ∧ n.toInt ≤ B K')) : ZG B' (x_u2 F K n.toNatClampNeg v) := by
  refine ⟨z.1.put hv hK, fun K' i hK' hi => ?_⟩
  have c := x_clamp h0
  unfold x_u2
  by_cases e : K' = K ∧ i = n.toNatClampNeg
  · rw [if_pos e]
    exact i32_eq.mpr hv
  · rw [if_neg e]
    refine z.2 K' i hK' ?_
    have := hB K' hK'
    omega
end XZG
theorem tx89 {h : xH} {Z : xO → xH → Prop} (hc : x_ce h = 0) (hs : x_so h = 0) (h8 : x_cn h 8 = 1) (hv : ∀ k, x_vi h 8 k 1 = 0) (h0 : ∀ K, 22 ≤ K → K ≤ 64 → x_cn h K = 0) (hZ : ∀ (g : xH) (F : xF), PM 65 h g → ZG (bz 72 36 15 9 16) F → Z (.inl none) (mh g F)) : xC 1000 89 [.inr (.inr (8, 1))] h Z := by
  have P22 : PM 22 h h := ⟨fun K _ _ => ⟨rfl, rfl, rfl, rfl⟩, h8, hv, fun k K n hm hlt => absurd (msl_K hm).1 (by omega), h0⟩
  refine ⟨rfl, hc, hs, ?_⟩
  show xR _ 89 0 ([.inr (.inr (8, 1)), .inr (.inr (0, 0))], [], h) Z
  refine xR.blk c89_0 ?_
  refine q_aload rfl (by decide) (q_objinit (by decide) (Nat.le_refl 1) (Nat.le_of_ble_eq_true rfl) ?_)
  refine w_m P22 (n := 72) (by decide) rfl rfl hc hs (by decide) (by decide) (fun H22 P23 c22 s22 => ?_)
  refine w_m P23 (n := 72) (by decide) rfl rfl c22 s22 (by decide) (by decide) (fun H23 P24 c23 s23 => ?_)
  refine w_m P24 (n := 72) (by decide) rfl rfl c23 s23 (by decide) (by decide) (fun H24 P25 c24 s24 => ?_)
  refine w_m P25 (n := 72) (by decide) rfl rfl c24 s24 (by decide) (by decide) (fun H25 P26 c25 s25 => ?_)
  refine w_m P26 (n := 12) (by decide) rfl rfl c25 s25 (by decide) (by decide) (fun H26 P27 c26 s26 => ?_)
  refine w_m P27 (n := 72) (by decide) rfl rfl c26 s26 (by decide) (by decide) (fun H27 P28 c27 s27 => ?_)
  refine w_m P28 (n := 72) (by decide) rfl rfl c27 s27 (by decide) (by decide) (fun H28 P29 c28 s28 => ?_)
  refine w_m P29 (n := 3) (by decide) rfl rfl c28 s28 (by decide) (by decide) (fun H29 P30 c29 s29 => ?_)
  refine w_m P30 (n := 36) (by decide) rfl rfl c29 s29 (by decide) (by decide) (fun H30 P31 c30 s30 => ?_)
  refine w_m P31 (n := 36) (by decide) rfl rfl c30 s30 (by decide) (by decide) (fun H31 P32 c31 s31 => ?_)
  refine w_m P32 (n := 36) (by decide) rfl rfl c31 s31 (by decide) (by decide) (fun H32 P33 c32 s32 => ?_)
  refine w_m P33 (n := 36) (by decide) rfl rfl c32 s32 (by decide) (by decide) (fun H33 P34 c33 s33 => ?_)
  refine w_m P34 (n := 36) (by decide) rfl rfl c33 s33 (by decide) (by decide) (fun H34 P35 c34 s34 => ?_)
  refine w_m P35 (n := 108) (by decide) rfl rfl c34 s34 (by decide) (by decide) (fun H35 P36 c35 s35 => ?_)
  refine w_m P36 (n := 36) (by decide) rfl rfl c35 s35 (by decide) (by decide) (fun H36 P37 c36 s36 => ?_)
  refine w_m P37 (n := 15) (by decide) rfl rfl c36 s36 (by decide) (by decide) (fun H37 P38 c37 s37 => ?_)
  refine w_m P38 (n := 9) (by decide) rfl rfl c37 s37 (by decide) (by decide) (fun H38 P39 c38 s38 => ?_)
  refine w_m P39 (n := 16) (by decide) rfl rfl c38 s38 (by decide) (by decide) (fun H39 P40 c39 s39 => ?_)
  refine w_m P40 (n := 16) (by decide) rfl rfl c39 s39 (by decide) (by decide) (fun H40 P41 c40 s40 => ?_)
  refine w_m P41 (n := 16) (by decide) rfl rfl c40 s40 (by decide) (by decide) (fun H41 P42 c41 s41 => ?_)
  refine w_m P42 (n := 16) (by decide) rfl rfl c41 s41 (by decide) (by decide) (fun H42 P43 c42 s42 => ?_)
  refine w_m P43 (n := 3) (by decide) rfl rfl c42 s42 (by decide) (by decide) (fun H43 P44 c43 s43 => ?_)
  refine w_m P44 (n := 9) (by decide) rfl rfl c43 s43 (by decide) (by decide) (fun H44 P45 c44 s44 => ?_)
  refine w_m P45 (n := 3) (by decide) rfl rfl c44 s44 (by decide) (by decide) (fun H45 P46 c45 s45 => ?_)
  refine w_m P46 (n := 216) (by decide) rfl rfl c45 s45 (by decide) (by decide) (fun H46 P47 c46 s46 => ?_)
  refine w_m P47 (n := 72) (by decide) rfl rfl c46 s46 (by decide) (by decide) (fun H47 P48 c47 s47 => ?_)
  refine w_m P48 (n := 72) (by decide) rfl rfl c47 s47 (by decide) (by decide) (fun H48 P49 c48 s48 => ?_)
  refine w_m P49 (n := 576) (by decide) rfl rfl c48 s48 (by decide) (by decide) (fun H49 P50 c49 s49 => ?_)
  refine w_m P50 (n := 72) (by decide) rfl rfl c49 s49 (by decide) (by decide) (fun H50 P51 c50 s50 => ?_)
  refine w_m P51 (n := 72) (by decide) rfl rfl c50 s50 (by decide) (by decide) (fun H51 P52 c51 s51 => ?_)
  refine w_m P52 (n := 72) (by decide) rfl rfl c51 s51 (by decide) (by decide) (fun H52 P53 c52 s52 => ?_)
  refine w_m P53 (n := 72) (by decide) rfl rfl c52 s52 (by decide) (by decide) (fun H53 P54 c53 s53 => ?_)
  refine w_m P54 (n := 72) (by decide) rfl rfl c53 s53 (by decide) (by decide) (fun H54 P55 c54 s54 => ?_)
  refine w_m P55 (n := 72) (by decide) rfl rfl c54 s54 (by decide) (by decide) (fun H55 P56 c55 s55 => ?_)
  refine w_m P56 (n := 72) (by decide) rfl rfl c55 s55 (by decide) (by decide) (fun H56 P57 c56 s56 => ?_)
  refine w_m P57 (n := 72) (by decide) rfl rfl c56 s56 (by decide) (by decide) (fun H57 P58 c57 s57 => ?_)
  refine w_m P58 (n := 72) (by decide) rfl rfl c57 s57 (by decide) (by decide) (fun H58 P59 c58 s58 => ?_)
  refine w_m P59 (n := 72) (by decide) rfl rfl c58 s58 (by decide) (by decide) (fun H59 P60 c59 s59 => ?_)
  refine w_m P60 (n := 72) (by decide) rfl rfl c59 s59 (by decide) (by decide) (fun H60 P61 c60 s60 => ?_)
  refine w_m P61 (n := 72) (by decide) rfl rfl c60 s60 (by decide) (by decide) (fun H61 P62 c61 s61 => ?_)
  refine w_m P62 (n := 72) (by decide) rfl rfl c61 s61 (by decide) (by decide) (fun H62 P63 c62 s62 => ?_)
  refine w_m P63 (n := 72) (by decide) rfl rfl c62 s62 (by decide) (by decide) (fun H63 P64 c63 s63 => ?_)
  refine w_m P64 (n := 1152) (by decide) rfl rfl c63 s63 (by decide) (by decide) (fun H64 P65 c64 s64 => ?_)
  have Z0 : ZG (bz 0 0 0 0 0) (fun _ _ => 0) := ⟨fun _ _ => Or.inl rfl, fun K9 i9 _ h9 => absurd h9 (by have : bz 0 0 0 0 0 K9 = 0 := (by unfold bz; split <;> (try split) <;> (try split) <;> (try split) <;> rfl); omega)⟩
  clear c64 s64
  generalize H64 = g at P65 ⊢
  have l448 : ∀ (m : Nat) (n : Int32) (F : xF), ZG (bz 72 36 15 9 n.toInt) F → (0 ≤ n.toInt ∧ n.toInt ≤ 16) → (16 - n.toInt).toNat < m → xR (10 + m) 89 448 ([.inr (.inr (8, 1)), .inl n], [], mh g F) Z := by
    intro m
    induction m with
    | zero => intro n F _ _ hm; exact absurd hm (by omega)
    | succ m ih =>
      intro n F z hn hm
      refine xR.blk (n := 10 + m) c89_448 ?_
      refine q_iload rfl (v_iconst (k := 16) rfl (fun v1 e1 => v_icmp_ge (fun d => ?_) (fun d => ?_)))
      · exact (xR.blk (n := 1) c89_467 (q_ret (hZ _ _ P65 (z.mono (fun K9 => by unfold bz; split <;> (try split) <;> (try split) <;> (try split) <;> omega))))).up (by omega)
      · refine q_aload rfl (by decide) (mi_gfr P65 (n := 16) (by decide) (q_iload rfl (v_iconst (k := -1) rfl (fun w41 f41 => mi_ast P65 (k := 23) (n := 16) (by decide) (by omega) (by omega) ?_))))
        refine v_iinc (k := 1) rfl rfl (by omega) (by omega) (fun n2 e2 => q_goto ?_)
        exact ih n2 _ (ZG.put z f41 (by decide) hn.1 (fun K9 h9 => by unfold zk at h9; unfold bz; split <;> (try split) <;> (try split) <;> (try split) <;> omega)) (by omega) (by omega)
  have l427 : ∀ (m : Nat) (n : Int32) (F : xF), ZG (bz 72 36 15 n.toInt 0) F → (0 ≤ n.toInt ∧ n.toInt ≤ 9) → (9 - n.toInt).toNat < m → xR (36 + m) 89 427 ([.inr (.inr (8, 1)), .inl n], [], mh g F) Z := by
    intro m
    induction m with
    | zero => intro n F _ _ hm; exact absurd hm (by omega)
    | succ m ih =>
      intro n F z hn hm
      refine xR.blk (n := 36 + m) c89_427 ?_
      refine q_iload rfl (v_iconst (k := 9) rfl (fun v1 e1 => v_icmp_ge (fun d => ?_) (fun d => ?_)))
      · refine xR.up (xR.blk (n := 28) c89_446 (v_iconst (k := 0) rfl (fun z0 ez0 => q_istore (Nat.le_of_ble_eq_true rfl) (q_goto ?_)))) (show 28 + 1 ≤ 36 + m by omega)
        exact (l448 17 z0 F (z.mono (fun K9 => by unfold bz; split <;> (try split) <;> (try split) <;> (try split) <;> omega)) (by omega) (by omega)).up (by omega)
      · refine q_aload rfl (by decide) (mi_gfr P65 (n := 9) (by decide) (q_iload rfl (v_iconst (k := -1) rfl (fun w38 f38 => mi_ast P65 (k := 19) (n := 9) (by decide) (by omega) (by omega) ?_))))
        refine v_iinc (k := 1) rfl rfl (by omega) (by omega) (fun n2 e2 => q_goto ?_)
        exact ih n2 _ (ZG.put z f38 (by decide) hn.1 (fun K9 h9 => by unfold zk at h9; unfold bz; split <;> (try split) <;> (try split) <;> (try split) <;> omega)) (by omega) (by omega)
  have l406 : ∀ (m : Nat) (n : Int32) (F : xF), ZG (bz 72 36 n.toInt 0 0) F → (0 ≤ n.toInt ∧ n.toInt ≤ 15) → (15 - n.toInt).toNat < m → xR (55 + m) 89 406 ([.inr (.inr (8, 1)), .inl n], [], mh g F) Z := by
    intro m
    induction m with
    | zero => intro n F _ _ hm; exact absurd hm (by omega)
    | succ m ih =>
      intro n F z hn hm
      refine xR.blk (n := 55 + m) c89_406 ?_
      refine q_iload rfl (v_iconst (k := 15) rfl (fun v1 e1 => v_icmp_ge (fun d => ?_) (fun d => ?_)))
      · refine xR.up (xR.blk (n := 47) c89_425 (v_iconst (k := 0) rfl (fun z0 ez0 => q_istore (Nat.le_of_ble_eq_true rfl) (q_goto ?_)))) (show 47 + 1 ≤ 55 + m by omega)
        exact (l427 10 z0 F (z.mono (fun K9 => by unfold bz; split <;> (try split) <;> (try split) <;> (try split) <;> omega)) (by omega) (by omega)).up (by omega)
      · refine q_aload rfl (by decide) (mi_gfr P65 (n := 15) (by decide) (q_iload rfl (v_iconst (k := -1) rfl (fun w37 f37 => mi_ast P65 (k := 18) (n := 15) (by decide) (by omega) (by omega) ?_))))
        refine v_iinc (k := 1) rfl rfl (by omega) (by omega) (fun n2 e2 => q_goto ?_)
        exact ih n2 _ (ZG.put z f37 (by decide) hn.1 (fun K9 h9 => by unfold zk at h9; unfold bz; split <;> (try split) <;> (try split) <;> (try split) <;> omega)) (by omega) (by omega)
  have l385 : ∀ (m : Nat) (n : Int32) (F : xF), ZG (bz 72 n.toInt 0 0 0) F → (0 ≤ n.toInt ∧ n.toInt ≤ 36) → (36 - n.toInt).toNat < m → xR (80 + m) 89 385 ([.inr (.inr (8, 1)), .inl n], [], mh g F) Z := by
    intro m
    induction m with
    | zero => intro n F _ _ hm; exact absurd hm (by omega)
    | succ m ih =>
      intro n F z hn hm
      refine xR.blk (n := 80 + m) c89_385 ?_
      refine q_iload rfl (v_iconst (k := 36) rfl (fun v1 e1 => v_icmp_ge (fun d => ?_) (fun d => ?_)))
      · refine xR.up (xR.blk (n := 72) c89_404 (v_iconst (k := 0) rfl (fun z0 ez0 => q_istore (Nat.le_of_ble_eq_true rfl) (q_goto ?_)))) (show 72 + 1 ≤ 80 + m by omega)
        exact (l406 16 z0 F (z.mono (fun K9 => by unfold bz; split <;> (try split) <;> (try split) <;> (try split) <;> omega)) (by omega) (by omega)).up (by omega)
      · refine q_aload rfl (by decide) (mi_gfr P65 (n := 36) (by decide) (q_iload rfl (v_iconst (k := -1) rfl (fun w36 f36 => mi_ast P65 (k := 17) (n := 36) (by decide) (by omega) (by omega) ?_))))
        refine v_iinc (k := 1) rfl rfl (by omega) (by omega) (fun n2 e2 => q_goto ?_)
        exact ih n2 _ (ZG.put z f36 (by decide) hn.1 (fun K9 h9 => by unfold zk at h9; unfold bz; split <;> (try split) <;> (try split) <;> (try split) <;> omega)) (by omega) (by omega)
  have l350 : ∀ (m : Nat) (n : Int32) (F : xF), ZG (bz n.toInt 0 0 0 0) F → (0 ≤ n.toInt ∧ n.toInt ≤ 72) → (72 - n.toInt).toNat < m → xR (126 + m) 89 350 ([.inr (.inr (8, 1)), .inl n], [], mh g F) Z := by
    intro m
    induction m with
    | zero => intro n F _ _ hm; exact absurd hm (by omega)
    | succ m ih =>
      intro n F z hn hm
      refine xR.blk (n := 126 + m) c89_350 ?_
      refine q_iload rfl (v_iconst (k := 72) rfl (fun v1 e1 => v_icmp_ge (fun d => ?_) (fun d => ?_)))
      · refine xR.up (xR.blk (n := 118) c89_383 (v_iconst (k := 0) rfl (fun z0 ez0 => q_istore (Nat.le_of_ble_eq_true rfl) (q_goto ?_)))) (show 118 + 1 ≤ 126 + m by omega)
        exact (l385 37 z0 F (z.mono (fun K9 => by unfold bz; split <;> (try split) <;> (try split) <;> (try split) <;> omega)) (by omega) (by omega)).up (by omega)
      · refine q_aload rfl (by decide) (mi_gfr P65 (n := 72) (by decide) (q_iload rfl (v_iconst (k := -1) rfl (fun w24 f24 => mi_ast P65 (k := 5) (n := 72) (by decide) (by omega) (by omega) ?_))))
        refine q_aload rfl (by decide) (mi_gfr P65 (n := 72) (by decide) (q_iload rfl (v_iconst (k := -1) rfl (fun w28 f28 => mi_ast P65 (k := 9) (n := 72) (by decide) (by omega) (by omega) ?_))))
        refine q_aload rfl (by decide) (mi_gfr P65 (n := 72) (by decide) (q_iload rfl (v_iconst (k := -1) rfl (fun w57 f57 => mi_ast P65 (k := 39) (n := 72) (by decide) (by omega) (by omega) ?_))))
        refine v_iinc (k := 1) rfl rfl (by omega) (by omega) (fun n2 e2 => q_goto ?_)
        have q1 : ZG (fun K => if K = 24 then n.toInt + 1 else bz n.toInt 0 0 0 0 K) (x_u2 F 24 n.toNatClampNeg w24) := ZG.put z f24 (by decide) hn.1 (fun K9 h9 => by unfold zk at h9; unfold bz; split <;> (try split) <;> (try split) <;> (try split) <;> (try split) <;> omega)
        have q2 : ZG (fun K => if K = 24 ∨ K = 28 then n.toInt + 1 else bz n.toInt 0 0 0 0 K) (x_u2 (x_u2 F 24 n.toNatClampNeg w24) 28 n.toNatClampNeg w28) := ZG.put q1 f28 (by decide) hn.1 (fun K9 h9 => by unfold zk at h9; unfold bz; split <;> (try split) <;> (try split) <;> (try split) <;> (try split) <;> (try split) <;> omega)
        exact ih n2 _ (ZG.put q2 f57 (by decide) hn.1 (fun K9 h9 => by unfold zk at h9; unfold bz; split <;> (try split) <;> (try split) <;> (try split) <;> (try split) <;> (try split) <;> omega)) (by omega) (by omega)
  refine v_iconst (k := 0) rfl (fun z0 ez0 => q_istore (Nat.le_of_ble_eq_true rfl) (q_goto ?_))
  have := (l350 73 z0 _ (Z0.mono (fun K9 => by unfold bz; split <;> (try split) <;> (try split) <;> (try split) <;> omega)) (by omega) (by omega)).up (show _ ≤ 999 by omega)
  rw [P65.eq0] at this
  exact this
