/-! THE LAW: its own instructions, its invariant -/
def x_sld : xI := fun _ _ _ q S => match S.2.1 with
  | .inl i :: .inr (.inr (t, j)) :: st => t = 10 ∧ j = 1 ∧ (0 ≤ i.toInt ∧ i.toInt < x_ln S.2.2 10 1) ∧ q (S.1, .inl (x_vi S.2.2 10 1 i.toNatClampNeg) :: st, S.2.2)
  | _ => False
def x_slen : xI := fun _ _ _ q S => match S.2.1 with
  | .inr (.inr (t, j)) :: st => t = 10 ∧ j = 1 ∧ q (S.1, .inl (Int32.ofNat (x_ln S.2.2 10 1)) :: st, S.2.2)
  | _ => False
def x_newl (bc bs : Nat) : xI := fun _ _ _ q S => match S.2.1 with
  | .inl n :: st => n = 1 ∧ x_cn S.2.2 21 = 0 ∧ x_ce S.2.2 + 1 ≤ bc ∧ x_so S.2.2 + 1 ≤ bs ∧ q (S.1, .inr (.inr (21, 1)) :: st, x_newa S.2.2 21 1)
  | _ => False
section XL1
variable {xm : Nat → xM} {M : xM} {pc : Nat}
theorem x_cv10 {n0 : Nat} {oa : Nat → Nat → Nat} {h : xH} : x_cv n0 oa h (.inr (.inr (10, 1))) = .ref (oa 10 1) := by
  show x_cr n0 oa h 10 1 = _
  unfold x_cr x_addr
  rw [if_neg (by decide), if_pos (by decide)]
theorem snd_sld (hd : decode M.cd pc = .ok (.iaload, 1)) : x_Snd xm M pc (pc + 1) x_sld := by
  rintro n0 oa D p l e R s m args below meth c Γ Z J q h0 ⟨ls, st, h⟩ C - hf hq - H locs fl hR hle hL h1 h2 hS hc hs
  obtain ⟨hx, hb, -, -, -, -, -, -, -, -, hSt, hn0, -⟩ := C
  unfold x_sld at hf
  dsimp only at hf hR hle hL h1 h2 hc hs ⊢
  split at hf
  · rename_i i t j st
    obtain ⟨rfl, rfl, hin, hf⟩ := hf
    have e1 : x_ln h 10 1 = x_ln h0 10 1 := congrFun hle.2.2.2 1
    have e2 : x_vi h 10 1 = x_vi h0 10 1 := congrFun hle.2.2.1 1
    have hb10 : oa 10 1 < n0 := hSt.2.2.2.2.2.1
    rw [List.map_cons, List.map_cons, x_cv10]
    refine va_sld (A := fun q => n0 ≤ q) hx hb hSt.2.2.2.2.1 (Nat.lt_of_lt_of_le hb10 hn0) (by show ¬ n0 ≤ oa 10 1; omega) hS (vp_in_iff.mpr (by rw [← e1]; exact hin)) hd ?_
    rw [← e2]
    exact hq _ hf H locs fl hR hle hL h1 (x_lvs_cons trivial (x_tl (x_tl h2))) hS hc hs
  · exact hf.elim
theorem snd_slen (hd : decode M.cd pc = .ok (.arraylength, 1)) : x_Snd xm M pc (pc + 1) x_slen := by
  rintro n0 oa D p l e R s m args below meth c Γ Z J q h0 ⟨ls, st, h⟩ C - hf hq - H locs fl hR hle hL h1 h2 hS hc hs
  obtain ⟨hx, hb, -, -, -, -, -, -, -, -, hSt, hn0, -⟩ := C
  unfold x_slen at hf
  dsimp only at hf hR hle hL h1 h2 hc hs ⊢
  split at hf
  · rename_i t j st
    obtain ⟨rfl, rfl, hf⟩ := hf
    have e1 : x_ln h 10 1 = x_ln h0 10 1 := congrFun hle.2.2.2 1
    have hb10 : oa 10 1 < n0 := hSt.2.2.2.2.2.1
    rw [List.map_cons, x_cv10]
    refine va_slen (A := fun q => n0 ≤ q) hx hb hSt.2.2.2.2.1 (Nat.lt_of_lt_of_le hb10 hn0) (by show ¬ n0 ≤ oa 10 1; omega) hS hd ?_
    rw [← e1]
    exact hq _ hf H locs fl hR hle hL h1 (x_lvs_cons trivial (x_tl h2)) hS hc hs
  · exact hf.elim
theorem snd_newl {bc bs : Nat} (hbc : bc = M.mc) (hbs : bs = M.ms) (hc1 : Cond.arrayClass .long ∈ x_big) (hd : decode M.cd pc = .ok (.newarray .long, 2)) : x_Snd xm M pc (pc + 2) (x_newl bc bs) := by
  rintro n0 oa D p l e R s m args below meth c Γ Z J q h0 ⟨ls, st, h⟩ C - hf hq - H locs fl hR hle hL h1 h2 hS hc hs
  obtain ⟨hx, hb, -, hown, hts, -, -, -, -, hKn, -, -, hRm, -⟩ := C
  have hK : xk_a 21 := ⟨by decide, by decide⟩
  unfold x_newl at hf
  dsimp only at hf hR hle hL h1 h2 hc hs ⊢
  split at hf
  · rename_i n st
    obtain ⟨rfl, h21, b1, b2, hf⟩ := hf
    subst hbc; subst hbs; subst hRm
    refine va_newaK (atype := .long) (N := 1) hx hb (hts _ hc1) rfl hd rfl (by decide) (by decide) (by decide) b1 b2 rfl fun H1 cA e1 z1 o1 hAr hNm => ?_
    have hcA : cA = D.2.2 21 := by
      have h9 : va_RA s (D.2.2 21) .long := (hKn.2 21 hK).2
      exact Option.some.inj (hNm.symm.trans h9)
    subst hcA
    have hR1 : x_Rep n0 oa D (x_newa h 21 1) H1 := hR.newa hK (fun _ => h21) z1 o1 e1
    have hlv : x_live (x_newa h 21 1) 21 (x_cn h 21 + 1) := ⟨by omega, by rw [x_newa_cn, if_pos rfl]; exact Nat.le_refl _⟩
    have e9 : x_cr n0 oa (x_newa h 21 1) 21 (x_cn h 21 + 1) = .ref H.size := by
      rw [x_cr_in (Or.inr hK) hlv]
      show Value.ref (n0 + x_u2 (x_ad h) 21 (x_cn h 21 + 1) (x_sz h) 21 (x_cn h 21 + 1)) = _
      unfold x_u2
      rw [if_pos ⟨rfl, rfl⟩, hR.1]
    rw [h21] at e9 hlv
    have hl := x_le.newa (h := h) (n := 1) (x_a_ne10 hK)
    have := hq _ hf H1 locs fl hR1 (hle.tr hl) (hL.le hl h1) (x_lvs_le hl h1) (x_lvs_cons hlv.2 (x_lvs_le hl (x_tl h2))) (x_S_grow hS (by omega) o1) b1 b2
    rw [List.map_cons, show x_cv n0 oa _ (.inr (.inr (21, 1))) = _ from e9, x_cvs_le hl (x_tl h2)] at this
    exact this
  · exact hf.elim
end XL1
section XL2
variable {n0 : Nat} {oa : Nat → Nat → Nat} {D : (Nat → ClassId) × (Nat → Nat → Nat) × (Nat → ClassId)} {p : Program} {l : Launch} {e : Env} {R : Room} {s : State} {m : MethodId} {args : Array Value} {below : List Frame} {meth : Method} {c : Code} {M : xM} {h0 : xH} {pc : Nat} {ls st : List xV} {h : xH}
theorem x_PcW_blind {a : List xV} : FrameBlind (x_PcW n0 oa D a h) := by
  intro args U g mk ⟨q1, q2⟩
  exact ⟨x_Pc_blind args U g mk q1, va_Nc.moved (u := U) (U := U.calling g mk args) (Vm.Alike.refl U.vm) q2⟩
/-- a caller's call -/
theorem a_callw {hh : List (Nat × Nat × Nat × Nat)} {Z Zc : xO → xH → Prop} {M' : xM} {idx : Nat} {as9 rest : List xV} (C : x_Cx n0 oa D M h0 p l R s m args meth c) (hnc : va_Nc (x_en 2) (x_en 1) s) (hcon : x_ConW n0 oa D M' hh as9 (x_setc h 0 0) Zc) (hnt : ∀ k h1, ¬ Zc (.inr k) h1)
    (w1 : Cond.codeWith M'.y M'.cd M'.mL M'.rt hh ∈ x_big) (w2 : Cond.methodLink M.own idx M'.y ∈ x_big) (w3 : Cond.static M'.y ∈ x_big) (w4 : Cond.initialized M'.y.cls ∈ x_big)
    (hd0 : M'.y.cls ≠ "java/lang/invoke/MethodHandle" ∧ M'.y.cls ≠ "java/lang/invoke/VarHandle" ∧ (parseMethodDescriptor M'.y.desc).map (fun d => d.parameters.length) = some as9.length) (hfr : M'.fr + 1 ≤ M.fr) (hlo : 8 + (M'.mL + 11) + M'.lo ≤ M.lo)
    (hd : decode M.cd pc = .ok (.invokestatic idx, 3)) (hcats : x_cats rest ≤ 8) (b1 : x_ce h + M'.mc ≤ M.mc) (b2 : x_so h + M'.ms ≤ M.ms)
    (kq : ∀ v h1, Zc (.inl v) h1 → x_At n0 oa D p l e R s m args below meth c M h0 (x_MQ n0 oa D s args below M h0 Z) (pc + 3) (ls, v.toList ++ rest, x_setc h1 (x_ce h + M'.mc) (x_so h + M'.ms))) :
    x_At n0 oa D p l e R s m args below meth c M h0 (x_MQ n0 oa D s args below M h0 Z) pc (ls, as9.reverse ++ rest, h) := by
  intro H locs fl hR hle hL h1 h2 hS hc hs
  dsimp only at hR hle hL h1 h2 hc hs ⊢
  obtain ⟨hx, hb, hml, hown, hts, hr, hlocks, hini, htab, hKn, hSt, hn0, hRm, hl⟩ := id C
  have hmem : ∀ v ∈ as9, x_lv (x_setc h 0 0) v := fun v hv => h2 _ (List.mem_append_left _ (List.mem_reverse.mpr hv))
  have hrest : ∀ v ∈ rest, x_lv h v := fun v hv => h2 _ (List.mem_append_right _ hv)
  have hM := x_noThrow (fun E st9 t9 hX => by obtain ⟨k, h9, hz, -⟩ := hX; exact hnt _ _ hz) (hcon l hl hmem)
  refine x_after (Zc := Zc) C hR hle hL h1 hrest hS b1 b2 ?_ kq (fun k h9 hz => absurd hz (hnt _ _))
  have hT : GoodIn x_big (va_wsS M.own idx M'.y (x_wsW M' hh)) := x_goodIn (fun w hw => by
    rcases List.mem_append.mp hw with hw | hw
    · simp only [List.mem_cons, List.not_mem_nil, or_false] at hw
      rcases hw with rfl | rfl | rfl
      · exact w2
      · exact w3
      · exact w4
    · rcases List.mem_cons.mp hw with rfl | hw
      · exact w1
      · exact hw)
  have hrun := vx_runSW (R := R) (n := as9.length) (As := as9.map (x_cv n0 oa h)) (rest := rest.map (x_cv n0 oa h)) (Ts := x_big) (own := M.own) (H := H) (locs := locs) (cells := x_ce h) (slots := x_so h) (e := e) (below := below) (meth := meth) (g := F0 m pc fl ((as9.reverse ++ rest).map (x_cv n0 oa h))) ⟨hx, hb, hml, hown, hts⟩ hM (vx_cwSW as9.length hts hT rfl rfl rfl hd0 ⟨by rw [hRm]; exact hfr, by rw [hRm]; exact hlo⟩) ⟨x_PcW_blind, fun U hU hW => ⟨⟨rfl, by rw [hU]; exact hR, x_K.moved hW.alike hKn, by
      rw [hU]
      have e1 : x_ln (x_setc h 0 0) 10 1 = x_ln h0 10 1 := congrFun hle.2.2.2 1
      have e2 : x_vi (x_setc h 0 0) 10 1 = x_vi h0 10 1 := congrFun hle.2.2.1 1
      rw [e1, e2]
      exact x_St.moved hW (hSt.kept hn0 hS.2.1), by rw [hU]; exact Nat.le_trans hn0 hS.1⟩, va_Nc.moved hW.alike hnc⟩⟩ rfl (by simp) hL.2.1 (by
      show (as9.reverse ++ rest).map (x_cv n0 oa h) = _
      rw [List.map_append, List.map_reverse]) (by
      have := x_cats_eq (n0 := n0) (oa := oa) (h := h) rest
      show 2 * 0 + _ ≤ 8
      omega) hd ⟨by rw [hRm]; exact b1, by rw [hRm]; exact b2⟩
  intro T hT X
  obtain ⟨v, st₀, t', T', L, e0, X', hL', e1, e2, hQ, go⟩ := hrun T hT X
  exact Or.inl ⟨v, st₀, t', T', L, e0, X', hL', e1, e2, hQ, go⟩
/-- a block of the law -/
theorem a_blk {N : Nat} {Z : xO → xH → Prop} {S : xS} {B : List (Nat × xI)} (C : x_Cx n0 oa D M h0 p l R s m args meth c) (hok : x_okL x_xm M pc B) (hB : x_seq B (xC N) Z (fun pc' S' => x_At n0 oa D p l e R s m args below meth c M h0 (x_MQ n0 oa D s args below M h0 Z) pc' S') S) : x_At n0 oa D p l e R s m args below meth c M h0 (x_MQ n0 oa D s args below M h0 Z) pc S :=
  x_seq_snd C (fun μ a h' Z' hΓ => hΓ.con n0 oa D) (fun pc' S' hJ => hJ) B pc S hok hB
end XL2
-- what the law keeps
def LI (Ls : Nat × (Nat → Int32)) (h : xH) (F : xF) : Prop := CI h ∧ MS (x_setc h 0 0) ∧ MX 72 F ∧ mh h F = h ∧ x_cn h 21 = 1 ∧ x_ln h 21 1 = 1 ∧ (x_ln h 10 1, x_vi h 10 1) = Ls
section XL3
variable {Ls : Nat × (Nat → Int32)} {h g : xH} {F F' : xF} {a b : Nat}
theorem LI.setc (I : LI Ls h F) : LI Ls (x_setc h a b) F := ⟨I.1, I.2.1, I.2.2.1, congrArg (fun z => x_setc z a b) I.2.2.2.1, I.2.2.2.2⟩
theorem LI.putl {v : Int64} (I : LI Ls h F) : LI Ls (x_putl h v) F := ⟨I.1, I.2.1, I.2.2.1, congrArg (fun z => x_putl z v) I.2.2.2.1, I.2.2.2.2⟩
theorem x_mq_at (e : x_mq g = x_mq h) {K : Nat} (hK : xm_k K = true) : x_vi g K = x_vi h K ∧ x_vr g K = x_vr h K ∧ x_ln g K = x_ln h K ∧ x_cn g K = x_cn h K := by
  have := congrFun e K
  unfold x_mq at this
  rw [if_pos hK, if_pos hK] at this
  simp only [Option.some.injEq, Prod.mk.injEq] at this
  exact this
theorem mh_fix : mh h F = h ↔ ((∀ k, F 8 k = x_vi h 8 k 1) ∧ ∀ K i, 22 ≤ K ∧ K ≤ 64 → F K i = x_vi h K 1 i) := by
  constructor
  · intro q
    refine ⟨fun k => ?_, fun K i hK => ?_⟩
    · have := congrArg (fun z => x_vi z 8 k 1) q
      exact this
    · have := congrArg (fun z => x_vi z K 1 i) q
      refine Eq.trans ?_ this
      show _ = (if K = 8 ∧ i = 1 then F 8 1 else if (22 ≤ K ∧ K ≤ 64) ∧ 1 = 1 then F K i else x_vi h K 1 i)
      rw [if_neg (by omega), if_pos ⟨hK, rfl⟩]
  · rintro ⟨q1, q2⟩
    refine Prod.ext rfl (Prod.ext rfl (Prod.ext ?_ rfl))
    funext K k i
    show (if K = 8 ∧ i = 1 then F 8 k else if (22 ≤ K ∧ K ≤ 64) ∧ k = 1 then F K i else x_vi h K k i) = x_vi h K k i
    by_cases e : K = 8 ∧ i = 1
    · rw [if_pos e, e.1, e.2]; exact q1 k
    · rw [if_neg e]
      by_cases e2 : (22 ≤ K ∧ K ≤ 64) ∧ k = 1
      · rw [if_pos e2, e2.2]; exact q2 K i e2.1
      · rw [if_neg e2]
theorem xm_kr {K : Nat} (h : 22 ≤ K ∧ K ≤ 64) : xm_k K = true := by
  unfold xm_k
  simp only [Bool.or_eq_true, beq_iff_eq, decide_eq_true_eq]
  omega
theorem LI.mq (I : LI Ls h F) (hC : CI g) (e : x_mq g = x_mq h) : LI Ls g F := by
  obtain ⟨i1, i2, i3, i4, i5, i6, i7⟩ := I
  have e8 := x_mq_at e (K := 8) rfl
  have e21 := x_mq_at e (K := 21) rfl
  have e10 := x_mq_at e (K := 10) rfl
  refine ⟨hC, ⟨e8.2.2.2.trans i2.1, fun k K n hm => ?_, rfl, rfl⟩, i3, mh_fix.mpr ⟨fun k => ?_, fun K i hK => ?_⟩, e21.2.2.2.trans i5, (congrFun e21.2.2.1 1).trans i6, (Prod.ext (congrFun e10.2.2.1 1) (congrFun e10.1 1) : (x_ln g 10 1, x_vi g 10 1) = (x_ln h 10 1, x_vi h 10 1)).trans i7⟩
  · obtain ⟨q1, q2, q3⟩ := i2.2.1 k K n hm
    have eK := x_mq_at e (xm_kr (msl_K hm))
    exact ⟨(congrFun (congrFun e8.2.1 k) 1).trans q1, eK.2.2.2.trans q2, (congrFun eK.2.2.1 1).trans q3⟩
  · rw [e8.1]; exact (mh_fix.mp i4).1 k
  · rw [(x_mq_at e (xm_kr hK)).1]; exact (mh_fix.mp i4).2 K i hK
theorem mh_vi {K : Nat} (h8 : K ≠ 8) (hK : ¬ (22 ≤ K ∧ K ≤ 64)) : x_vi (mh h F) K = x_vi h K := by
  funext k i
  show (if K = 8 ∧ i = 1 then F 8 k else if (22 ≤ K ∧ K ≤ 64) ∧ k = 1 then F K i else x_vi h K k i) = x_vi h K k i
  rw [if_neg (fun z => h8 z.1), if_neg (fun z => hK z.1)]
theorem CI.ofmh (hC : CI h) : CI (mh h F) := by
  obtain ⟨a1, a2, a3, a4, a5, a6, a7, a8, a9, a10⟩ := hC
  refine ⟨a1, a2, fun K k lo hi j hm hj => ?_, a4, a5, a6, a7, fun j i hj hi => ?_, fun j i hj hi => ?_, fun j hj => ?_⟩
  · have hK : K ≠ 8 ∧ K ≤ 9 := by simp only [x_rgl, List.mem_cons, Prod.mk.injEq, List.not_mem_nil, or_false] at hm; omega
    rw [mh_vi hK.1 (by omega)]; exact a3 K k lo hi j hm hj
  · rw [mh_vi (by decide) (by decide)] at hi; exact a8 j i hj hi
  · rw [mh_vi (by decide) (by decide)] at hi; exact a9 j i hj hi
  · rw [mh_vi (by decide) (by decide)]; exact a10 j hj
theorem LI.rf (I : LI Ls h F) (hM : MX 72 F') : LI Ls (mh h F') F' := by
  obtain ⟨i1, i2, i3, i4, i5, i6, i7⟩ := I
  refine ⟨CI.ofmh i1, i2, hM, mh_fix.mpr ⟨fun k => rfl, fun K i hK => ?_⟩, i5, i6, (Prod.ext rfl (congrFun (mh_vi (K := 10) (h := h) (F := F') (by decide) (by decide)) 1) : (x_ln (mh h F') 10 1, x_vi (mh h F') 10 1) = (x_ln h 10 1, x_vi h 10 1)).trans i7⟩
  show _ = (if K = 8 ∧ i = 1 then F' 8 1 else if (22 ≤ K ∧ K ≤ 64) ∧ 1 = 1 then F' K i else x_vi h K 1 i)
  rw [if_neg (by omega), if_pos ⟨hK, rfl⟩]
theorem LI.l7 (I : LI Ls h F) : x_live h 7 1 := ⟨Nat.le_refl 1, by rw [I.1.2.2.2.2.2.2.1 7 1 (by decide)]; exact Nat.le_refl 1⟩
theorem LI.vi (I : LI Ls h F) : VI (x_pj h) 0 0 (x_setc h 0 0) := ⟨I.1, rfl, rfl, rfl⟩
theorem LI.g7 (I : LI Ls h F) : L (x_pj h) 7 1 := I.l7
end XL3
/-- a number of the script -/
theorem q_scr {n1 n2 n3 n4 n5 : Nat} {r : List (Nat × xI)} {Γ : xG} {Z : xO → xH → Prop} {J : Nat → xS → Prop} {ls st : List xV} {h : xH} {Ls : Nat × (Nat → Int32)} {i v : Int32} {k : Int} (hl0 : ls[0]? = some (.inr (.inr (10, 1)))) (hl4 : ls[4]? = some (.inl i)) (hv : v.toInt = k) (hk : 0 ≤ k ∧ k ≤ 5) (hs : (x_ln h 10 1, x_vi h 10 1) = Ls) (hi : 0 ≤ i.toInt ∧ i.toInt + 5 < (Ls.1 : Int)) (hL : Ls.1 ≤ 3072)
    (kk : x_seq r Γ Z J (ls, .inl (Ls.2 (i + v).toNatClampNeg) :: st, h)) : x_seq ((n1, x_aload 0) :: (n2, x_iload 4) :: (n3, x_iconst v) :: (n4, x_bin (fun x y => x + y)) :: (n5, x_sld) :: r) Γ Z J (ls, st, h) := by
  subst hs
  have hadd : (i + v).toInt = i.toInt + k := by rw [← hv]; exact i32_add (by omega) (by dsimp only at hi hL; omega)
  refine q_aload hl0 (by decide) (q_iload hl4 (q_iconst (q_bin ⟨rfl, rfl, ⟨by omega, ?_⟩, kk⟩)))
  show (i + v).toInt < (x_ln h 10 1 : Int)
  dsimp only at hi
  omega
theorem q_scr0 {n1 n2 n5 : Nat} {r : List (Nat × xI)} {Γ : xG} {Z : xO → xH → Prop} {J : Nat → xS → Prop} {ls st : List xV} {h : xH} {i : Int32} (hl0 : ls[0]? = some (.inr (.inr (10, 1)))) (hl4 : ls[4]? = some (.inl i)) (hi : 0 ≤ i.toInt ∧ i.toInt < (x_ln h 10 1 : Int))
    (kk : x_seq r Γ Z J (ls, .inl (x_vi h 10 1 i.toNatClampNeg) :: st, h)) : x_seq ((n1, x_aload 0) :: (n2, x_iload 4) :: (n5, x_sld) :: r) Γ Z J (ls, st, h) := q_aload hl0 (by decide) (q_iload hl4 ⟨rfl, rfl, hi, kk⟩)
