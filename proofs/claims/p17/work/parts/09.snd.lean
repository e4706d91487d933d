/-! SOUND INSTRUCTIONS: making cells, ends, calls -/
section XS4
variable {xm : Nat → xM} {M : xM} {pc : Nat}
theorem x_S_grow {A : Nat → Prop} {H0 H H1 : Heap} {locs : List Loc} (hS : va_S A H0 H locs) (z1 : H.size ≤ H1.size) (o1 : ∀ q, q < H.size → H1[q]? = H[q]?) : va_S A H0 H1 locs :=
  ⟨Nat.le_trans hS.1 z1, fun x a b => (o1 x (Nat.lt_of_lt_of_le a hS.1)).trans (hS.2.1 x a b), hS.2.2⟩
theorem x_def_int {ty : FieldType} (h : ty = .int ∨ ty = .boolean) : defaultValue ty = .int 0 := by rcases h with rfl | rfl <;> rfl
theorem x_def_ref {ty : FieldType} (h : ty.isReference = true) : defaultValue ty = .null := by cases ty <;> first | rfl | (cases h)
theorem xk_ftd : ∀ K, xk_o K → ∀ k, k < xk_N K → (x_ft K k = 0 → defaultValue (xk_ty K k) = .int 0) ∧ (x_ft K k ≠ 0 → defaultValue (xk_ty K k) = .null) := by
  refine xk_cases ?_ ?_ ?_ ?_ ?_ ?_ ?_ ?_ <;> decide +kernel
theorem snd_new {K N idx bc bs : Nat} (hK : xk_o K) (hN : xk_N K = N) (hbc : bc = M.mc) (hbs : bs = M.ms) (hc1 : Cond.classLink M.own idx (xk_C K) ∈ x_big) (hc2 : Cond.instantiable (xk_C K) N ∈ x_big) (hc3 : Cond.initialized (xk_C K) ∈ x_big) (hd : decode M.cd pc = .ok (.new idx, 3)) : x_Snd xm M pc (pc + 3) (x_newo K N bc bs) := by
  rintro n0 oa D p l e R s m args below meth c Γ Z J q h0 ⟨ls, st, h⟩ C - hf hq - H locs fl hR hle hL h1 h2 hS hc hs
  obtain ⟨hx, hb, -, hown, hts, -, -, -, -, hKn, -, -, hRm, -⟩ := C
  unfold x_newo at hf
  dsimp only at hf hR hle hL h1 h2 hc hs ⊢
  obtain ⟨b1, b2, hf⟩ := hf
  subst hN; subst hbc; subst hbs; subst hRm
  refine W.newcK hx hb hown (hts _ hc1) (hts _ hc2) (hts _ hc3) rfl hd b1 b2 (hKn.1 K hK).2.1 rfl fun H1 kC hkC e1 z1 o1 => ?_
  have hl := x_le.new (h := h) (K := K) (N := xk_N K) (x_o_ne10 hK)
  have hR1 : x_Rep n0 oa D (x_new h K (xk_N K)) H1 := by
    refine hR.new hK z1 o1 ((u_born (xk_ty K) hts (xk_in K hK) (hKn.1 K hK) hkC e1 (xk_tyok K hK)).to fun k hk => ?_)
    have hft := xk_ftd K hK k hk
    unfold x_cf
    by_cases e9 : x_ft K k = 0
    · rw [if_pos e9, hft.1 e9]
      show _ = Value.int (if K = K ∧ x_cn h K + 1 = x_cn h K + 1 then 0 else x_vi h K k (x_cn h K + 1))
      rw [if_pos ⟨rfl, rfl⟩]
    · rw [if_neg e9, hft.2 e9]
      show _ = x_cr n0 oa _ _ (if K = K ∧ x_cn h K + 1 = x_cn h K + 1 then 0 else x_vr h K k (x_cn h K + 1))
      rw [if_pos ⟨rfl, rfl⟩]
      rfl
  have hlv : x_live (x_new h K (xk_N K)) K (x_cn h K + 1) := ⟨by omega, by rw [x_new_cn, if_pos rfl]; exact Nat.le_refl _⟩
  have e9 : x_cr n0 oa (x_new h K (xk_N K)) K (x_cn h K + 1) = .ref H.size := by
    rw [x_cr_in (Or.inl hK) hlv]
    show Value.ref (n0 + x_u2 (x_ad h) K (x_cn h K + 1) (x_sz h) K (x_cn h K + 1)) = _
    unfold x_u2
    rw [if_pos ⟨rfl, rfl⟩, hR.1]
  have := hq _ hf H1 locs fl hR1 (hle.tr hl) (hL.le hl h1) (x_lvs_le hl h1) (x_lvs_cons hlv.2 (x_lvs_le hl h2)) (x_S_grow hS (by omega) o1) b1 b2
  rw [List.map_cons, show x_cv n0 oa (x_new h K (xk_N K)) (.inr (.inr (K, x_cn h K + 1))) = _ from e9, x_cvs_le hl h2] at this
  exact this
theorem x_newa_done {n0 : Nat} {oa : Nat → Nat → Nat} {D : (Nat → ClassId) × (Nat → Nat → Nat) × (Nat → ClassId)} {h : xH} {H H1 : Heap} {K n : Nat} (hR : x_Rep n0 oa D h H) (hK : xk_a K) (h21 : K ≠ 21) {v : Value} (hv : (x_et K = 0 ∧ v = .int 0) ∨ (x_et K ≠ 0 ∧ v = .null))
    (e1 : H1[H.size]? = some (arrV (D.2.2 K) n (fun _ => v))) (z1 : H1.size = H.size + 1) (o1 : ∀ q, q < H.size → H1[q]? = H[q]?) :
    x_Rep n0 oa D (x_newa h K n) H1 ∧ x_live (x_newa h K n) K (x_cn h K + 1) ∧ x_cr n0 oa (x_newa h K n) K (x_cn h K + 1) = .ref H.size := by
  have hlv : x_live (x_newa h K n) K (x_cn h K + 1) := ⟨by omega, by rw [x_newa_cn, if_pos rfl]; exact Nat.le_refl _⟩
  refine ⟨hR.newa hK (fun z => absurd z h21) z1 o1 ?_, hlv, ?_⟩
  · rw [e1]
    refine congrArg some (congrArg (arrV _ _) (funext fun i => ?_))
    unfold x_ae
    rw [if_neg h21]
    rcases hv with ⟨e9, rfl⟩ | ⟨e9, rfl⟩
    · rw [if_pos e9]
      show _ = Value.int (if K = K ∧ x_cn h K + 1 = x_cn h K + 1 then 0 else x_vi h K (x_cn h K + 1) i)
      rw [if_pos ⟨rfl, rfl⟩]
    · rw [if_neg e9]
      show _ = x_cr n0 oa _ _ (if K = K ∧ x_cn h K + 1 = x_cn h K + 1 then 0 else x_vr h K (x_cn h K + 1) i)
      rw [if_pos ⟨rfl, rfl⟩]
      rfl
  · rw [x_cr_in (Or.inr hK) hlv]
    show Value.ref (n0 + x_u2 (x_ad h) K (x_cn h K + 1) (x_sz h) K (x_cn h K + 1)) = _
    unfold x_u2
    rw [if_pos ⟨rfl, rfl⟩, hR.1]
theorem x_nn {n : Int32} (h : 0 ≤ n.toInt) : ¬ n < 0 := by
  intro q
  have := Int32.lt_iff_toInt_lt.mp q
  have e0 : (0 : Int32).toInt = 0 := rfl
  omega
theorem x_clamp {n : Int32} (h : 0 ≤ n.toInt) : (n.toNatClampNeg : Int) = n.toInt := by
  have : n.toNatClampNeg = n.toInt.toNat := rfl
  omega
/-- newarray of ints or booleans -/
theorem snd_newr {K bc bs : Nat} {at9 : ArrayType} (hK : xk_a K) (h21 : K ≠ 21) (hty : newarray.typeOf at9 = xk_ety K) (hib : xk_ety K = .int ∨ xk_ety K = .boolean) (he : x_et K = 0) (hbc : bc = M.mc) (hbs : bs = M.ms) (hc1 : Cond.arrayClass (newarray.typeOf at9) ∈ x_big) (hd : decode M.cd pc = .ok (.newarray at9, 2)) : x_Snd xm M pc (pc + 2) (x_newr K bc bs) := by
  rintro n0 oa D p l e R s m args below meth c Γ Z J q h0 ⟨ls, st, h⟩ C - hf hq - H locs fl hR hle hL h1 h2 hS hc hs
  obtain ⟨hx, hb, -, hown, hts, -, -, -, -, hKn, -, -, hRm, -⟩ := C
  unfold x_newr at hf
  dsimp only at hf hR hle hL h1 h2 hc hs ⊢
  split at hf
  · rename_i n st
    obtain ⟨n1, n2, b1, b2, hf⟩ := hf
    subst hbc; subst hbs; subst hRm
    have hcl := x_clamp n1
    refine va_newaK hx hb (hts _ hc1) rfl hd rfl (x_nn n1) rfl (by have : componentBytes (newarray.typeOf at9) ≤ 8 := (by cases at9 <;> decide); have := Nat.mul_le_mul_left n.toNatClampNeg this; omega) b1 b2 rfl fun H1 cA e1 z1 o1 hAr hNm => ?_
    have hcA : cA = D.2.2 K := by
      have h9 := (hKn.2 K hK).2
      rw [hty] at hNm
      rcases hib with e | e <;> (rw [e] at h9 hNm; exact Option.some.inj (hNm.symm.trans h9))
    subst hcA
    rw [hty, x_def_int hib] at e1
    obtain ⟨hR1, hlv, e9⟩ := x_newa_done (K := K) hR hK h21 (Or.inl ⟨he, rfl⟩) e1 z1 o1
    have hl := x_le.newa (h := h) (n := n.toNatClampNeg) (x_a_ne10 hK)
    have := hq _ hf H1 locs fl hR1 (hle.tr hl) (hL.le hl h1) (x_lvs_le hl h1) (x_lvs_cons hlv.2 (x_lvs_le hl (x_tl h2))) (x_S_grow hS (by omega) o1) b1 b2
    rw [List.map_cons, show x_cv n0 oa _ (.inr (.inr (K, x_cn h K + 1))) = _ from e9, x_cvs_le hl (x_tl h2)] at this
    exact this
  · exact hf.elim
/-- anewarray -/
theorem snd_newq {K T idx bc bs : Nat} (hK : xk_a K) (h21 : K ≠ 21) (hT : xk_o T) (hty : xk_ety K = .object (xk_C T)) (he : x_et K = T) (hbc : bc = M.mc) (hbs : bs = M.ms) (hc1 : Cond.classLink M.own idx (xk_C T) ∈ x_big) (hc2 : xk_C T ∈ x_aol) (hd : decode M.cd pc = .ok (.anewarray idx, 3)) : x_Snd xm M pc (pc + 3) (x_newr K bc bs) := by
  rintro n0 oa D p l e R s m args below meth c Γ Z J q h0 ⟨ls, st, h⟩ C - hf hq - H locs fl hR hle hL h1 h2 hS hc hs
  obtain ⟨hx, hb, -, hown, hts, -, -, -, -, hKn, hSt, -, hRm, -⟩ := C
  unfold x_newr at hf
  dsimp only at hf hR hle hL h1 h2 hc hs ⊢
  split at hf
  · rename_i n st
    obtain ⟨n1, n2, b1, b2, hf⟩ := hf
    subst hbc; subst hbs; subst hRm
    have hcl := x_clamp n1
    have hT0 : T ≠ 0 := by simp only [xk_o] at hT; omega
    refine W.anew hx hb hown (hts _ hc1) (va_AO.use (hSt.2.2.2.2.2.2.2.2.2.1 _ hc2)) rfl hd rfl (x_nn n1) (by omega) b1 b2 fun cA kA comp f1 f2 f3 f4 => ?_
    have hcA : cA = D.2.2 K := by
      have h9 := (hKn.2 K hK).2
      rw [hty] at h9
      obtain ⟨_, _, _, _, _, h9⟩ := h9
      exact Option.some.inj (f1.symm.trans h9)
    subst hcA
    generalize hH1 : H.push ({ cls := D.2.2 K, slots := Array.replicate n.toNatClampNeg .null, vm := .none } : Cell) = H1
    have z1 : H1.size = H.size + 1 := by rw [← hH1, Array.size_push]
    have e1 : H1[H.size]? = some (arrV (D.2.2 K) n.toNatClampNeg (fun _ => .null)) := by rw [← hH1, Array.getElem?_push_size, ← arrV_new]
    have o1 : ∀ q, q < H.size → H1[q]? = H[q]? := fun q hq => by rw [← hH1, Array.getElem?_push_lt hq, Array.getElem?_eq_getElem hq]
    obtain ⟨hR1, hlv, e9⟩ := x_newa_done (K := K) hR hK h21 (Or.inr ⟨by rw [he]; exact hT0, rfl⟩) e1 z1 o1
    have hl := x_le.newa (h := h) (n := n.toNatClampNeg) (x_a_ne10 hK)
    have := hq _ hf H1 locs fl hR1 (hle.tr hl) (hL.le hl h1) (x_lvs_le hl h1) (x_lvs_cons hlv.2 (x_lvs_le hl (x_tl h2))) (x_S_grow hS (by omega) o1) b1 b2
    rw [List.map_cons, show x_cv n0 oa _ (.inr (.inr (K, x_cn h K + 1))) = _ from e9, x_cvs_le hl (x_tl h2)] at this
    exact this
  · exact hf.elim
theorem snd_objinit {idx : Nat} (hc1 : Cond.methodLink M.own idx Lib.objectInit ∈ x_big) (hc2 : Cond.instanceMethod Lib.objectInit ∈ x_big) (hc3 : Cond.code Lib.objectInit ⟨#[0xb1]⟩ 1 none ∈ x_big) (hfr : 1 ≤ M.fr) (hlo : 20 ≤ M.lo) (hd : decode M.cd pc = .ok (.invokespecial idx, 3)) : x_Snd xm M pc (pc + 3) x_objinit := by
  rintro n0 oa D p l e R s m args below meth c Γ Z J q h0 ⟨ls, st, h⟩ C - hf hq - H locs fl hR hle hL h1 h2 hS hc hs
  obtain ⟨hx, hb, hml, hown, hts, -, -, -, -, hKn, -, -, hRm, -⟩ := C
  unfold x_objinit at hf
  dsimp only at hf hR hle hL h1 h2 hc hs ⊢
  split at hf
  · rename_i t j st
    obtain ⟨t1, t2, t3, hf⟩ := hf
    subst hRm
    have e9 : x_cr n0 oa h t j = .ref (x_addr n0 oa h t j) := by unfold x_cr; rw [if_neg (by omega)]
    rw [List.map_cons, show x_cv n0 oa h (.inr (.inr (t, j))) = _ from e9]
    refine W.objInit hx hb hown (hts _ hc1) (hts _ hc2) (hts _ hc3) rfl (by rw [hml]; exact hL.2.1) rfl hd hfr (by have := x_cats_eq (n0 := n0) (oa := oa) (h := h) st; show 2 * 0 + _ + 12 ≤ M.lo; omega) ?_
    exact hq _ hf H locs fl hR hle hL h1 (x_tl h2) hS hc hs
  · exact hf.elim
theorem x_fl {n0 : Nat} {s : State} {H : Heap} {locs : List Loc} (hS : va_S (fun q => n0 ≤ q) s.heap H locs) : ∀ q ∈ locs, (fun q : Nat => n0 ≤ q) q.base := hS.2.2
theorem snd_ret (hrt : M.rt = none) (hd : decode M.cd pc = .ok (.return_, 1)) : x_Snd xm M pc (pc + 1) x_ret := by
  rintro n0 oa D p l e R s m args below meth c Γ Z J q h0 ⟨ls, st, h⟩ C - hf - - H locs fl hR hle hL h1 h2 hS hc hs
  obtain ⟨hx, hb, hml, hown, hts, hr, hlocks, -⟩ := C
  unfold x_ret at hf
  dsimp only at hf hR hle hL h1 h2 hc hs ⊢
  split at hf
  · refine W.widen hc hs (vx_ret (W.vret hx hb (hr.trans hrt) (fun t ht hW => ?_) (x_fl hS) hd hlocks))
    exact ⟨none, h, hf, rfl, by rw [ht]; exact hR, hle, (fun w hw => by cases hw), hS.F ht⟩
  · exact hf.elim
theorem snd_iret (hrt : M.rt = some .int) (hd : decode M.cd pc = .ok (.ireturn, 1)) : x_Snd xm M pc (pc + 1) x_iret := by
  rintro n0 oa D p l e R s m args below meth c Γ Z J q h0 ⟨ls, st, h⟩ C - hf - - H locs fl hR hle hL h1 h2 hS hc hs
  obtain ⟨hx, hb, hml, hown, hts, hr, hlocks, -⟩ := C
  unfold x_iret at hf
  dsimp only at hf hR hle hL h1 h2 hc hs ⊢
  split at hf
  · rename_i n
    refine W.widen hc hs (vx_ret (W.iret hx hb (hr.trans hrt) (fun t ht hW => ?_) (x_fl hS) hd hlocks))
    exact ⟨some (.inl n), h, hf, rfl, by rw [ht]; exact hR, hle, fun w hw => by cases hw; trivial, hS.F ht⟩
  · exact hf.elim
theorem snd_zret (hrt : M.rt = some .boolean) (hd : decode M.cd pc = .ok (.ireturn, 1)) : x_Snd xm M pc (pc + 1) x_zret := by
  rintro n0 oa D p l e R s m args below meth c Γ Z J q h0 ⟨ls, st, h⟩ C - hf - - H locs fl hR hle hL h1 h2 hS hc hs
  obtain ⟨hx, hb, hml, hown, hts, hr, hlocks, -⟩ := C
  unfold x_zret at hf
  dsimp only at hf hR hle hL h1 h2 hc hs ⊢
  split at hf
  · rename_i n
    refine W.widen hc hs (vx_ret (W.zret hx hb (hr.trans hrt) (by rcases hf.1 with rfl | rfl <;> rfl) (fun t ht hW => ?_) (x_fl hS) hd hlocks))
    exact ⟨some (.inl n), h, hf.2, rfl, by rw [ht]; exact hR, hle, fun w hw => by cases hw; trivial, hS.F ht⟩
  · exact hf.elim
theorem snd_aret {T : Nat} {rt : FieldType} (hrt : M.rt = some rt) (hrr : (∃ n, rt = .object n) ∨ ∃ t, rt = .array t) (hd : decode M.cd pc = .ok (.areturn, 1)) : x_Snd xm M pc (pc + 1) (x_aret T) := by
  rintro n0 oa D p l e R s m args below meth c Γ Z J q h0 ⟨ls, st, h⟩ C - hf - - H locs fl hR hle hL h1 h2 hS hc hs
  obtain ⟨hx, hb, hml, hown, hts, hr, hlocks, -⟩ := C
  unfold x_aret at hf
  dsimp only at hf hR hle hL h1 h2 hc hs ⊢
  split at hf
  · rename_i t j
    refine W.widen hc hs (vx_ret (W.aret hx hb (hr.trans hrt) hrr (x_cr_or n0 oa h t j) (fun t' ht hW => ?_) (x_fl hS) hd hlocks))
    exact ⟨some (.inr (.inr (t, j))), h, hf.2, rfl, by rw [ht]; exact hR, hle, fun w hw => by cases hw; exact h2 _ List.mem_cons_self, hS.F ht⟩
  · exact hf.elim
end XS4
