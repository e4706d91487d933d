/-! THE LAW: longs -/
def x_i2l : xI := fun _ _ _ q S => match S.2.1 with
  | .inl v :: st => q (S.1, .inr (.inl v.toInt64) :: st, S.2.2)
  | _ => False
def x_lconst (v : Int64) : xI := fun _ _ _ q S => q (S.1, .inr (.inl v) :: S.2.1, S.2.2)
def x_lcmp : xI := fun _ _ _ q S => match S.2.1 with
  | .inr (.inl y) :: .inr (.inl x) :: st => q (S.1, .inl (lg_cmp x y) :: st, S.2.2)
  | _ => False
def x_lld : xI := fun _ _ _ q S => match S.2.1 with
  | .inl i :: .inr (.inr (t, j)) :: st => t = 21 ∧ j = 1 ∧ i = 0 ∧ x_live S.2.2 21 1 ∧ x_ln S.2.2 21 1 = 1 ∧ q (S.1, .inr (.inl (x_lg S.2.2)) :: st, S.2.2)
  | _ => False
section XLG
variable {xm : Nat → xM} {M : xM} {pc : Nat}
theorem snd_i2l (hd : decode M.cd pc = .ok (.i2l, 1)) : x_Snd xm M pc (pc + 1) x_i2l := by
  rintro n0 oa D p l e R s m args below meth c Γ Z J q h0 ⟨ls, st, h⟩ C - hf hq - H locs fl hR hle hL h1 h2 hS hc hs
  obtain ⟨hx, hb, -⟩ := C
  unfold x_i2l at hf
  dsimp only at hf hL h1 h2 ⊢
  split at hf
  · exact lv_i2l hx hb hd rfl (hq _ hf H locs fl hR hle hL h1 (x_lvs_cons trivial (x_tl h2)) hS hc hs)
  · exact hf.elim
theorem snd_lconst {n : Fin 2} {v : Int64} (hv : Int64.ofNat (n : Nat) = v) (hd : decode M.cd pc = .ok (.lconst n, 1)) : x_Snd xm M pc (pc + 1) (x_lconst v) := by
  rintro n0 oa D p l e R s m args below meth c Γ Z J q h0 ⟨ls, st, h⟩ C - hf hq - H locs fl hR hle hL h1 h2 hS hc hs
  obtain ⟨hx, hb, -⟩ := C
  exact lv_lconst hx hb hd hv (hq _ hf H locs fl hR hle hL h1 (x_lvs_cons trivial h2) hS hc hs)
theorem snd_lcmp (hd : decode M.cd pc = .ok (.lcmp, 1)) : x_Snd xm M pc (pc + 1) x_lcmp := by
  rintro n0 oa D p l e R s m args below meth c Γ Z J q h0 ⟨ls, st, h⟩ C - hf hq - H locs fl hR hle hL h1 h2 hS hc hs
  obtain ⟨hx, hb, -⟩ := C
  unfold x_lcmp at hf
  dsimp only at hf hL h1 h2 ⊢
  split at hf
  · exact W.lcmp hx hb hd (hq _ hf H locs fl hR hle hL h1 (x_lvs_cons trivial (x_tl (x_tl h2))) hS hc hs)
  · exact hf.elim
theorem snd_lld (hd : decode M.cd pc = .ok (.laload, 1)) : x_Snd xm M pc (pc + 1) x_lld := by
  rintro n0 oa D p l e R s m args below meth c Γ Z J q h0 ⟨ls, st, h⟩ C - hf hq - H locs fl hR hle hL h1 h2 hS hc hs
  obtain ⟨hx, hb, -, -, -, -, -, -, -, hKn, -⟩ := C
  have hK : xk_a 21 := ⟨by decide, by decide⟩
  unfold x_lld at hf
  dsimp only at hf hR hle hL h1 h2 hc hs ⊢
  split at hf
  · rename_i i t j st
    obtain ⟨rfl, rfl, rfl, hj, hln, hf⟩ := hf
    obtain ⟨-, q2⟩ := hR.2.2.1 21 1 hK hj
    rw [hln] at q2
    rw [List.map_cons, List.map_cons, show x_cv n0 oa h (.inr (.inr (21, 1))) = _ from x_cr_in (Or.inr hK) hj]
    have hty : s.isArrayOf (arrV (D.2.2 21) 1 (fun i => x_ae n0 oa h 21 1 i)) .long := (hKn.2 21 hK).1 _ _
    refine W.lald (v := .long (x_lg h)) hx hb q2 hty (fun q => by cases q) (by rw [arrV_size]; decide) (by rw [arrV_read _ _ (by decide)]; rfl) rfl rfl hd ?_
    exact hq _ hf H locs fl hR hle hL h1 (x_lvs_cons trivial (x_tl (x_tl h2))) hS hc hs
  · exact hf.elim
end XLG
section XLQ
variable {nx : Nat} {r : List (Nat × xI)} {Γ : xG} {Z : xO → xH → Prop} {J : Nat → xS → Prop} {ls st : List xV} {h : xH}
theorem q_i2l {v : Int32} (kk : x_seq r Γ Z J (ls, .inr (.inl v.toInt64) :: st, h)) : x_seq ((nx, x_i2l) :: r) Γ Z J (ls, .inl v :: st, h) := kk
theorem q_lconst {v : Int64} (kk : x_seq r Γ Z J (ls, .inr (.inl v) :: st, h)) : x_seq ((nx, x_lconst v) :: r) Γ Z J (ls, st, h) := kk
theorem q_lcmp {x y : Int64} (kk : x_seq r Γ Z J (ls, .inl (lg_cmp x y) :: st, h)) : x_seq ((nx, x_lcmp) :: r) Γ Z J (ls, .inr (.inl y) :: .inr (.inl x) :: st, h) := kk
theorem q_lld (hj : x_live h 21 1) (hl : x_ln h 21 1 = 1) (kk : x_seq r Γ Z J (ls, .inr (.inl (x_lg h)) :: st, h)) : x_seq ((nx, x_lld) :: r) Γ Z J (ls, .inl 0 :: .inr (.inr (21, 1)) :: st, h) := ⟨rfl, rfl, rfl, hj, hl, kk⟩
end XLQ
theorem lg_same {x : Int64} : lg_cmp x x = 0 := by
  unfold lg_cmp
  rw [if_neg (by show ¬ x < x; exact Int64.lt_irrefl), if_pos rfl]
