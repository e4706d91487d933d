/-! SOUND INSTRUCTIONS, one by one: those that leave the heap -/
section XS1
variable {xm : Nat → xM} {M : xM} {pc : Nat}
theorem x_lvs_cons {h : xH} {v : xV} {l : List xV} (hv : x_lv h v) (hl : ∀ w ∈ l, x_lv h w) : ∀ w ∈ v :: l, x_lv h w := fun w hw => (List.mem_cons.mp hw).elim (fun e => e ▸ hv) (hl w)
theorem x_lvs_set {h : xH} {v : xV} {l : List xV} {a : Nat} (hv : x_lv h v) (hl : ∀ w ∈ l, x_lv h w) : ∀ w ∈ l.set a v, x_lv h w := fun w hw => (List.mem_or_eq_of_mem_set hw).elim (hl w) (fun e => e ▸ hv)
theorem snd_iload {a : Nat} (hd : decode M.cd pc = .ok (.iload a, 2)) : x_Snd xm M pc (pc + 2) (x_iload a) := by
  rintro n0 oa D p l e R s m args below meth c Γ Z J q h0 ⟨ls, st, h⟩ C - hf hq - H locs fl hR hle hL h1 h2 hS hc hs
  obtain ⟨hx, hb, -⟩ := C
  unfold x_iload at hf
  dsimp only at hf hL h1 h2 ⊢
  split at hf
  · rename_i n hn
    exact lv_iload hx hb hd (hL.at hn rfl) (hq _ hf H locs fl hR hle hL h1 (x_lvs_cons trivial h2) hS hc hs)
  · exact hf.elim
theorem snd_iload_n {k : Fin 4} {a : Nat} (ha : (k : Nat) = a) (hd : decode M.cd pc = .ok (.iload_n k, 1)) : x_Snd xm M pc (pc + 1) (x_iload a) := by
  rintro n0 oa D p l e R s m args below meth c Γ Z J q h0 ⟨ls, st, h⟩ C - hf hq - H locs fl hR hle hL h1 h2 hS hc hs
  obtain ⟨hx, hb, -⟩ := C
  unfold x_iload at hf
  dsimp only at hf hL h1 h2 ⊢
  split at hf
  · rename_i n hn
    exact lv_iload_n hx hb hd ha (hL.at hn rfl) (hq _ hf H locs fl hR hle hL h1 (x_lvs_cons trivial h2) hS hc hs)
  · exact hf.elim
theorem x_aload0 {n0 : Nat} {oa : Nat → Nat → Nat} {h : xH} {t j : Nat} {P : Value → Prop} (hr : ∀ a, x_cr n0 oa h t j = .ref a → P (.ref a)) (hn : x_cr n0 oa h t j = .null → P .null) : P (x_cr n0 oa h t j) := by
  rcases x_cr_or n0 oa h t j with e | ⟨a, e⟩
  · rw [e]; exact hn e
  · rw [e]; exact hr a e
theorem snd_aload {a : Nat} (hd : decode M.cd pc = .ok (.aload a, 2)) : x_Snd xm M pc (pc + 2) (x_aload a) := by
  rintro n0 oa D p l e R s m args below meth c Γ Z J q h0 ⟨ls, st, h⟩ C - hf hq - H locs fl hR hle hL h1 h2 hS hc hs
  obtain ⟨hx, hb, -⟩ := C
  unfold x_aload at hf
  dsimp only at hf hL h1 h2 ⊢
  split at hf
  · rename_i t j hn
    have hat := hL.at hn (by show (!(t == 0)) = true; simp [hf.1])
    have hk := hq _ hf.2 H locs fl hR hle hL h1 (x_lvs_cons (h1 _ (List.mem_of_getElem? hn)) h2) hS hc hs
    rcases x_cr_or n0 oa h t j with e1 | ⟨b, e1⟩ <;> (have e2 : x_cv n0 oa h (.inr (.inr (t, j))) = _ := e1; rw [List.map_cons, e2] at hk; rw [e2] at hat)
    · exact lv_aloadN hx hb hd hat hk
    · exact lv_aload hx hb hd hat hk
  · exact hf.elim
theorem snd_aload_n {k : Fin 4} {a : Nat} (ha : (k : Nat) = a) (hd : decode M.cd pc = .ok (.aload_n k, 1)) : x_Snd xm M pc (pc + 1) (x_aload a) := by
  rintro n0 oa D p l e R s m args below meth c Γ Z J q h0 ⟨ls, st, h⟩ C - hf hq - H locs fl hR hle hL h1 h2 hS hc hs
  obtain ⟨hx, hb, -⟩ := C
  unfold x_aload at hf
  dsimp only at hf hL h1 h2 ⊢
  split at hf
  · rename_i t j hn
    have hat := hL.at hn (by show (!(t == 0)) = true; simp [hf.1])
    have hk := hq _ hf.2 H locs fl hR hle hL h1 (x_lvs_cons (h1 _ (List.mem_of_getElem? hn)) h2) hS hc hs
    rcases x_cr_or n0 oa h t j with e1 | ⟨b, e1⟩ <;> (have e2 : x_cv n0 oa h (.inr (.inr (t, j))) = _ := e1; rw [List.map_cons, e2] at hk; rw [e2] at hat)
    · exact lv_aload_nN hx hb hd ha hat hk
    · exact lv_aload_n hx hb hd ha hat hk
  · exact hf.elim
theorem snd_istore {a : Nat} (hd : decode M.cd pc = .ok (.istore a, 2)) : x_Snd xm M pc (pc + 2) (x_istore a) := by
  rintro n0 oa D p l e R s m args below meth c Γ Z J q h0 ⟨ls, st, h⟩ C - hf hq - H locs fl hR hle hL h1 h2 hS hc hs
  obtain ⟨hx, hb, -⟩ := C
  unfold x_istore at hf
  dsimp only at hf hL h1 h2 ⊢
  split at hf
  · rename_i n st
    refine lv_istore hx hb hd hL.2 (by rw [← hL.1]; exact hf.1) rfl fun fl' hl' => ?_
    exact hq _ hf.2 H locs fl' hR hle (hL.set (v := .inl n) hf.1 hl') (x_lvs_set trivial h1) (fun w hw => h2 w (List.mem_cons_of_mem _ hw)) hS hc hs
  · exact hf.elim
theorem snd_istore_n {k : Fin 4} {a : Nat} (ha : (k : Nat) = a) (hd : decode M.cd pc = .ok (.istore_n k, 1)) : x_Snd xm M pc (pc + 1) (x_istore a) := by
  rintro n0 oa D p l e R s m args below meth c Γ Z J q h0 ⟨ls, st, h⟩ C - hf hq - H locs fl hR hle hL h1 h2 hS hc hs
  obtain ⟨hx, hb, -⟩ := C
  unfold x_istore at hf
  dsimp only at hf hL h1 h2 ⊢
  split at hf
  · rename_i n st
    refine lv_istore_n hx hb hd ha hL.2 (by rw [← hL.1]; exact hf.1) rfl fun fl' hl' => ?_
    exact hq _ hf.2 H locs fl' hR hle (hL.set (v := .inl n) hf.1 hl') (x_lvs_set trivial h1) (fun w hw => h2 w (List.mem_cons_of_mem _ hw)) hS hc hs
  · exact hf.elim
theorem snd_astore {a : Nat} (hd : decode M.cd pc = .ok (.astore a, 2)) : x_Snd xm M pc (pc + 2) (x_astore a) := by
  rintro n0 oa D p l e R s m args below meth c Γ Z J q h0 ⟨ls, st, h⟩ C - hf hq - H locs fl hR hle hL h1 h2 hS hc hs
  obtain ⟨hx, hb, -⟩ := C
  unfold x_astore at hf
  dsimp only at hf hL h1 h2 ⊢
  split at hf
  · rename_i r st
    rcases x_cr_or n0 oa h r.1 r.2 with e1 | ⟨b, e1⟩ <;> (have e2 : x_cv n0 oa h (.inr (.inr r)) = _ := e1; rw [List.map_cons, e2])
    · exact lv_astoreN hx hb hd hL.2 (by rw [← hL.1]; exact hf.1) rfl fun fl' hl' => hq _ hf.2 H locs fl' hR hle (hL.set (v := .inr (.inr r)) hf.1 (by rw [e2]; exact hl')) (x_lvs_set (h2 _ List.mem_cons_self) h1) (fun w hw => h2 w (List.mem_cons_of_mem _ hw)) hS hc hs
    · exact lv_astore hx hb hd hL.2 (by rw [← hL.1]; exact hf.1) rfl fun fl' hl' => hq _ hf.2 H locs fl' hR hle (hL.set (v := .inr (.inr r)) hf.1 (by rw [e2]; exact hl')) (x_lvs_set (h2 _ List.mem_cons_self) h1) (fun w hw => h2 w (List.mem_cons_of_mem _ hw)) hS hc hs
  · exact hf.elim
theorem snd_astore_n {k : Fin 4} {a : Nat} (ha : (k : Nat) = a) (hd : decode M.cd pc = .ok (.astore_n k, 1)) : x_Snd xm M pc (pc + 1) (x_astore a) := by
  rintro n0 oa D p l e R s m args below meth c Γ Z J q h0 ⟨ls, st, h⟩ C - hf hq - H locs fl hR hle hL h1 h2 hS hc hs
  obtain ⟨hx, hb, -⟩ := C
  unfold x_astore at hf
  dsimp only at hf hL h1 h2 ⊢
  split at hf
  · rename_i r st
    rcases x_cr_or n0 oa h r.1 r.2 with e1 | ⟨b, e1⟩ <;> (have e2 : x_cv n0 oa h (.inr (.inr r)) = _ := e1; rw [List.map_cons, e2])
    · exact lv_astore_nN hx hb hd ha hL.2 (by rw [← hL.1]; exact hf.1) rfl fun fl' hl' => hq _ hf.2 H locs fl' hR hle (hL.set (v := .inr (.inr r)) hf.1 (by rw [e2]; exact hl')) (x_lvs_set (h2 _ List.mem_cons_self) h1) (fun w hw => h2 w (List.mem_cons_of_mem _ hw)) hS hc hs
    · exact lv_astore_n hx hb hd ha hL.2 (by rw [← hL.1]; exact hf.1) rfl fun fl' hl' => hq _ hf.2 H locs fl' hR hle (hL.set (v := .inr (.inr r)) hf.1 (by rw [e2]; exact hl')) (x_lvs_set (h2 _ List.mem_cons_self) h1) (fun w hw => h2 w (List.mem_cons_of_mem _ hw)) hS hc hs
  · exact hf.elim
theorem snd_iinc {a : Nat} {n : Int} {v : Int32} (hv : Int32.ofInt n = v) (hd : decode M.cd pc = .ok (.iinc a n, 3)) : x_Snd xm M pc (pc + 3) (x_iinc a v) := by
  rintro n0 oa D p l e R s m args below meth c Γ Z J q h0 ⟨ls, st, h⟩ C - hf hq - H locs fl hR hle hL h1 h2 hS hc hs
  obtain ⟨hx, hb, -⟩ := C
  unfold x_iinc at hf
  dsimp only at hf hL h1 h2 ⊢
  split at hf
  · rename_i x hn
    have hmem : (a, Value.int x) ∈ x_prs (x_cv n0 oa h) ls := x_prs_mem.mpr ⟨_, hn, rfl, rfl⟩
    obtain ⟨k, hk⟩ := List.mem_iff_getElem?.mp hmem
    have hlt : a < ls.length := (List.getElem?_eq_some_iff.mp hn).1
    refine lv_iinc hx hb hd hL.2 hk (v := x + v) (by rw [hv]) (by rw [← hL.1]; exact hlt) rfl fun fl' hl' => ?_
    exact hq _ hf H locs fl' hR hle (hL.set (v := .inl (x + v)) hlt hl') (x_lvs_set trivial h1) h2 hS hc hs
  · exact hf.elim
theorem snd_iconst {n : Int} {v : Int32} (hv : Int32.ofInt n = v) (hd : decode M.cd pc = .ok (.iconst n, 1)) : x_Snd xm M pc (pc + 1) (x_iconst v) := by
  rintro n0 oa D p l e R s m args below meth c Γ Z J q h0 ⟨ls, st, h⟩ C - hf hq - H locs fl hR hle hL h1 h2 hS hc hs
  obtain ⟨hx, hb, -⟩ := C
  exact lv_iconst hx hb hd hv (hq _ hf H locs fl hR hle hL h1 (x_lvs_cons trivial h2) hS hc hs)
theorem snd_bipush {n : Int} {v : Int32} (hv : (Int8.ofInt n).toInt32 = v) (hd : decode M.cd pc = .ok (.bipush n, 2)) : x_Snd xm M pc (pc + 2) (x_iconst v) := by
  rintro n0 oa D p l e R s m args below meth c Γ Z J q h0 ⟨ls, st, h⟩ C - hf hq - H locs fl hR hle hL h1 h2 hS hc hs
  obtain ⟨hx, hb, -⟩ := C
  exact lv_bipush hx hb hd hv (hq _ hf H locs fl hR hle hL h1 (x_lvs_cons trivial h2) hS hc hs)
theorem snd_sipush {n : Int} {v : Int32} (hv : (Int16.ofInt n).toInt32 = v) (hd : decode M.cd pc = .ok (.sipush n, 3)) : x_Snd xm M pc (pc + 3) (x_iconst v) := by
  rintro n0 oa D p l e R s m args below meth c Γ Z J q h0 ⟨ls, st, h⟩ C - hf hq - H locs fl hR hle hL h1 h2 hS hc hs
  obtain ⟨hx, hb, -⟩ := C
  exact lv_sipush hx hb hd hv (hq _ hf H locs fl hR hle hL h1 (x_lvs_cons trivial h2) hS hc hs)
theorem snd_null {t : Nat} (hd : decode M.cd pc = .ok (.aconst_null, 1)) : x_Snd xm M pc (pc + 1) (x_null t) := by
  rintro n0 oa D p l e R s m args below meth c Γ Z J q h0 ⟨ls, st, h⟩ C - hf hq - H locs fl hR hle hL h1 h2 hS hc hs
  obtain ⟨hx, hb, -⟩ := C
  exact lv_null hx hb hd (hq _ hf H locs fl hR hle hL h1 (x_lvs_cons (Nat.zero_le _) h2) hS hc hs)
-- arithmetic
theorem x_tl {h : xH} {v : xV} {l : List xV} (hl : ∀ w ∈ v :: l, x_lv h w) : ∀ w ∈ l, x_lv h w := fun w hw => hl w (List.mem_cons_of_mem _ hw)
theorem snd_iadd (hd : decode M.cd pc = .ok (.iadd, 1)) : x_Snd xm M pc (pc + 1) (x_bin (fun x y => x + y)) := by
  rintro n0 oa D p l e R s m args below meth c Γ Z J q h0 ⟨ls, st, h⟩ C - hf hq - H locs fl hR hle hL h1 h2 hS hc hs
  obtain ⟨hx, hb, -⟩ := C
  unfold x_bin at hf
  dsimp only at hf hL h1 h2 ⊢
  split at hf
  · exact lv_iadd hx hb hd (hq _ hf H locs fl hR hle hL h1 (x_lvs_cons trivial (x_tl (x_tl h2))) hS hc hs)
  · exact hf.elim
theorem snd_isub (hd : decode M.cd pc = .ok (.isub, 1)) : x_Snd xm M pc (pc + 1) (x_bin (fun x y => x - y)) := by
  rintro n0 oa D p l e R s m args below meth c Γ Z J q h0 ⟨ls, st, h⟩ C - hf hq - H locs fl hR hle hL h1 h2 hS hc hs
  obtain ⟨hx, hb, -⟩ := C
  unfold x_bin at hf
  dsimp only at hf hL h1 h2 ⊢
  split at hf
  · exact lv_isub hx hb hd (hq _ hf H locs fl hR hle hL h1 (x_lvs_cons trivial (x_tl (x_tl h2))) hS hc hs)
  · exact hf.elim
theorem snd_imul (hd : decode M.cd pc = .ok (.imul, 1)) : x_Snd xm M pc (pc + 1) (x_bin (fun x y => x * y)) := by
  rintro n0 oa D p l e R s m args below meth c Γ Z J q h0 ⟨ls, st, h⟩ C - hf hq - H locs fl hR hle hL h1 h2 hS hc hs
  obtain ⟨hx, hb, -⟩ := C
  unfold x_bin at hf
  dsimp only at hf hL h1 h2 ⊢
  split at hf
  · exact lv_imul hx hb hd (hq _ hf H locs fl hR hle hL h1 (x_lvs_cons trivial (x_tl (x_tl h2))) hS hc hs)
  · exact hf.elim
theorem snd_iand (hd : decode M.cd pc = .ok (.iand, 1)) : x_Snd xm M pc (pc + 1) (x_bin (fun x y => x &&& y)) := by
  rintro n0 oa D p l e R s m args below meth c Γ Z J q h0 ⟨ls, st, h⟩ C - hf hq - H locs fl hR hle hL h1 h2 hS hc hs
  obtain ⟨hx, hb, -⟩ := C
  unfold x_bin at hf
  dsimp only at hf hL h1 h2 ⊢
  split at hf
  · exact lv_iand hx hb hd (hq _ hf H locs fl hR hle hL h1 (x_lvs_cons trivial (x_tl (x_tl h2))) hS hc hs)
  · exact hf.elim
theorem snd_ior (hd : decode M.cd pc = .ok (.ior, 1)) : x_Snd xm M pc (pc + 1) (x_bin (fun x y => x ||| y)) := by
  rintro n0 oa D p l e R s m args below meth c Γ Z J q h0 ⟨ls, st, h⟩ C - hf hq - H locs fl hR hle hL h1 h2 hS hc hs
  obtain ⟨hx, hb, -⟩ := C
  unfold x_bin at hf
  dsimp only at hf hL h1 h2 ⊢
  split at hf
  · exact lv_ior hx hb hd (hq _ hf H locs fl hR hle hL h1 (x_lvs_cons trivial (x_tl (x_tl h2))) hS hc hs)
  · exact hf.elim
theorem snd_ishl (hd : decode M.cd pc = .ok (.ishl, 1)) : x_Snd xm M pc (pc + 1) (x_bin (fun x y => x <<< (y &&& 31))) := by
  rintro n0 oa D p l e R s m args below meth c Γ Z J q h0 ⟨ls, st, h⟩ C - hf hq - H locs fl hR hle hL h1 h2 hS hc hs
  obtain ⟨hx, hb, -⟩ := C
  unfold x_bin at hf
  dsimp only at hf hL h1 h2 ⊢
  split at hf
  · exact lv_ishl hx hb hd (hq _ hf H locs fl hR hle hL h1 (x_lvs_cons trivial (x_tl (x_tl h2))) hS hc hs)
  · exact hf.elim
theorem snd_ishr (hd : decode M.cd pc = .ok (.ishr, 1)) : x_Snd xm M pc (pc + 1) (x_bin (fun x y => x >>> (y &&& 31))) := by
  rintro n0 oa D p l e R s m args below meth c Γ Z J q h0 ⟨ls, st, h⟩ C - hf hq - H locs fl hR hle hL h1 h2 hS hc hs
  obtain ⟨hx, hb, -⟩ := C
  unfold x_bin at hf
  dsimp only at hf hL h1 h2 ⊢
  split at hf
  · exact lv_ishr hx hb hd (hq _ hf H locs fl hR hle hL h1 (x_lvs_cons trivial (x_tl (x_tl h2))) hS hc hs)
  · exact hf.elim
theorem snd_idiv (hd : decode M.cd pc = .ok (.idiv, 1)) : x_Snd xm M pc (pc + 1) x_idiv := by
  rintro n0 oa D p l e R s m args below meth c Γ Z J q h0 ⟨ls, st, h⟩ C - hf hq - H locs fl hR hle hL h1 h2 hS hc hs
  obtain ⟨hx, hb, -⟩ := C
  unfold x_idiv at hf
  dsimp only at hf hL h1 h2 ⊢
  split at hf
  · exact lv_idiv hx hb hd hf.1 (hq _ hf.2 H locs fl hR hle hL h1 (x_lvs_cons trivial (x_tl (x_tl h2))) hS hc hs)
  · exact hf.elim
theorem snd_irem (hd : decode M.cd pc = .ok (.irem, 1)) : x_Snd xm M pc (pc + 1) x_irem := by
  rintro n0 oa D p l e R s m args below meth c Γ Z J q h0 ⟨ls, st, h⟩ C - hf hq - H locs fl hR hle hL h1 h2 hS hc hs
  obtain ⟨hx, hb, -⟩ := C
  unfold x_irem at hf
  dsimp only at hf hL h1 h2 ⊢
  split at hf
  · exact lv_irem hx hb hd hf.1 (hq _ hf.2 H locs fl hR hle hL h1 (x_lvs_cons trivial (x_tl (x_tl h2))) hS hc hs)
  · exact hf.elim
theorem snd_dup (hd : decode M.cd pc = .ok (.dup, 1)) : x_Snd xm M pc (pc + 1) x_dup := by
  rintro n0 oa D p l e R s m args below meth c Γ Z J q h0 ⟨ls, st, h⟩ C - hf hq - H locs fl hR hle hL h1 h2 hS hc hs
  obtain ⟨hx, hb, -⟩ := C
  unfold x_dup at hf
  dsimp only at hf hL h1 h2 ⊢
  split at hf
  · exact lv_dup hx hb hd (by rw [x_cv_cat]; exact hf.1) (hq _ hf.2 H locs fl hR hle hL h1 (x_lvs_cons (h2 _ List.mem_cons_self) h2) hS hc hs)
  · exact hf.elim
theorem snd_dup2 (hd : decode M.cd pc = .ok (.dup2, 1)) : x_Snd xm M pc (pc + 1) x_dup2 := by
  rintro n0 oa D p l e R s m args below meth c Γ Z J q h0 ⟨ls, st, h⟩ C - hf hq - H locs fl hR hle hL h1 h2 hS hc hs
  obtain ⟨hx, hb, -⟩ := C
  unfold x_dup2 at hf
  dsimp only at hf hL h1 h2 ⊢
  split at hf
  · exact lv_dup2_11 hx hb hd (by rw [x_cv_cat]; exact hf.1) (by rw [x_cv_cat]; exact hf.2.1) (hq _ hf.2.2 H locs fl hR hle hL h1 (x_lvs_cons (h2 _ List.mem_cons_self) (x_lvs_cons (x_tl h2 _ List.mem_cons_self) h2)) hS hc hs)
  · exact hf.elim
theorem snd_pop (hd : decode M.cd pc = .ok (.pop, 1)) : x_Snd xm M pc (pc + 1) x_pop := by
  rintro n0 oa D p l e R s m args below meth c Γ Z J q h0 ⟨ls, st, h⟩ C - hf hq - H locs fl hR hle hL h1 h2 hS hc hs
  obtain ⟨hx, hb, -⟩ := C
  unfold x_pop at hf
  dsimp only at hf hL h1 h2 ⊢
  split at hf
  · exact lv_pop hx hb hd (by rw [x_cv_cat]; exact hf.1) (hq _ hf.2 H locs fl hR hle hL h1 (x_tl h2) hS hc hs)
  · exact hf.elim
theorem snd_goto {off : Int} {a : Nat} (ht : (pc : Int) + off = (a : Int)) (hd : decode M.cd pc = .ok (.goto off, 3)) : x_Snd xm M pc (pc + 3) (x_goto a) := by
  rintro n0 oa D p l e R s m args below meth c Γ Z J q h0 ⟨ls, st, h⟩ C - hf - hJ H locs fl hR hle hL h1 h2 hS hc hs
  obtain ⟨hx, hb, -⟩ := C
  exact lv_goto hx hb hd ht (hJ _ _ hf H locs fl hR hle hL h1 h2 hS hc hs)
/-- no instruction: to the block that begins here -/
theorem snd_to {nx : Nat} : x_Snd xm M pc nx (x_goto pc) := by
  rintro n0 oa D p l e R s m args below meth c Γ Z J q h0 S C - hf - hJ
  exact hJ _ _ hf
theorem snd_if_eq {off : Int} {a : Nat} (ht : (pc : Int) + off = (a : Int)) (hd : decode M.cd pc = .ok (.ifCond .eq off, 3)) : x_Snd xm M pc (pc + 3) (x_if (fun x => x = 0) a) := by
  rintro n0 oa D p l e R s m args below meth c Γ Z J q h0 ⟨ls, st, h⟩ C - hf hq hJ H locs fl hR hle hL h1 h2 hS hc hs
  obtain ⟨hx, hb, -⟩ := C
  unfold x_if at hf
  dsimp only at hf hL h1 h2 ⊢
  split at hf
  · exact lv_if_eq hx hb hd ht (fun k => hJ _ _ (hf.1 k) H locs fl hR hle hL h1 (x_tl h2) hS hc hs) (fun k => hq _ (hf.2 k) H locs fl hR hle hL h1 (x_tl h2) hS hc hs)
  · exact hf.elim
theorem snd_icmp_eq {off : Int} {a : Nat} (ht : (pc : Int) + off = (a : Int)) (hd : decode M.cd pc = .ok (.if_icmp .eq off, 3)) : x_Snd xm M pc (pc + 3) (x_icmp (fun x y => x = y) a) := by
  rintro n0 oa D p l e R s m args below meth c Γ Z J q h0 ⟨ls, st, h⟩ C - hf hq hJ H locs fl hR hle hL h1 h2 hS hc hs
  obtain ⟨hx, hb, -⟩ := C
  unfold x_icmp at hf
  dsimp only at hf hL h1 h2 ⊢
  split at hf
  · exact lv_icmp_eq hx hb hd ht (fun k => hJ _ _ (hf.1 k) H locs fl hR hle hL h1 (x_tl (x_tl h2)) hS hc hs) (fun k => hq _ (hf.2 k) H locs fl hR hle hL h1 (x_tl (x_tl h2)) hS hc hs)
  · exact hf.elim
theorem snd_if_ne {off : Int} {a : Nat} (ht : (pc : Int) + off = (a : Int)) (hd : decode M.cd pc = .ok (.ifCond .ne off, 3)) : x_Snd xm M pc (pc + 3) (x_if (fun x => ¬ x = 0) a) := by
  rintro n0 oa D p l e R s m args below meth c Γ Z J q h0 ⟨ls, st, h⟩ C - hf hq hJ H locs fl hR hle hL h1 h2 hS hc hs
  obtain ⟨hx, hb, -⟩ := C
  unfold x_if at hf
  dsimp only at hf hL h1 h2 ⊢
  split at hf
  · exact lv_if_ne hx hb hd ht (fun k => hJ _ _ (hf.1 k) H locs fl hR hle hL h1 (x_tl h2) hS hc hs) (fun k => hq _ (hf.2 (fun g => g k)) H locs fl hR hle hL h1 (x_tl h2) hS hc hs)
  · exact hf.elim
theorem snd_icmp_ne {off : Int} {a : Nat} (ht : (pc : Int) + off = (a : Int)) (hd : decode M.cd pc = .ok (.if_icmp .ne off, 3)) : x_Snd xm M pc (pc + 3) (x_icmp (fun x y => ¬ x = y) a) := by
  rintro n0 oa D p l e R s m args below meth c Γ Z J q h0 ⟨ls, st, h⟩ C - hf hq hJ H locs fl hR hle hL h1 h2 hS hc hs
  obtain ⟨hx, hb, -⟩ := C
  unfold x_icmp at hf
  dsimp only at hf hL h1 h2 ⊢
  split at hf
  · exact lv_icmp_ne hx hb hd ht (fun k => hJ _ _ (hf.1 k) H locs fl hR hle hL h1 (x_tl (x_tl h2)) hS hc hs) (fun k => hq _ (hf.2 (fun g => g k)) H locs fl hR hle hL h1 (x_tl (x_tl h2)) hS hc hs)
  · exact hf.elim
theorem snd_if_lt {off : Int} {a : Nat} (ht : (pc : Int) + off = (a : Int)) (hd : decode M.cd pc = .ok (.ifCond .lt off, 3)) : x_Snd xm M pc (pc + 3) (x_if (fun x => x < 0) a) := by
  rintro n0 oa D p l e R s m args below meth c Γ Z J q h0 ⟨ls, st, h⟩ C - hf hq hJ H locs fl hR hle hL h1 h2 hS hc hs
  obtain ⟨hx, hb, -⟩ := C
  unfold x_if at hf
  dsimp only at hf hL h1 h2 ⊢
  split at hf
  · exact lv_if_lt hx hb hd ht (fun k => hJ _ _ (hf.1 k) H locs fl hR hle hL h1 (x_tl h2) hS hc hs) (fun k => hq _ (hf.2 k) H locs fl hR hle hL h1 (x_tl h2) hS hc hs)
  · exact hf.elim
theorem snd_icmp_lt {off : Int} {a : Nat} (ht : (pc : Int) + off = (a : Int)) (hd : decode M.cd pc = .ok (.if_icmp .lt off, 3)) : x_Snd xm M pc (pc + 3) (x_icmp (fun x y => x < y) a) := by
  rintro n0 oa D p l e R s m args below meth c Γ Z J q h0 ⟨ls, st, h⟩ C - hf hq hJ H locs fl hR hle hL h1 h2 hS hc hs
  obtain ⟨hx, hb, -⟩ := C
  unfold x_icmp at hf
  dsimp only at hf hL h1 h2 ⊢
  split at hf
  · exact lv_icmp_lt hx hb hd ht (fun k => hJ _ _ (hf.1 k) H locs fl hR hle hL h1 (x_tl (x_tl h2)) hS hc hs) (fun k => hq _ (hf.2 k) H locs fl hR hle hL h1 (x_tl (x_tl h2)) hS hc hs)
  · exact hf.elim
theorem snd_if_ge {off : Int} {a : Nat} (ht : (pc : Int) + off = (a : Int)) (hd : decode M.cd pc = .ok (.ifCond .ge off, 3)) : x_Snd xm M pc (pc + 3) (x_if (fun x => 0 ≤ x) a) := by
  rintro n0 oa D p l e R s m args below meth c Γ Z J q h0 ⟨ls, st, h⟩ C - hf hq hJ H locs fl hR hle hL h1 h2 hS hc hs
  obtain ⟨hx, hb, -⟩ := C
  unfold x_if at hf
  dsimp only at hf hL h1 h2 ⊢
  split at hf
  · exact lv_if_ge hx hb hd ht (fun k => hJ _ _ (hf.1 k) H locs fl hR hle hL h1 (x_tl h2) hS hc hs) (fun k => hq _ (hf.2 k) H locs fl hR hle hL h1 (x_tl h2) hS hc hs)
  · exact hf.elim
theorem snd_icmp_ge {off : Int} {a : Nat} (ht : (pc : Int) + off = (a : Int)) (hd : decode M.cd pc = .ok (.if_icmp .ge off, 3)) : x_Snd xm M pc (pc + 3) (x_icmp (fun x y => y ≤ x) a) := by
  rintro n0 oa D p l e R s m args below meth c Γ Z J q h0 ⟨ls, st, h⟩ C - hf hq hJ H locs fl hR hle hL h1 h2 hS hc hs
  obtain ⟨hx, hb, -⟩ := C
  unfold x_icmp at hf
  dsimp only at hf hL h1 h2 ⊢
  split at hf
  · exact lv_icmp_ge hx hb hd ht (fun k => hJ _ _ (hf.1 k) H locs fl hR hle hL h1 (x_tl (x_tl h2)) hS hc hs) (fun k => hq _ (hf.2 k) H locs fl hR hle hL h1 (x_tl (x_tl h2)) hS hc hs)
  · exact hf.elim
theorem snd_if_gt {off : Int} {a : Nat} (ht : (pc : Int) + off = (a : Int)) (hd : decode M.cd pc = .ok (.ifCond .gt off, 3)) : x_Snd xm M pc (pc + 3) (x_if (fun x => 0 < x) a) := by
  rintro n0 oa D p l e R s m args below meth c Γ Z J q h0 ⟨ls, st, h⟩ C - hf hq hJ H locs fl hR hle hL h1 h2 hS hc hs
  obtain ⟨hx, hb, -⟩ := C
  unfold x_if at hf
  dsimp only at hf hL h1 h2 ⊢
  split at hf
  · exact lv_if_gt hx hb hd ht (fun k => hJ _ _ (hf.1 k) H locs fl hR hle hL h1 (x_tl h2) hS hc hs) (fun k => hq _ (hf.2 k) H locs fl hR hle hL h1 (x_tl h2) hS hc hs)
  · exact hf.elim
theorem snd_icmp_gt {off : Int} {a : Nat} (ht : (pc : Int) + off = (a : Int)) (hd : decode M.cd pc = .ok (.if_icmp .gt off, 3)) : x_Snd xm M pc (pc + 3) (x_icmp (fun x y => y < x) a) := by
  rintro n0 oa D p l e R s m args below meth c Γ Z J q h0 ⟨ls, st, h⟩ C - hf hq hJ H locs fl hR hle hL h1 h2 hS hc hs
  obtain ⟨hx, hb, -⟩ := C
  unfold x_icmp at hf
  dsimp only at hf hL h1 h2 ⊢
  split at hf
  · exact lv_icmp_gt hx hb hd ht (fun k => hJ _ _ (hf.1 k) H locs fl hR hle hL h1 (x_tl (x_tl h2)) hS hc hs) (fun k => hq _ (hf.2 k) H locs fl hR hle hL h1 (x_tl (x_tl h2)) hS hc hs)
  · exact hf.elim
theorem snd_if_le {off : Int} {a : Nat} (ht : (pc : Int) + off = (a : Int)) (hd : decode M.cd pc = .ok (.ifCond .le off, 3)) : x_Snd xm M pc (pc + 3) (x_if (fun x => x ≤ 0) a) := by
  rintro n0 oa D p l e R s m args below meth c Γ Z J q h0 ⟨ls, st, h⟩ C - hf hq hJ H locs fl hR hle hL h1 h2 hS hc hs
  obtain ⟨hx, hb, -⟩ := C
  unfold x_if at hf
  dsimp only at hf hL h1 h2 ⊢
  split at hf
  · exact lv_if_le hx hb hd ht (fun k => hJ _ _ (hf.1 k) H locs fl hR hle hL h1 (x_tl h2) hS hc hs) (fun k => hq _ (hf.2 k) H locs fl hR hle hL h1 (x_tl h2) hS hc hs)
  · exact hf.elim
theorem snd_icmp_le {off : Int} {a : Nat} (ht : (pc : Int) + off = (a : Int)) (hd : decode M.cd pc = .ok (.if_icmp .le off, 3)) : x_Snd xm M pc (pc + 3) (x_icmp (fun x y => x ≤ y) a) := by
  rintro n0 oa D p l e R s m args below meth c Γ Z J q h0 ⟨ls, st, h⟩ C - hf hq hJ H locs fl hR hle hL h1 h2 hS hc hs
  obtain ⟨hx, hb, -⟩ := C
  unfold x_icmp at hf
  dsimp only at hf hL h1 h2 ⊢
  split at hf
  · exact lv_icmp_le hx hb hd ht (fun k => hJ _ _ (hf.1 k) H locs fl hR hle hL h1 (x_tl (x_tl h2)) hS hc hs) (fun k => hq _ (hf.2 k) H locs fl hR hle hL h1 (x_tl (x_tl h2)) hS hc hs)
  · exact hf.elim
theorem snd_ifnull {off : Int} {a : Nat} (ht : (pc : Int) + off = (a : Int)) (hd : decode M.cd pc = .ok (.ifnull off, 3)) : x_Snd xm M pc (pc + 3) (x_ifnull a) := by
  rintro n0 oa D p l e R s m args below meth c Γ Z J q h0 ⟨ls, st, h⟩ C - hf hq hJ H locs fl hR hle hL h1 h2 hS hc hs
  obtain ⟨hx, hb, -⟩ := C
  unfold x_ifnull at hf
  dsimp only at hf hL h1 h2 ⊢
  split at hf
  · rename_i t j st
    rw [List.map_cons]
    by_cases hj : j = 0
    · have e2 : x_cv n0 oa h (.inr (.inr (t, j))) = .null := by show x_cr n0 oa h t j = .null; unfold x_cr; rw [if_pos hj]
      rw [e2]
      exact lv_ifnullN hx hb hd ht (hJ _ _ (hf.1 hj) H locs fl hR hle hL h1 (x_tl h2) hS hc hs)
    · have e2 : x_cv n0 oa h (.inr (.inr (t, j))) = .ref (x_addr n0 oa h t j) := by show x_cr n0 oa h t j = _; unfold x_cr; rw [if_neg hj]
      rw [e2]
      exact lv_ifnull hx hb hd (hq _ (hf.2 hj) H locs fl hR hle hL h1 (x_tl h2) hS hc hs)
  · exact hf.elim
theorem snd_ifnonnull {off : Int} {a : Nat} (ht : (pc : Int) + off = (a : Int)) (hd : decode M.cd pc = .ok (.ifnonnull off, 3)) : x_Snd xm M pc (pc + 3) (x_ifnonnull a) := by
  rintro n0 oa D p l e R s m args below meth c Γ Z J q h0 ⟨ls, st, h⟩ C - hf hq hJ H locs fl hR hle hL h1 h2 hS hc hs
  obtain ⟨hx, hb, -⟩ := C
  unfold x_ifnonnull at hf
  dsimp only at hf hL h1 h2 ⊢
  split at hf
  · rename_i t j st
    rw [List.map_cons]
    by_cases hj : j = 0
    · have e2 : x_cv n0 oa h (.inr (.inr (t, j))) = .null := by show x_cr n0 oa h t j = .null; unfold x_cr; rw [if_pos hj]
      rw [e2]
      exact lv_ifnonnullN hx hb hd (hq _ (hf.2 hj) H locs fl hR hle hL h1 (x_tl h2) hS hc hs)
    · have e2 : x_cv n0 oa h (.inr (.inr (t, j))) = .ref (x_addr n0 oa h t j) := by show x_cr n0 oa h t j = _; unfold x_cr; rw [if_neg hj]
      rw [e2]
      exact lv_ifnonnull hx hb hd ht (hJ _ _ (hf.1 hj) H locs fl hR hle hL h1 (x_tl h2) hS hc hs)
  · exact hf.elim
end XS1
