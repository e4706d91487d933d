/-! WHAT A METHOD LEAVES ALONE: a word on the heap that no instruction of a set of methods touches holds behind them -/
def x_kp (P : xH → Prop) (T : Nat → Bool) (f : xI) : Prop := ∀ (Γ : xG) (Z : xO → xH → Prop) (J : Nat → xS → Prop) (q : xS → Prop) (S : xS), (∀ μ a h Y, T μ = true → P h → Γ μ a h Y → Γ μ a h (fun o g => Y o g ∧ P g)) → (∀ μ a h Y Y', (∀ o g, Y o g → Y' o g) → Γ μ a h Y → Γ μ a h Y') → P S.2.2 → f Γ Z J q S → f Γ (fun o g => Z o g ∧ P g) (fun pc S' => J pc S' ∧ P S'.2.2) (fun S' => q S' ∧ P S'.2.2) S
/-- P stands under these writes: fields, arrays, new ones -/
def x_stb (P : xH → Prop) (wf : Nat → Nat → Bool) (wa wn : Nat → Bool) : Prop :=
  (∀ h a b, P h → P (x_setc h a b)) ∧ (∀ h d, P h → P (x_exc h d)) ∧ (∀ h K k j v, wf K k = true → P h → P (x_puti h K k j v)) ∧ (∀ h K k j v, wf K k = true → P h → P (x_putr h K k j v)) ∧
  (∀ h K j i v, wa K = true → P h → P (x_puti h K j i v)) ∧ (∀ h K j i v, wa K = true → P h → P (x_putr h K j i v)) ∧ (∀ h K N, wn K = true → P h → P (x_new h K N)) ∧ (∀ h K n, wn K = true → P h → P (x_newa h K n))
section XKP
variable {P : xH → Prop} {T : Nat → Bool} {wf : Nat → Nat → Bool} {wa wn : Nat → Bool}
theorem kp_iload {a : Nat} : x_kp P T (x_iload a) := by
  intro Γ Z J q S hΓ hM hP
  unfold x_iload
  split
  · exact fun h => ⟨h, hP⟩
  · exact id
theorem kp_aload {a : Nat} : x_kp P T (x_aload a) := by
  intro Γ Z J q S hΓ hM hP
  unfold x_aload
  split
  · exact fun h => ⟨h.1, h.2, hP⟩
  · exact id
theorem kp_istore {a : Nat} : x_kp P T (x_istore a) := by
  intro Γ Z J q S hΓ hM hP
  unfold x_istore
  split
  · exact fun h => ⟨h.1, h.2, hP⟩
  · exact id
theorem kp_astore {a : Nat} : x_kp P T (x_astore a) := by
  intro Γ Z J q S hΓ hM hP
  unfold x_astore
  split
  · exact fun h => ⟨h.1, h.2, hP⟩
  · exact id
theorem kp_iinc {a : Nat} {v : Int32} : x_kp P T (x_iinc a v) := by
  intro Γ Z J q S hΓ hM hP
  unfold x_iinc
  split
  · exact fun h => ⟨h, hP⟩
  · exact id
theorem kp_iconst {v : Int32} : x_kp P T (x_iconst v) := fun Γ Z J q S hΓ hM hP h => ⟨h, hP⟩
theorem kp_null {t : Nat} : x_kp P T (x_null t) := fun Γ Z J q S hΓ hM hP h => ⟨h, hP⟩
theorem kp_stage {t : Nat} : x_kp P T (x_stage t) := fun Γ Z J q S hΓ hM hP h => ⟨h, hP⟩
theorem kp_bin {f : Int32 → Int32 → Int32} : x_kp P T (x_bin f) := by
  intro Γ Z J q S hΓ hM hP
  unfold x_bin
  split
  · exact fun h => ⟨h, hP⟩
  · exact id
theorem kp_idiv : x_kp P T x_idiv := by
  intro Γ Z J q S hΓ hM hP
  unfold x_idiv
  split
  · exact fun h => ⟨h.1, h.2, hP⟩
  · exact id
theorem kp_irem : x_kp P T x_irem := by
  intro Γ Z J q S hΓ hM hP
  unfold x_irem
  split
  · exact fun h => ⟨h.1, h.2, hP⟩
  · exact id
theorem kp_dup : x_kp P T x_dup := by
  intro Γ Z J q S hΓ hM hP
  unfold x_dup
  split
  · exact fun h => ⟨h.1, h.2, hP⟩
  · exact id
theorem kp_dup2 : x_kp P T x_dup2 := by
  intro Γ Z J q S hΓ hM hP
  unfold x_dup2
  split
  · exact fun h => ⟨h.1, h.2.1, h.2.2, hP⟩
  · exact id
theorem kp_pop : x_kp P T x_pop := by
  intro Γ Z J q S hΓ hM hP
  unfold x_pop
  split
  · exact fun h => ⟨h.1, h.2, hP⟩
  · exact id
theorem kp_goto {a : Nat} : x_kp P T (x_goto a) := fun Γ Z J q S hΓ hM hP h => ⟨h, hP⟩
theorem kp_if {c : Int32 → Prop} {a : Nat} : x_kp P T (x_if c a) := by
  intro Γ Z J q S hΓ hM hP
  unfold x_if
  split
  · exact fun h => ⟨fun z => ⟨h.1 z, hP⟩, fun z => ⟨h.2 z, hP⟩⟩
  · exact id
theorem kp_icmp {c : Int32 → Int32 → Prop} {a : Nat} : x_kp P T (x_icmp c a) := by
  intro Γ Z J q S hΓ hM hP
  unfold x_icmp
  split
  · exact fun h => ⟨fun z => ⟨h.1 z, hP⟩, fun z => ⟨h.2 z, hP⟩⟩
  · exact id
theorem kp_aeq {t a : Nat} : x_kp P T (x_aeq t a) := by
  intro Γ Z J q S hΓ hM hP
  unfold x_aeq
  split
  · exact fun h => ⟨h.1, h.2.1, fun z => ⟨h.2.2.1 z, hP⟩, fun z => ⟨h.2.2.2 z, hP⟩⟩
  · exact id
theorem kp_ane {t a : Nat} : x_kp P T (x_ane t a) := by
  intro Γ Z J q S hΓ hM hP
  unfold x_ane
  split
  · exact fun h => ⟨h.1, h.2.1, fun z => ⟨h.2.2.1 z, hP⟩, fun z => ⟨h.2.2.2 z, hP⟩⟩
  · exact id
theorem kp_ifnull {a : Nat} : x_kp P T (x_ifnull a) := by
  intro Γ Z J q S hΓ hM hP
  unfold x_ifnull
  split
  · exact fun h => ⟨fun z => ⟨h.1 z, hP⟩, fun z => ⟨h.2 z, hP⟩⟩
  · exact id
theorem kp_ifnonnull {a : Nat} : x_kp P T (x_ifnonnull a) := by
  intro Γ Z J q S hΓ hM hP
  unfold x_ifnonnull
  split
  · exact fun h => ⟨fun z => ⟨h.1 z, hP⟩, fun z => ⟨h.2 z, hP⟩⟩
  · exact id
theorem kp_switch {lo : Int} {tg : List Nat} {d : Nat} : x_kp P T (x_switch lo tg d) := by
  intro Γ Z J q S hΓ hM hP
  unfold x_switch
  split
  · exact fun h => ⟨fun k a z y => ⟨h.1 k a z y, hP⟩, fun z => ⟨h.2 z, hP⟩⟩
  · exact id
theorem kp_gfi {K k : Nat} : x_kp P T (x_gfi K k) := by
  intro Γ Z J q S hΓ hM hP
  unfold x_gfi
  split
  · exact fun h => ⟨h.1, h.2.1, h.2.2, hP⟩
  · exact id
theorem kp_gfr {K k t : Nat} : x_kp P T (x_gfr K k t) := by
  intro Γ Z J q S hΓ hM hP
  unfold x_gfr
  split
  · exact fun h => ⟨h.1, h.2.1, h.2.2, hP⟩
  · exact id
theorem kp_pfi {K k : Nat} (B : x_stb P wf wa wn) (hw : wf K k = true) : x_kp P T (x_pfi K k) := by
  intro Γ Z J q S hΓ hM hP
  unfold x_pfi
  split
  · exact fun h => ⟨h.1, h.2.1, h.2.2, B.2.2.1 _ _ _ _ _ hw hP⟩
  · exact id
theorem kp_pfz {K k : Nat} (B : x_stb P wf wa wn) (hw : wf K k = true) : x_kp P T (x_pfz K k) := by
  intro Γ Z J q S hΓ hM hP
  unfold x_pfz
  split
  · exact fun h => ⟨h.1, h.2.1, h.2.2.1, h.2.2.2, B.2.2.1 _ _ _ _ _ hw hP⟩
  · exact id
theorem kp_pfr {K k t : Nat} (B : x_stb P wf wa wn) (hw : wf K k = true) : x_kp P T (x_pfr K k t) := by
  intro Γ Z J q S hΓ hM hP
  unfold x_pfr
  split
  · exact fun h => ⟨h.1, h.2.1, h.2.2.1, h.2.2.2, B.2.2.2.1 _ _ _ _ _ hw hP⟩
  · exact id
theorem kp_ald {K : Nat} : x_kp P T (x_ald K) := by
  intro Γ Z J q S hΓ hM hP
  unfold x_ald
  split
  · exact fun h => ⟨h.1, h.2.1, h.2.2.1, h.2.2.2, hP⟩
  · exact id
theorem kp_ast {K : Nat} (B : x_stb P wf wa wn) (hw : wa K = true) : x_kp P T (x_ast K) := by
  intro Γ Z J q S hΓ hM hP
  unfold x_ast
  split
  · exact fun h => ⟨h.1, h.2.1, h.2.2.1, h.2.2.2, B.2.2.2.2.1 _ _ _ _ _ hw hP⟩
  · exact id
theorem kp_zst {K : Nat} (B : x_stb P wf wa wn) (hw : wa K = true) : x_kp P T (x_zst K) := by
  intro Γ Z J q S hΓ hM hP
  unfold x_zst
  split
  · exact fun h => ⟨h.1, h.2.1, h.2.2.1, h.2.2.2.1, h.2.2.2.2, B.2.2.2.2.1 _ _ _ _ _ hw hP⟩
  · exact id
theorem kp_aald {K t : Nat} : x_kp P T (x_aald K t) := by
  intro Γ Z J q S hΓ hM hP
  unfold x_aald
  split
  · exact fun h => ⟨h.1, h.2.1, h.2.2.1, h.2.2.2, hP⟩
  · exact id
theorem kp_aast {K t : Nat} (B : x_stb P wf wa wn) (hw : wa K = true) : x_kp P T (x_aast K t) := by
  intro Γ Z J q S hΓ hM hP
  unfold x_aast
  split
  · exact fun h => ⟨h.1, h.2.1, h.2.2.1, h.2.2.2.1, h.2.2.2.2, B.2.2.2.2.2.1 _ _ _ _ _ hw hP⟩
  · exact id
theorem kp_alen {K : Nat} : x_kp P T (x_alen K) := by
  intro Γ Z J q S hΓ hM hP
  unfold x_alen
  split
  · exact fun h => ⟨h.1, h.2.1, h.2.2, hP⟩
  · exact id
theorem kp_newo {K N bc bs : Nat} (B : x_stb P wf wa wn) (hw : wn K = true) : x_kp P T (x_newo K N bc bs) := fun Γ Z J q S hΓ hM hP h => ⟨h.1, h.2.1, h.2.2, B.2.2.2.2.2.2.1 _ _ _ hw hP⟩
theorem kp_newr {K bc bs : Nat} (B : x_stb P wf wa wn) (hw : wn K = true) : x_kp P T (x_newr K bc bs) := by
  intro Γ Z J q S hΓ hM hP
  unfold x_newr
  split
  · exact fun h => ⟨h.1, h.2.1, h.2.2.1, h.2.2.2.1, h.2.2.2.2, B.2.2.2.2.2.2.2 _ _ _ hw hP⟩
  · exact id
theorem kp_objinit : x_kp P T x_objinit := by
  intro Γ Z J q S hΓ hM hP
  unfold x_objinit
  split
  · exact fun h => ⟨h.1, h.2.1, h.2.2.1, h.2.2.2, hP⟩
  · exact id
theorem kp_call {y n mc ms bc bs : Nat} (B : x_stb P wf wa wn) (hT : T y = true) : x_kp P T (x_call y n mc ms bc bs) := fun Γ Z J q S hΓ hM hP h => ⟨h.1, h.2.1, h.2.2.1, h.2.2.2.1, hM _ _ _ _ _ (fun o g => match o with
  | .inl _ => fun z => ⟨z.1, B.1 _ _ _ z.2⟩
  | .inr _ => fun z => ⟨z.1, B.1 _ _ _ z.2⟩) (hΓ _ _ _ _ hT (B.1 _ _ _ hP) h.2.2.2.2)⟩
theorem kp_callv {K y n mc ms bc bs : Nat} (B : x_stb P wf wa wn) (hT : T y = true) : x_kp P T (x_callv K y n mc ms bc bs) := fun Γ Z J q S hΓ hM hP h => ⟨h.1, kp_call B hT Γ Z J q S hΓ hM hP h.2⟩
theorem kp_calli {y n mc ms bc bs : Nat} (B : x_stb P wf wa wn) (hT : T y = true) : x_kp P T (x_calli y n mc ms bc bs) := fun Γ Z J q S hΓ hM hP h => ⟨h.1, h.2.1, h.2.2.1, h.2.2.2.1, h.2.2.2.2.1, h.2.2.2.2.2.1, hM _ _ _ _ _ (fun o g => match o with
  | .inl _ => fun z => ⟨z.1, B.1 _ _ _ z.2⟩
  | .inr _ => fun z => z.1) (hΓ _ _ _ _ hT (B.1 _ _ _ hP) h.2.2.2.2.2.2)⟩
theorem kp_calln {y n mc ms bc bs : Nat} (B : x_stb P wf wa wn) (hT : T y = true) : x_kp P T (x_calln y n mc ms bc bs) := fun Γ Z J q S hΓ hM hP h => ⟨h.1, h.2.1, h.2.2.1, h.2.2.2.1, hM _ _ _ _ _ (fun o g => match o with
  | .inl _ => fun z => ⟨z.1, B.1 _ _ _ z.2⟩
  | .inr _ => fun z => z.1) (hΓ _ _ _ _ hT (B.1 _ _ _ hP) h.2.2.2.2)⟩
theorem kp_ret : x_kp P T x_ret := by
  intro Γ Z J q S hΓ hM hP
  unfold x_ret
  split
  · exact fun h => ⟨h, hP⟩
  · exact id
theorem kp_iret : x_kp P T x_iret := by
  intro Γ Z J q S hΓ hM hP
  unfold x_iret
  split
  · exact fun h => ⟨h, hP⟩
  · exact id
theorem kp_zret : x_kp P T x_zret := by
  intro Γ Z J q S hΓ hM hP
  unfold x_zret
  split
  · exact fun h => ⟨h.1, h.2, hP⟩
  · exact id
theorem kp_aret {t : Nat} : x_kp P T (x_aret t) := by
  intro Γ Z J q S hΓ hM hP
  unfold x_aret
  split
  · exact fun h => ⟨h.1, h.2, hP⟩
  · exact id
theorem kp_throw {E bc bs : Nat} (B : x_stb P wf wa wn) : x_kp P T (x_throw E bc bs) := fun Γ Z J q S hΓ hM hP h => ⟨h.1, h.2.1, h.2.2.1, fun d => ⟨h.2.2.2 d, B.2.1 _ _ hP⟩⟩
def x_kL (P : xH → Prop) (T : Nat → Bool) : List (Nat × xI) → Prop
  | [] => True
  | f :: r => x_kp P T f.2 ∧ x_kL P T r
theorem x_klc {nx : Nat} {f : xI} {r : List (Nat × xI)} (a : x_kp P T f) (b : x_kL P T r) : x_kL P T ((nx, f) :: r) := ⟨a, b⟩
theorem x_kln : x_kL P T [] := trivial
theorem x_seq_keep : ∀ (L : List (Nat × xI)), x_mL L → x_kL P T L → ∀ (Γ : xG) (Z : xO → xH → Prop) (J : Nat → xS → Prop) (S : xS), (∀ μ a h Y, T μ = true → P h → Γ μ a h Y → Γ μ a h (fun o g => Y o g ∧ P g)) → (∀ μ a h Y Y', (∀ o g, Y o g → Y' o g) → Γ μ a h Y → Γ μ a h Y') → P S.2.2 → x_seq L Γ Z J S → x_seq L Γ (fun o g => Z o g ∧ P g) (fun pc S' => J pc S' ∧ P S'.2.2) S
  | [], _, _, _, _, _, _, _, _, _, h => h
  | f :: r, hm, hk, Γ, Z, J, S, hΓ, hM, hP, h => hm.1 Γ Γ _ _ _ _ _ _ S hM (fun _ _ z => z) (fun _ _ z => z) (fun S' h' => x_seq_keep r hm.2 hk.2 Γ Z J S' hΓ hM h'.2 h'.1) (hk.1 Γ Z J _ S hΓ hM hP h)
theorem x_wp_keep (hkp : ∀ μ pc, T μ = true → x_kL P T (x_cd μ pc)) : ∀ (n μ pc : Nat) (S : xS) (Z : xO → xH → Prop), T μ = true → P S.2.2 → x_wp x_xm x_cd n μ pc S Z → x_wp x_xm x_cd n μ pc S (fun o g => Z o g ∧ P g)
  | 0, _, _, _, _, _, _, h => h.elim
  | n + 1, μ, pc, S, Z, hT, hP, h => x_seq_mono (x_cd μ pc) (x_mcd μ pc) _ _ _ _ _ _ S (fun μ' a h' Y Y' hY hg => ⟨hg.1, hg.2.1, hg.2.2.1, x_wp_mono x_mcd n n (Nat.le_refl n) μ' 0 _ Y Y' hY hg.2.2.2⟩) (fun _ _ z => z) (fun pc' S' hg => x_wp_keep hkp n μ pc' S' Z hT hg.2 hg.1)
    (x_seq_keep (x_cd μ pc) (x_mcd μ pc) (hkp μ pc hT) _ Z _ S (fun μ' a h' Y hT' hP' hg => ⟨hg.1, hg.2.1, hg.2.2.1, x_wp_keep hkp n μ' 0 _ Y hT' hP' hg.2.2.2⟩) (fun μ' a h' Y Y' hY hg => ⟨hg.1, hg.2.1, hg.2.2.1, x_wp_mono x_mcd n n (Nat.le_refl n) μ' 0 _ Y Y' hY hg.2.2.2⟩) hP h)
theorem xC.keep (hkp : ∀ μ pc, T μ = true → x_kL P T (x_cd μ pc)) {n μ : Nat} {a : List xV} {h : xH} {Z : xO → xH → Prop} (H : xC n μ a h Z) (hT : T μ = true) (hP : P h) : xC n μ a h (fun o g => Z o g ∧ P g) := ⟨H.1, H.2.1, H.2.2.1, x_wp_keep hkp n μ 0 _ Z hT hP H.2.2.2⟩
theorem x_klookup {l : List (Nat × List (Nat × xI))} (h : ∀ b ∈ l, x_kL P T b.2) (pc : Nat) : x_kL P T ((l.lookup pc).getD []) := by
  induction l with
  | nil => exact trivial
  | cons b r ih =>
    rw [List.lookup_cons]
    by_cases e : pc = b.1
    · subst e
      simp only [beq_self_eq_true]
      exact h b List.mem_cons_self
    · rw [show (pc == b.1) = false from beq_eq_false_iff_ne.mpr e]
      exact ih (fun b hb => h b (List.mem_cons_of_mem _ hb))
theorem x_kcd (ht : ∀ (i : Nat) (t : List (Nat × List (Nat × xI))), x_tbl[i]? = some t → T i = true → ∀ b ∈ t, x_kL P T b.2) (μ pc : Nat) (hT : T μ = true) : x_kL P T (x_cd μ pc) := by
  unfold x_cd
  refine x_klookup ?_ pc
  cases hx : x_tbl[μ]? with
  | none => exact fun b hb => by cases hb
  | some t => exact ht μ t hx hT
end XKP
