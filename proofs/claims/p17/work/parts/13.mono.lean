/-! MORE FUEL, A WEAKER END -/
def x_mono (f : xI) : Prop := ∀ (Γ Γ' : xG) (Z Z' : xO → xH → Prop) (J J' : Nat → xS → Prop) (q q' : xS → Prop) (S : xS), (∀ μ a h Y Y', (∀ o h', Y o h' → Y' o h') → Γ μ a h Y → Γ' μ a h Y') → (∀ o h, Z o h → Z' o h) → (∀ pc S, J pc S → J' pc S) → (∀ S, q S → q' S) → f Γ Z J q S → f Γ' Z' J' q' S
theorem mono_iload {a : Nat} : x_mono (x_iload a) := by
  intro Γ Γ' Z Z' J J' q q' S hΓ hZ hJ hq
  unfold x_iload
  split
  · exact hq _
  · exact id
theorem mono_aload {a : Nat} : x_mono (x_aload a) := by
  intro Γ Γ' Z Z' J J' q q' S hΓ hZ hJ hq
  unfold x_aload
  split
  · exact fun h => ⟨h.1, hq _ h.2⟩
  · exact id
theorem mono_istore {a : Nat} : x_mono (x_istore a) := by
  intro Γ Γ' Z Z' J J' q q' S hΓ hZ hJ hq
  unfold x_istore
  split
  · exact fun h => ⟨h.1, hq _ h.2⟩
  · exact id
theorem mono_astore {a : Nat} : x_mono (x_astore a) := by
  intro Γ Γ' Z Z' J J' q q' S hΓ hZ hJ hq
  unfold x_astore
  split
  · exact fun h => ⟨h.1, hq _ h.2⟩
  · exact id
theorem mono_iinc {a : Nat} {v : Int32} : x_mono (x_iinc a v) := by
  intro Γ Γ' Z Z' J J' q q' S hΓ hZ hJ hq
  unfold x_iinc
  split
  · exact hq _
  · exact id
theorem mono_iconst {v : Int32} : x_mono (x_iconst v) := fun Γ Γ' Z Z' J J' q q' S hΓ hZ hJ hq h => hq _ h
theorem mono_null {t : Nat} : x_mono (x_null t) := fun Γ Γ' Z Z' J J' q q' S hΓ hZ hJ hq h => hq _ h
theorem mono_stage {t : Nat} : x_mono (x_stage t) := fun Γ Γ' Z Z' J J' q q' S hΓ hZ hJ hq h => hq _ h
theorem mono_bin {f : Int32 → Int32 → Int32} : x_mono (x_bin f) := by
  intro Γ Γ' Z Z' J J' q q' S hΓ hZ hJ hq
  unfold x_bin
  split
  · exact hq _
  · exact id
theorem mono_idiv : x_mono x_idiv := by
  intro Γ Γ' Z Z' J J' q q' S hΓ hZ hJ hq
  unfold x_idiv
  split
  · exact fun h => ⟨h.1, hq _ h.2⟩
  · exact id
theorem mono_irem : x_mono x_irem := by
  intro Γ Γ' Z Z' J J' q q' S hΓ hZ hJ hq
  unfold x_irem
  split
  · exact fun h => ⟨h.1, hq _ h.2⟩
  · exact id
theorem mono_dup : x_mono x_dup := by
  intro Γ Γ' Z Z' J J' q q' S hΓ hZ hJ hq
  unfold x_dup
  split
  · exact fun h => ⟨h.1, hq _ h.2⟩
  · exact id
theorem mono_dup2 : x_mono x_dup2 := by
  intro Γ Γ' Z Z' J J' q q' S hΓ hZ hJ hq
  unfold x_dup2
  split
  · exact fun h => ⟨h.1, h.2.1, hq _ h.2.2⟩
  · exact id
theorem mono_pop : x_mono x_pop := by
  intro Γ Γ' Z Z' J J' q q' S hΓ hZ hJ hq
  unfold x_pop
  split
  · exact fun h => ⟨h.1, hq _ h.2⟩
  · exact id
theorem mono_goto {a : Nat} : x_mono (x_goto a) := fun Γ Γ' Z Z' J J' q q' S hΓ hZ hJ hq h => hJ _ _ h
theorem mono_if {c : Int32 → Prop} {a : Nat} : x_mono (x_if c a) := by
  intro Γ Γ' Z Z' J J' q q' S hΓ hZ hJ hq
  unfold x_if
  split
  · exact fun h => ⟨fun z => hJ _ _ (h.1 z), fun z => hq _ (h.2 z)⟩
  · exact id
theorem mono_icmp {c : Int32 → Int32 → Prop} {a : Nat} : x_mono (x_icmp c a) := by
  intro Γ Γ' Z Z' J J' q q' S hΓ hZ hJ hq
  unfold x_icmp
  split
  · exact fun h => ⟨fun z => hJ _ _ (h.1 z), fun z => hq _ (h.2 z)⟩
  · exact id
theorem mono_aeq {T a : Nat} : x_mono (x_aeq T a) := by
  intro Γ Γ' Z Z' J J' q q' S hΓ hZ hJ hq
  unfold x_aeq
  split
  · exact fun h => ⟨h.1, h.2.1, fun z => hJ _ _ (h.2.2.1 z), fun z => hq _ (h.2.2.2 z)⟩
  · exact id
theorem mono_ane {T a : Nat} : x_mono (x_ane T a) := by
  intro Γ Γ' Z Z' J J' q q' S hΓ hZ hJ hq
  unfold x_ane
  split
  · exact fun h => ⟨h.1, h.2.1, fun z => hJ _ _ (h.2.2.1 z), fun z => hq _ (h.2.2.2 z)⟩
  · exact id
theorem mono_ifnull {a : Nat} : x_mono (x_ifnull a) := by
  intro Γ Γ' Z Z' J J' q q' S hΓ hZ hJ hq
  unfold x_ifnull
  split
  · exact fun h => ⟨fun z => hJ _ _ (h.1 z), fun z => hq _ (h.2 z)⟩
  · exact id
theorem mono_ifnonnull {a : Nat} : x_mono (x_ifnonnull a) := by
  intro Γ Γ' Z Z' J J' q q' S hΓ hZ hJ hq
  unfold x_ifnonnull
  split
  · exact fun h => ⟨fun z => hJ _ _ (h.1 z), fun z => hq _ (h.2 z)⟩
  · exact id
theorem mono_switch {lo : Int} {tg : List Nat} {d : Nat} : x_mono (x_switch lo tg d) := by
  intro Γ Γ' Z Z' J J' q q' S hΓ hZ hJ hq
  unfold x_switch
  split
  · exact fun h => ⟨fun k a z y => hJ _ _ (h.1 k a z y), fun z => hJ _ _ (h.2 z)⟩
  · exact id
theorem mono_gfi {K k : Nat} : x_mono (x_gfi K k) := by
  intro Γ Γ' Z Z' J J' q q' S hΓ hZ hJ hq
  unfold x_gfi
  split
  · exact fun h => ⟨h.1, h.2.1, hq _ h.2.2⟩
  · exact id
theorem mono_gfr {K k T : Nat} : x_mono (x_gfr K k T) := by
  intro Γ Γ' Z Z' J J' q q' S hΓ hZ hJ hq
  unfold x_gfr
  split
  · exact fun h => ⟨h.1, h.2.1, hq _ h.2.2⟩
  · exact id
theorem mono_pfi {K k : Nat} : x_mono (x_pfi K k) := by
  intro Γ Γ' Z Z' J J' q q' S hΓ hZ hJ hq
  unfold x_pfi
  split
  · exact fun h => ⟨h.1, h.2.1, hq _ h.2.2⟩
  · exact id
theorem mono_pfz {K k : Nat} : x_mono (x_pfz K k) := by
  intro Γ Γ' Z Z' J J' q q' S hΓ hZ hJ hq
  unfold x_pfz
  split
  · exact fun h => ⟨h.1, h.2.1, h.2.2.1, hq _ h.2.2.2⟩
  · exact id
theorem mono_pfr {K k T : Nat} : x_mono (x_pfr K k T) := by
  intro Γ Γ' Z Z' J J' q q' S hΓ hZ hJ hq
  unfold x_pfr
  split
  · exact fun h => ⟨h.1, h.2.1, h.2.2.1, hq _ h.2.2.2⟩
  · exact id
theorem mono_ald {K : Nat} : x_mono (x_ald K) := by
  intro Γ Γ' Z Z' J J' q q' S hΓ hZ hJ hq
  unfold x_ald
  split
  · exact fun h => ⟨h.1, h.2.1, h.2.2.1, hq _ h.2.2.2⟩
  · exact id
theorem mono_ast {K : Nat} : x_mono (x_ast K) := by
  intro Γ Γ' Z Z' J J' q q' S hΓ hZ hJ hq
  unfold x_ast
  split
  · exact fun h => ⟨h.1, h.2.1, h.2.2.1, hq _ h.2.2.2⟩
  · exact id
theorem mono_zst {K : Nat} : x_mono (x_zst K) := by
  intro Γ Γ' Z Z' J J' q q' S hΓ hZ hJ hq
  unfold x_zst
  split
  · exact fun h => ⟨h.1, h.2.1, h.2.2.1, h.2.2.2.1, hq _ h.2.2.2.2⟩
  · exact id
theorem mono_aald {K T : Nat} : x_mono (x_aald K T) := by
  intro Γ Γ' Z Z' J J' q q' S hΓ hZ hJ hq
  unfold x_aald
  split
  · exact fun h => ⟨h.1, h.2.1, h.2.2.1, hq _ h.2.2.2⟩
  · exact id
theorem mono_aast {K T : Nat} : x_mono (x_aast K T) := by
  intro Γ Γ' Z Z' J J' q q' S hΓ hZ hJ hq
  unfold x_aast
  split
  · exact fun h => ⟨h.1, h.2.1, h.2.2.1, h.2.2.2.1, hq _ h.2.2.2.2⟩
  · exact id
theorem mono_alen {K : Nat} : x_mono (x_alen K) := by
  intro Γ Γ' Z Z' J J' q q' S hΓ hZ hJ hq
  unfold x_alen
  split
  · exact fun h => ⟨h.1, h.2.1, hq _ h.2.2⟩
  · exact id
theorem mono_newo {K N bc bs : Nat} : x_mono (x_newo K N bc bs) := fun Γ Γ' Z Z' J J' q q' S hΓ hZ hJ hq h => ⟨h.1, h.2.1, hq _ h.2.2⟩
theorem mono_newr {K bc bs : Nat} : x_mono (x_newr K bc bs) := by
  intro Γ Γ' Z Z' J J' q q' S hΓ hZ hJ hq
  unfold x_newr
  split
  · exact fun h => ⟨h.1, h.2.1, h.2.2.1, h.2.2.2.1, hq _ h.2.2.2.2⟩
  · exact id
theorem mono_newm {K K' bc bs : Nat} : x_mono (x_newm K K' bc bs) := by
  intro Γ Γ' Z Z' J J' q q' S hΓ hZ hJ hq
  unfold x_newm
  split
  · exact fun h => ⟨h.1, h.2.1, h.2.2.1, h.2.2.2.1, h.2.2.2.2.1, h.2.2.2.2.2.1, hq _ h.2.2.2.2.2.2⟩
  · exact id
theorem mono_objinit : x_mono x_objinit := by
  intro Γ Γ' Z Z' J J' q q' S hΓ hZ hJ hq
  unfold x_objinit
  split
  · exact fun h => ⟨h.1, h.2.1, h.2.2.1, hq _ h.2.2.2⟩
  · exact id
theorem mono_call {y n mc ms bc bs : Nat} : x_mono (x_call y n mc ms bc bs) := fun Γ Γ' Z Z' J J' q q' S hΓ hZ hJ hq h => ⟨h.1, h.2.1, h.2.2.1, h.2.2.2.1, hΓ _ _ _ _ _ (fun o h' => match o with
  | .inl _ => fun z => hq _ z
  | .inr _ => fun z => hZ _ _ z) h.2.2.2.2⟩
theorem mono_callv {K y n mc ms bc bs : Nat} : x_mono (x_callv K y n mc ms bc bs) := fun Γ Γ' Z Z' J J' q q' S hΓ hZ hJ hq h => ⟨h.1, mono_call Γ Γ' Z Z' J J' q q' S hΓ hZ hJ hq h.2⟩
theorem mono_calli {y n mc ms bc bs : Nat} : x_mono (x_calli y n mc ms bc bs) := fun Γ Γ' Z Z' J J' q q' S hΓ hZ hJ hq h => ⟨h.1, h.2.1, h.2.2.1, h.2.2.2.1, h.2.2.2.2.1, h.2.2.2.2.2.1, hΓ _ _ _ _ _ (fun o h' => match o with
  | .inl _ => fun z => hq _ z
  | .inr _ => fun z => z) h.2.2.2.2.2.2⟩
theorem mono_calln {y n mc ms bc bs : Nat} : x_mono (x_calln y n mc ms bc bs) := fun Γ Γ' Z Z' J J' q q' S hΓ hZ hJ hq h => ⟨h.1, h.2.1, h.2.2.1, h.2.2.2.1, hΓ _ _ _ _ _ (fun o h' => match o with
  | .inl _ => fun z => hq _ z
  | .inr _ => fun z => z) h.2.2.2.2⟩
theorem mono_ret : x_mono x_ret := by
  intro Γ Γ' Z Z' J J' q q' S hΓ hZ hJ hq
  unfold x_ret
  split
  · exact hZ _ _
  · exact id
theorem mono_iret : x_mono x_iret := by
  intro Γ Γ' Z Z' J J' q q' S hΓ hZ hJ hq
  unfold x_iret
  split
  · exact hZ _ _
  · exact id
theorem mono_zret : x_mono x_zret := by
  intro Γ Γ' Z Z' J J' q q' S hΓ hZ hJ hq
  unfold x_zret
  split
  · exact fun h => ⟨h.1, hZ _ _ h.2⟩
  · exact id
theorem mono_aret {T : Nat} : x_mono (x_aret T) := by
  intro Γ Γ' Z Z' J J' q q' S hΓ hZ hJ hq
  unfold x_aret
  split
  · exact fun h => ⟨h.1, hZ _ _ h.2⟩
  · exact id
theorem mono_throw {E bc bs : Nat} : x_mono (x_throw E bc bs) := fun Γ Γ' Z Z' J J' q q' S hΓ hZ hJ hq h => ⟨h.1, h.2.1, h.2.2.1, fun d => hZ _ _ (h.2.2.2 d)⟩
def x_mL : List (Nat × xI) → Prop
  | [] => True
  | f :: r => x_mono f.2 ∧ x_mL r
theorem x_mlc {nx : Nat} {f : xI} {r : List (Nat × xI)} (a : x_mono f) (b : x_mL r) : x_mL ((nx, f) :: r) := ⟨a, b⟩
theorem x_mln : x_mL [] := trivial
theorem x_seq_mono : ∀ (L : List (Nat × xI)), x_mL L → ∀ (Γ Γ' : xG) (Z Z' : xO → xH → Prop) (J J' : Nat → xS → Prop) (S : xS), (∀ μ a h Y Y', (∀ o h', Y o h' → Y' o h') → Γ μ a h Y → Γ' μ a h Y') → (∀ o h, Z o h → Z' o h) → (∀ pc S, J pc S → J' pc S) → x_seq L Γ Z J S → x_seq L Γ' Z' J' S
  | [], _, _, _, _, _, _, _, _, _, _, _, h => h
  | f :: r, hm, Γ, Γ', Z, Z', J, J', S, hΓ, hZ, hJ, h => hm.1 Γ Γ' Z Z' J J' _ _ S hΓ hZ hJ (fun S' h' => x_seq_mono r hm.2 Γ Γ' Z Z' J J' S' hΓ hZ hJ h') h
theorem x_wp_mono {xm : Nat → xM} {cd : Nat → Nat → List (Nat × xI)} (hcd : ∀ μ pc, x_mL (cd μ pc)) : ∀ (n m : Nat), n ≤ m → ∀ (μ pc : Nat) (S : xS) (Z Z' : xO → xH → Prop), (∀ o h, Z o h → Z' o h) → x_wp xm cd n μ pc S Z → x_wp xm cd m μ pc S Z'
  | 0, _, _, _, _, _, _, _, _, h => h.elim
  | n + 1, 0, hnm, _, _, _, _, _, _, _ => by omega
  | n + 1, m + 1, hnm, μ, pc, S, Z, Z', hZ, h => x_seq_mono (cd μ pc) (hcd μ pc) _ _ Z Z' _ _ S (fun μ' a h' Y Y' hY hg => ⟨hg.1, hg.2.1, hg.2.2.1, x_wp_mono hcd n m (by omega) μ' 0 _ Y Y' hY hg.2.2.2⟩) hZ (fun pc' S' hg => x_wp_mono hcd n m (by omega) μ pc' S' Z Z' hZ hg) h
