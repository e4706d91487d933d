/-! THE MACHINE IS SOUND -/
def x_argok (n : Nat) (a : List xV) : Bool := decide (a.length ≤ n) && a.all (fun v => x_cat v == 1)
def x_init (n : Nat) (a : List xV) : List xV := a ++ List.replicate (n - a.length) (.inr (.inr (0, 0)))
/-- the method μ from pc on comes to an end with Z, within n blocks -/
def x_wp (xm : Nat → xM) (cd : Nat → Nat → List (Nat × xI)) : Nat → Nat → Nat → xS → (xO → xH → Prop) → Prop
  | 0, _, _, _, _ => False
  | n + 1, μ, pc, S, Z => x_seq (cd μ pc) (fun μ' a h Z' => x_argok (xm μ').mL a = true ∧ x_ce h = 0 ∧ x_so h = 0 ∧ x_wp xm cd n μ' 0 (x_init (xm μ').mL a, [], h) Z') Z (fun pc' S' => x_wp xm cd n μ pc' S' Z) S
def x_okL (xm : Nat → xM) (M : xM) : Nat → List (Nat × xI) → Prop
  | _, [] => True
  | pc, f :: r => x_Snd xm M pc f.1 f.2 ∧ x_okL xm M f.1 r
/-- a method whose name and class are as they must be -/
def x_okM (M : xM) : Prop := plainName M.y.cls = true ∧ M.own = M.y.cls ∧ (M.ini = true → M.y.name = "<init>")
theorem x_seq_snd {xm : Nat → xM} {M : xM} {n0 : Nat} {oa : Nat → Nat → Nat} {D : (Nat → ClassId) × (Nat → Nat → Nat) × (Nat → ClassId)} {p : Program} {l : Launch} {e : Env} {R : Room} {s : State} {m : MethodId} {args : Array Value} {below : List Frame} {meth : Method} {c : Code} {Γ : xG} {Z : xO → xH → Prop} {J : Nat → xS → Prop} {h0 : xH}
    (C : x_Cx n0 oa D M h0 p l R s m args meth c) (hΓ : ∀ μ a h Z', Γ μ a h Z' → x_Con n0 oa D (xm μ) a h Z') (hJ : ∀ pc' S', J pc' S' → x_At n0 oa D p l e R s m args below meth c M h0 (x_MQ n0 oa D s args below M h0 Z) pc' S') :
    ∀ (L : List (Nat × xI)) (pc : Nat) (S : xS), x_okL xm M pc L → x_seq L Γ Z J S → x_At n0 oa D p l e R s m args below meth c M h0 (x_MQ n0 oa D s args below M h0 Z) pc S
  | [], _, _, _, h => h.elim
  | f :: r, pc, S, hok, h => hok.1 n0 oa D p l e R s m args below meth c Γ Z J _ h0 S C hΓ h (fun S' h' => x_seq_snd C hΓ hJ r f.1 S' hok.2 h') hJ
theorem x_args_at : ∀ (vs : List Value) (k i : Nat) (v : Value), (∀ w ∈ vs, w.category = 1) → vs[i]? = some v → (k + i, v) ∈ lv_args k vs
  | [], _, _, _, _, h => by simp at h
  | w :: r, k, i, v, hc, h => by
    have hw := hc w List.mem_cons_self
    unfold lv_args
    match i, h with
    | 0, h =>
      cases h
      exact List.mem_cons_self
    | i + 1, h =>
      refine List.mem_cons_of_mem _ ?_
      have := x_args_at r (k + 1) i v (fun w hw => hc w (List.mem_cons_of_mem _ hw)) (by simpa using h)
      rw [hw]
      rw [show k + (i + 1) = k + 1 + i by omega]
      exact this
theorem x_entry {n0 : Nat} {oa : Nat → Nat → Nat} {h : xH} {n : Nat} {a : List xV} (hok : x_argok n a = true) (m : MethodId) :
    ∃ fl : Array Slot, entryFrame m ((a.map (x_cv n0 oa h)).toArray) n = F0 m 0 fl [] ∧ x_Loc (x_cv n0 oa h) fl n (x_init n a) := by
  simp only [x_argok, Bool.and_eq_true, decide_eq_true_eq, List.all_eq_true, beq_iff_eq] at hok
  have hcat : ∀ w ∈ a.map (x_cv n0 oa h), w.category = 1 := by
    intro w hw
    obtain ⟨v, hv, rfl⟩ := List.mem_map.mp hw
    rw [x_cv_cat]
    exact hok.2 v hv
  have hsl : ∀ vs : List Value, (∀ w ∈ vs, w.category = 1) → (lg_sl vs).length = vs.length := by
    intro vs
    induction vs with
    | nil => intro _; rfl
    | cons v r ih =>
      intro hc
      have hv := hc v List.mem_cons_self
      have := ih (fun w hw => hc w (List.mem_cons_of_mem _ hw))
      simp only [lg_sl, List.flatMap_cons, hv] at this ⊢
      simp at this ⊢
      omega
  have hlen := hsl _ hcat
  rw [List.length_map] at hlen
  rw [lg_entry_eq]
  refine ⟨_, rfl, ?_, ?_⟩
  · unfold x_init
    rw [List.length_append, List.length_replicate]
    omega
  · have hl := lv_entry (a.map (x_cv n0 oa h)) (n := n) (by rw [hlen]; exact hok.1)
    refine ⟨hl.1, hl.2.1, ?_⟩
    rintro ⟨i, w⟩ hq
    obtain ⟨v, hv, hs, rfl⟩ := x_prs_mem.mp hq
    unfold x_init at hv
    by_cases hi : i < a.length
    · rw [List.getElem?_append_left hi] at hv
      refine hl.2.2 (i, x_cv n0 oa h v) ?_
      have := x_args_at (a.map (x_cv n0 oa h)) 0 i (x_cv n0 oa h v) hcat (by rw [List.getElem?_map, hv]; rfl)
      rw [Nat.zero_add] at this
      exact this
    · rw [List.getElem?_append_right (by omega)] at hv
      have := List.mem_of_getElem? hv
      rw [List.eq_of_mem_replicate this] at hs
      cases hs
theorem x_con_of {M : xM} {n0 : Nat} {oa : Nat → Nat → Nat} {D : (Nat → ClassId) × (Nat → Nat → Nat) × (Nat → ClassId)} {a : List xV} {h : xH} {Z : xO → xH → Prop} (hM : x_okM M) (hok : x_argok M.mL a = true) (hc0 : x_ce h = 0) (hs0 : x_so h = 0)
    (body : ∀ (p : Program) (l : Launch) (e : Env) (R : Room) (s : State) (m : MethodId) (args : Array Value) (below : List Frame) (meth : Method) (c : Code), x_Cx n0 oa D M h p l R s m args meth c → x_At n0 oa D p l e R s m args below meth c M h (x_MQ n0 oa D s args below M h Z) 0 (x_init M.mL a, [], h)) : x_Con n0 oa D M a h Z := by
  intro l hl hlv
  refine vx_ofW (cc := M.cd) (maxL := M.mL) (ret := M.rt) hM.1 rfl ?_
  intro p e s m args below meth c s₁ B hml htab hPc
  obtain ⟨rfl, hR, hK, hSt, hn0⟩ := hPc
  have hts : ∀ w ∈ x_ws M, w.before _ s = true := atoms_spec (ws := x_ws M) B.pre
  have hown : s.vm.findClass M.y.cls = some m.cls := findClass_of_methodNamed B.named
  have hnm : meth.name = M.y.name := (name_of_methodNamed B.named B.method).1
  have C : x_Cx n0 oa D M h p l (headSpec (x_ws M) (x_rm M)).room s m ((a.map (x_cv n0 oa h)).toArray) meth c :=
    ⟨B.exec, B.bytes, hml, by rw [hM.2.1]; exact hown, fun w hw => hts w (List.mem_cons_of_mem _ hw), B.returns, B.notSynchronized, fun q => hnm.trans (hM.2.2 q), List.eq_nil_iff_forall_not_mem.mpr htab, hK, hSt, hn0, rfl, hl⟩
  obtain ⟨fl, e1, hL⟩ := x_entry (n0 := n0) (oa := oa) (h := h) hok m
  rw [e1]
  have := body p l e _ s m _ below meth c C s.heap [] fl hR x_le.rf hL (fun v hv => ?_) (fun v hv => by cases hv) va_S.rf (by show x_ce h ≤ _; omega) (by show x_so h ≤ _; omega)
  · dsimp only at this
    rw [hc0, hs0] at this
    exact this
  · rcases List.mem_append.mp hv with hv | hv
    · exact hlv v hv
    · rw [List.eq_of_mem_replicate hv]
      exact Nat.zero_le _
theorem x_main {xm : Nat → xM} {cd : Nat → Nat → List (Nat × xI)} (hM : ∀ μ, x_okM (xm μ)) (hcd : ∀ μ pc, x_okL xm (xm μ) pc (cd μ pc)) :
    ∀ (n μ pc : Nat) (S : xS) (Z : xO → xH → Prop), x_wp xm cd n μ pc S Z → ∀ (n0 : Nat) (oa : Nat → Nat → Nat) (D : (Nat → ClassId) × (Nat → Nat → Nat) × (Nat → ClassId)) (p : Program) (l : Launch) (e : Env) (R : Room) (s : State) (m : MethodId) (args : Array Value) (below : List Frame) (meth : Method) (c : Code) (h0 : xH),
      x_Cx n0 oa D (xm μ) h0 p l R s m args meth c → x_At n0 oa D p l e R s m args below meth c (xm μ) h0 (x_MQ n0 oa D s args below (xm μ) h0 Z) pc S
  | 0, _, _, _, _, h => h.elim
  | n + 1, μ, pc, S, Z, h => fun n0 oa D p l e R s m args below meth c h0 C =>
    x_seq_snd C (fun μ' a h' Z' hΓ => x_con_of (hM μ') hΓ.1 hΓ.2.1 hΓ.2.2.1 (fun p l e R s m args below meth c C' => x_main hM hcd n μ' 0 _ Z' hΓ.2.2.2 n0 oa D p l e R s m args below meth c h' C')) (fun pc' S' hJ => x_main hM hcd n μ pc' S' Z hJ n0 oa D p l e R s m args below meth c h0 C) (cd μ pc) pc S (hcd μ pc) h
