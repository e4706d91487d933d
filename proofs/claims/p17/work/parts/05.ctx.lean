/-! METHODS, LOCALS, AND WHAT A SOUND INSTRUCTION IS -/
/-- a method: its name, code, locals, answer, class; frames, words of locals, cells, slots that it may take; whether it is a constructor -/
abbrev xM : Type := MethodName × ByteArray × Nat × Option FieldType × String × Nat × Nat × Nat × Nat × Bool
abbrev xM.y (M : xM) : MethodName := M.1
abbrev xM.cd (M : xM) : ByteArray := M.2.1
abbrev xM.mL (M : xM) : Nat := M.2.2.1
abbrev xM.rt (M : xM) : Option FieldType := M.2.2.2.1
abbrev xM.own (M : xM) : String := M.2.2.2.2.1
abbrev xM.fr (M : xM) : Nat := M.2.2.2.2.2.1
abbrev xM.lo (M : xM) : Nat := M.2.2.2.2.2.2.1
abbrev xM.mc (M : xM) : Nat := M.2.2.2.2.2.2.2.1
abbrev xM.ms (M : xM) : Nat := M.2.2.2.2.2.2.2.2.1
abbrev xM.ini (M : xM) : Bool := M.2.2.2.2.2.2.2.2.2
/-- the good words of the tables -/
def x_big : List Cond := lw_tbl.filter goodWord
theorem x_big_in {w : Cond} (h : w ∈ lw_tbl) (hg : goodWord w = true) : w ∈ x_big := List.mem_filter.mpr ⟨h, hg⟩
def x_ws (M : xM) : List Cond := Cond.code M.y M.cd M.mL M.rt :: x_big
def x_rm (M : xM) : Room := { frames := M.fr, cells := M.mc, slots := M.ms, locals := M.lo }
/-- set locals -/
def x_svb (v : xV) : Bool := match v with
  | .inl _ => true
  | .inr (.inl _) => false
  | .inr (.inr r) => !(r.1 == 0)
def x_prs (cv : xV → Value) (ls : List xV) : List (Nat × Value) := (List.range ls.length).filterMap (fun i => (ls[i]?).bind (fun v => if x_svb v = true then some (i, cv v) else none))
theorem x_prs_mem {cv : xV → Value} {ls : List xV} {i : Nat} {w : Value} : (i, w) ∈ x_prs cv ls ↔ ∃ v, ls[i]? = some v ∧ x_svb v = true ∧ cv v = w := by
  unfold x_prs
  rw [List.mem_filterMap]
  constructor
  · rintro ⟨k, -, hk⟩
    obtain ⟨v, hv, h2⟩ := Option.bind_eq_some_iff.mp hk
    by_cases hs : x_svb v = true
    · rw [if_pos hs] at h2
      cases h2
      exact ⟨v, hv, hs, rfl⟩
    · rw [if_neg hs] at h2
      cases h2
  · rintro ⟨v, hv, hs, rfl⟩
    refine ⟨i, List.mem_range.mpr (List.getElem?_eq_some_iff.mp hv).1, ?_⟩
    rw [hv]
    show (if x_svb v = true then some (i, cv v) else none) = _
    rw [if_pos hs]
theorem x_cr_or (n0 : Nat) (oa : Nat → Nat → Nat) (h : xH) (t j : Nat) : x_cr n0 oa h t j = .null ∨ ∃ a, x_cr n0 oa h t j = .ref a := by
  unfold x_cr
  by_cases e : j = 0
  · rw [if_pos e]; exact Or.inl rfl
  · rw [if_neg e]; exact Or.inr ⟨_, rfl⟩
theorem x_cv_cat {n0 : Nat} {oa : Nat → Nat → Nat} {h : xH} {v : xV} : (x_cv n0 oa h v).category = x_cat v := by
  match v with
  | .inl n => rfl
  | .inr (.inl n) => rfl
  | .inr (.inr r) =>
    show (x_cr n0 oa h r.1 r.2).category = 1
    rcases x_cr_or n0 oa h r.1 r.2 with e | ⟨a, e⟩ <;> rw [e] <;> rfl
theorem x_cats_eq {n0 : Nat} {oa : Nat → Nat → Nat} {h : xH} : ∀ l : List xV, ((l.map (x_cv n0 oa h)).map fun v => v.category).sum = x_cats l
  | [] => rfl
  | v :: r => by
    rw [List.map_cons, List.map_cons, List.sum_cons, x_cats_eq r, x_cv_cat]
    rfl
theorem x_svb_cat {v : xV} (h : x_svb v = true) : x_cat v = 1 := by
  match v, h with
  | .inl n, _ => rfl
  | .inr (.inr r), _ => rfl
def x_Loc (cv : xV → Value) (fl : Array Slot) (n : Nat) (ls : List xV) : Prop := ls.length = n ∧ lv_has fl n (x_prs cv ls)
theorem x_Loc.at {cv : xV → Value} {fl : Array Slot} {n : Nat} {ls : List xV} (h : x_Loc cv fl n ls) {i : Nat} {v : xV} (hv : ls[i]? = some v) (hs : x_svb v = true) : fl[i]? = some (.val (cv v)) := h.2.2.2 (i, cv v) (x_prs_mem.mpr ⟨v, hv, hs, rfl⟩)
theorem x_Loc.set {n0 : Nat} {oa : Nat → Nat → Nat} {hh : xH} {fl fl' : Array Slot} {n : Nat} {ls : List xV} (h : x_Loc (x_cv n0 oa hh) fl n ls) {a : Nat} {v : xV} (ha : a < ls.length)
    (h' : lv_has fl' n ((a, x_cv n0 oa hh v) :: (x_prs (x_cv n0 oa hh) ls).filter (fun q => !(q.1 == a) && !(q.1 + 1 == a && q.2.category == 2)))) : x_Loc (x_cv n0 oa hh) fl' n (ls.set a v) := by
  refine ⟨by rw [List.length_set]; exact h.1, h'.1, h'.2.1, ?_⟩
  rintro ⟨i, w⟩ hq
  obtain ⟨u, hu, hs, rfl⟩ := x_prs_mem.mp hq
  by_cases e : i = a
  · subst e
    rw [List.getElem?_set_self ha] at hu
    cases hu
    exact h'.2.2 _ List.mem_cons_self
  · rw [List.getElem?_set_ne (fun q => e q.symm)] at hu
    refine h'.2.2 (i, x_cv n0 oa hh u) (List.mem_cons_of_mem _ (List.mem_filter.mpr ⟨x_prs_mem.mpr ⟨u, hu, hs, rfl⟩, ?_⟩))
    have hc : (x_cv n0 oa hh u).category = 1 := by rw [x_cv_cat, x_svb_cat hs]
    simp [e, hc]
theorem x_Loc.le {n0 : Nat} {oa : Nat → Nat → Nat} {h h' : xH} (hl : x_le h h') {fl : Array Slot} {n : Nat} {ls : List xV} (hv : ∀ v ∈ ls, x_lv h v) (L : x_Loc (x_cv n0 oa h) fl n ls) : x_Loc (x_cv n0 oa h') fl n ls := by
  refine ⟨L.1, L.2.1, L.2.2.1, ?_⟩
  rintro ⟨i, w⟩ hq
  obtain ⟨u, hu, hs, rfl⟩ := x_prs_mem.mp hq
  rw [x_cv_le hl (hv u (List.mem_of_getElem? hu))]
  exact L.at hu hs
-- what the tables say of the classes and of the arrays' classes
def x_K (D : (Nat → ClassId) × (Nat → Nat → Nat) × (Nat → ClassId)) (s : State) : Prop :=
  (∀ K, xk_o K → u_Kn s (xk_C K) (xk_T K) (xk_N K) (D.1 K) (D.2.1 K)) ∧ (∀ K, xk_a K → ArrOfT s (D.2.2 K) (xk_ety K) ∧ va_RA s (D.2.2 K) (xk_ety K))
theorem x_K.moved {D : (Nat → ClassId) × (Nat → Nat → Nat) × (Nat → ClassId)} {u U : State} (hvm : u.vm.Alike U.vm) (h : x_K D u) : x_K D U := ⟨fun K hK => u_Kn_moved hvm (h.1 K hK), fun K hK => ⟨arrOfT_moved hvm (h.2 K hK).1, (h.2 K hK).2.moved hvm⟩⟩
/-- the stages by their places -/
def x_sn (j : Nat) : String := match j with
  | 1 => "NO_CALL"
  | 2 => "DIALLING"
  | 3 => "JOB"
  | 4 => "SENDING"
  | 5 => "RINGING"
  | _ => "TALKING"
/-- the exceptions by their numbers -/
def x_en (E : Nat) : String := if E = 1 then "java/lang/IllegalArgumentException" else "java/lang/IllegalStateException"
def x_chain : List String := ["java/lang/RuntimeException", "java/lang/Exception"]
/-- words that are not good ones: what a throw needs -/
def x_nw : List Cond := [.declares (Bundle.init0 "java/lang/RuntimeException"), .declares (Bundle.init0 "java/lang/Exception"), .declares (Bundle.init0 Bundle.tN)]
/-- arrays of int[] can be made -/
def x_AOA (U : State) : Prop := (Cond.arrayOver (.array .int)).before #[] U = true
theorem x_AOA.moved {u U : State} (hvm : u.vm.Alike U.vm) (h : x_AOA u) : x_AOA U := by
  obtain ⟨comp, c, k, h1, h2, h3, h4, h5⟩ := arrayOverA_spec h
  obtain ⟨k', hk', he⟩ := hvm.2.2 _ _ h3
  have e0 := va_idx_bare U.vm comp
  have e2 : U.vm.bare = u.vm.bare := by first | exact hvm.bare_eq | exact hvm.bare_eq.symm
  rw [e2] at e0
  have hi := e0.symm.trans ((va_idx_bare u.vm comp).trans h2)
  have hkind : k'.kind = .array comp (.array .int) := by rw [he]; exact h4
  have f1 : U.vm.findClass (FieldType.array .int).toString = some comp := by rw [hvm.findClass]; exact h1
  have f2 : U.vm.findClass ("[" ++ (FieldType.array .int).toString) = some c := by rw [hvm.findClass]; exact h5
  unfold x_AOA Cond.before Cond.holds
  simp only [Cond.value]
  rw [f1, Option.bind_some]
  refine (congrArg (fun o : Option Nat => (o.bind (fun c => (U.vm.classes[c]?).map fun (k : Class) => match k.kind with | .array _ ty => decide (ty = FieldType.array .int) && decide (U.vm.findClass ("[" ++ (FieldType.array .int).toString) = some c) | _ => false) == some true)) hi).trans ?_
  simp [hk', hkind, f2]
def x_aol : List String := [RX0, RX1, RX2, RX3, RX4, RX6]
/-- the calls of nest mates -/
def x_nl : List (String × Nat × MethodName × String) := [(RX2, 66, yX7_beginsWith, RX7), (RX2, 85, yX7_isLine, RX7), (RX3, 36, yX7_countDigits, RX7)]
def x_St (n0 : Nat) (oa : Nat → Nat → Nat) (L : Nat) (xs : Nat → Int32) (U : State) (H : Heap) : Prop :=
  (∀ j, 1 ≤ j → j ≤ 6 → va_Z "CrossbarNet$Stage" (x_sn j) "LCrossbarNet$Stage;" (.ref (oa 9 j)) (fun q => n0 ≤ q) U H) ∧
  (∀ i j, 1 ≤ i → i ≤ 6 → 1 ≤ j → j ≤ 6 → oa 9 i = oa 9 j → i = j) ∧
  vx_Zq Bundle.tN "UNASSIGNED_STACK" Bundle.steD (fun q => n0 ≤ q) U H ∧ vx_Zq Bundle.tN "SUPPRESSED_SENTINEL" Bundle.listD (fun q => n0 ≤ q) U H ∧
  va_X (oa 10 1) L xs U H ∧ oa 10 1 < n0 ∧ (∀ w ∈ x_nw, va_Nw w U) ∧ (∀ E, va_Nw (.castable (x_en E) (x_en E)) U) ∧ (∀ q ∈ x_nl, va_Nw (.methodLinkNest q.1 q.2.1 q.2.2.1 q.2.2.2) U) ∧ (∀ C ∈ x_aol, va_AO C U) ∧ x_AOA U
theorem x_St.moved {n0 : Nat} {oa : Nat → Nat → Nat} {L : Nat} {xs : Nat → Int32} {u U : State} {H : Heap} (hW : u.WarmedH U.vm) (h : x_St n0 oa L xs u H) : x_St n0 oa L xs U H := by
  obtain ⟨a1, a2, a3, a4, a5, a6, a7, a8, a9, a10, a11⟩ := h
  refine ⟨fun j h1 h2 => va_Z.moved hW.alike (a1 j h1 h2), a2, vx_Zq.moved hW.alike a3, vx_Zq.moved hW.alike a4, va_X.moved hW.alike a5, a6, fun w hw => ?_, fun E => va_Nw.warmC hW (a8 E), fun q hq => va_Nw.warmM hW (a9 q hq), fun C hC => va_AO.moved hW.alike (a10 C hC), x_AOA.moved hW.alike a11⟩
  have h9 := a7 w hw
  simp only [x_nw, List.mem_cons, List.not_mem_nil, or_false] at hw
  rcases hw with rfl | rfl | rfl <;> exact va_Nw.warmD hW h9
theorem x_St.kept {n0 : Nat} {oa : Nat → Nat → Nat} {L : Nat} {xs : Nat → Int32} {U : State} {H H1 : Heap} (h : x_St n0 oa L xs U H) (hn : n0 ≤ H.size) (hq : ∀ a : Nat, a < H.size → ¬ n0 ≤ a → H1[a]? = H[a]?) : x_St n0 oa L xs U H1 := by
  obtain ⟨a1, a2, a3, a4, a5, a6, a7, a8, a9, a10, a11⟩ := h
  exact ⟨fun j h1 h2 => va_Z.kept (a1 j h1 h2) hq, a2, vx_Zq.kept a3 hq, vx_Zq.kept a4 hq, va_X.kept a5 (hq _ (by omega) (by omega)), a6, a7, a8, a9, a10, a11⟩
section XC
variable (n0 : Nat) (oa : Nat → Nat → Nat) (D : (Nat → ClassId) × (Nat → Nat → Nat) × (Nat → ClassId))
def x_Pc (args : List xV) (h : xH) : Array Value → State → Prop := fun a U => a = (args.map (x_cv n0 oa h)).toArray ∧ x_Rep n0 oa D h U.heap ∧ x_K D U ∧ x_St n0 oa (x_ln h 10 1) (x_vi h 10 1) U U.heap ∧ n0 ≤ U.heap.size
def x_Qc (h : xH) (Z : xO → xH → Prop) : Array Value → State → Outcome → State → Prop := fun _ st o t => ∃ (v : Option xV) (h1 : xH), Z (.inl v) h1 ∧ o = .returned (v.map (x_cv n0 oa h1)) ∧ x_Rep n0 oa D h1 t.heap ∧ x_le h h1 ∧ (∀ w ∈ v, x_lv h1 w) ∧ va_F (fun q => n0 ≤ q) st t
def x_XC (h : xH) (Z : xO → xH → Prop) : String → State → State → Prop := fun E st t => ∃ (k : Nat) (h1 : xH), Z (.inr k) h1 ∧ E = x_en k ∧ x_Rep n0 oa D h1 t.heap ∧ x_le h h1 ∧ va_F (fun q => n0 ≤ q) st t
/-- the contract of a method at these arguments and this heap -/
def x_Con (M : xM) (args : List xV) (h : xH) (Z : xO → xH → Prop) : Prop := ∀ l : Launch, l.stackTraces = false → (∀ v ∈ args, x_lv h v) →
  vx_Met l M.y (x_ws M) (x_rm M) (x_Pc n0 oa D args h) (x_Qc n0 oa D h Z) (x_XC n0 oa D h Z) M.mc M.ms (fun q => n0 ≤ q)
/-- what holds throughout a method's body -/
def x_Cx (M : xM) (h0 : xH) (p : Program) (l : Launch) (R : Room) (s : State) (m : MethodId) (args : Array Value) (meth : Method) (c : Code) : Prop :=
  p.tables.exec = Jvm.exec ∧ c.code = M.cd ∧ c.maxLocals = M.mL ∧ s.vm.findClass M.own = some m.cls ∧ (∀ w ∈ x_big, w.before args s = true) ∧ meth.sig.returnType = M.rt ∧ meth.locks = false ∧
  (M.ini = true → meth.name = "<init>") ∧ c.exceptionTable.toList = [] ∧ x_K D s ∧ x_St n0 oa (x_ln h0 10 1) (x_vi h0 10 1) s s.heap ∧ n0 ≤ s.heap.size ∧ R = x_rm M ∧ l.stackTraces = false
variable (p : Program) (l : Launch) (e : Env) (R : Room) (s : State) (m : MethodId) (args : Array Value) (below : List Frame) (meth : Method) (c : Code)
/-- from this place with these locals, stack and heap the machine comes to Q -/
def x_At (M : xM) (h0 : xH) (Q : State → Prop) (pc : Nat) (S : xS) : Prop :=
  ∀ (H : Heap) (locs : List Loc) (fl : Array Slot), x_Rep n0 oa D S.2.2 H → x_le h0 S.2.2 → x_Loc (x_cv n0 oa S.2.2) fl M.mL S.1 → (∀ v ∈ S.1, x_lv S.2.2 v) → (∀ v ∈ S.2.1, x_lv S.2.2 v) →
    va_S (fun q => n0 ≤ q) s.heap H locs → x_ce S.2.2 ≤ M.mc → x_so S.2.2 ≤ M.ms → W p l e R s m args below meth c H locs (x_ce S.2.2) (x_so S.2.2) Q (F0 m pc fl (S.2.1.map (x_cv n0 oa S.2.2)))
/-- what a body owes at its end -/
def x_MQ (M : xM) (h0 : xH) (Z : xO → xH → Prop) : State → Prop := vx_MQ below (x_Qc n0 oa D h0 Z) (x_XC n0 oa D h0 Z) args s M.mc M.ms (fun q => n0 ≤ q)
end XC
/-- a sound instruction: at pc, the next one at nx -/
def x_Snd (xm : Nat → xM) (M : xM) (pc nx : Nat) (f : xI) : Prop :=
  ∀ (n0 : Nat) (oa : Nat → Nat → Nat) (D : (Nat → ClassId) × (Nat → Nat → Nat) × (Nat → ClassId)) (p : Program) (l : Launch) (e : Env) (R : Room) (s : State) (m : MethodId) (args : Array Value) (below : List Frame) (meth : Method) (c : Code) (Γ : xG) (Z : xO → xH → Prop) (J : Nat → xS → Prop) (q : xS → Prop) (h0 : xH) (S : xS),
    x_Cx n0 oa D M h0 p l R s m args meth c → (∀ μ a h Z', Γ μ a h Z' → x_Con n0 oa D (xm μ) a h Z') → f Γ Z J q S →
    (∀ S', q S' → x_At n0 oa D p l e R s m args below meth c M h0 (x_MQ n0 oa D s args below M h0 Z) nx S') → (∀ pc' S', J pc' S' → x_At n0 oa D p l e R s m args below meth c M h0 (x_MQ n0 oa D s args below M h0 Z) pc' S') →
    x_At n0 oa D p l e R s m args below meth c M h0 (x_MQ n0 oa D s args below M h0 Z) pc S
