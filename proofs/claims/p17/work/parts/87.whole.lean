/-! THE CLAIM OUT OF ONE WALK OF THE LAW'S BODY. Your part is whole_start (and what it stands on); all else here is the same for every law, but numbers. -/
def R_law : String := "CrossbarNetLaw"
def lw_P (b : Addr) (xs : List Int32) (args : Array Value) (s : State) : Prop := args = #[.ref b] ∧ s.IntsAt b xs ∧ xs.length ≤ 3072 ∧ (Jvm.Cond.and given_1 narrow_1).before args s = true
def lw_Q (_ : Array Value) (s : State) (o : Outcome) (t : State) : Prop := o = .returned (some (.int 1)) ∧ Framed s o t [] 601024 7293033
def lw_Z (below : List Frame) (a : Array Value) (s : State) : State → Prop := fun t => ∃ o, t.status = .running ∧ Ended t below o ∧ lw_Q a s o t
/-- the law's own end, with 1 on the stack, nothing written that was there before, its room as the claim has it -/
theorem lw_ret {p : Program} {l : Launch} {e : Env} {s : State} {m : MethodId} {below : List Frame} {meth : Method} {c : Code} {b : Nat} (hx : p.tables.exec = Jvm.exec) (hb : c.code = code) (hr : meth.sig.returnType = ret) (hlocks : meth.locks = false) {pc : Nat} {H : Heap} {ls : Array Slot} (hdg : decode code pc = .ok (.ireturn, 1)) : W p l e room_1 s m #[Value.ref b] below meth c H [] 601024 7293033 (lw_Z below #[Value.ref b] s) (F0 m pc ls [.int 1]) := by
  intro T hT X
  obtain ⟨fs, hret, hrun, hended, hW, hframe⟩ := X.leave (v := some (.int 1)) (hlocks := hlocks) (fun h => by rw [hr] at h; cases h)
  have hmeth' : T.vm.method? m = some meth := X.method'
  refine ⟨T.setFrames fs, ?_, .returned (some (.int 1)), hrun, hended, rfl, ⟨_, rfl⟩, hW, hframe⟩
  jvm_step X.here [X.here.top, hx, hb, hdg, hmeth', hr, ret, narrow_b1]
  (try refine ⟨rfl, ?_⟩); (try refine ⟨rfl, ?_⟩)
  first | (intro acts; rw [hret _ acts rfl rfl rfl]) | rw [hret _ _ rfl rfl rfl]
  exact Steps.refl _
/-- what holds at the law's entry: the machine, the code, the tables' words (any of lw_tbl by 'hts w (by decide +kernel)'), the script of L ints xs at the cell b, what the Statement gives of the start (any of its parts by flat_of_before) -/
def lw_At (p : Program) (s : State) (m : MethodId) (meth : Method) (c : Code) (b L : Nat) (xs : Nat → Int32) : Prop :=
  p.tables.exec = Jvm.exec ∧ c.code = code ∧ meth.sig.returnType = ret ∧ c.maxLocals = 7 ∧ s.vm.findClass R_law = some m.cls ∧ (∀ w ∈ lw_tbl, w.before #[Value.ref b] s = true) ∧ va_X b L xs s s.heap ∧ b < s.heap.size ∧ meth.locks = false ∧ (Jvm.Cond.and given_1 narrow_1).before #[Value.ref b] s = true ∧ c.exceptionTable.toList = []
/-- from every heap of old cells -/
theorem same_forget {s s' : State} {L : List Loc} {k n : Nat} (h : s.sameButNew s' L k n) (hf : ∀ q ∈ L, s.heap.size ≤ q.base) : s.sameButNew s' [] k n := by
  obtain ⟨h1, h2, h3, h4, h5, h6⟩ := h
  refine ⟨h1, h2, h3, h4, h5, fun a c hc => ?_⟩
  obtain ⟨c', e1, e2, e3, e4⟩ := h6 a c hc
  refine ⟨c', e1, e2, e3, fun i _ => e4 i (fun hm => ?_)⟩
  have q1 : s.heap.size ≤ a := hf _ hm
  exact Nat.lt_irrefl _ (Nat.lt_of_lt_of_le (Array.getElem?_eq_some_iff.mp hc).1 q1)
theorem x_ne_of {args : Array Value} {s : State} {A B : Term} {a b : Nat} (h : (Cond.not (.eq A B)).before args s = true) (hA : A.eval args s none [] s = some (.ref a)) (hB : B.eval args s none [] s = some (.ref b)) : a ≠ b := by
  intro e9
  subst e9
  simp [Cond.before, Cond.holds, Cond.value, hA, hB] at h
theorem x_tm (i : Nat) {w : Cond} (h : lw_tbl[i]? = some w) : w ∈ lw_tbl := List.mem_of_getElem? h
theorem x_etys : ∀ K, K < 65 → 11 ≤ K → (xk_ety K = .int ∨ xk_ety K = .boolean ∨ xk_ety K = .long ∨ xk_ety K = .array .int ∨ ∃ C ∈ x_aol, xk_ety K = .object C) := by decide +kernel
def stD : String := "LCrossbarNet$Stage;"
section XWS
variable {args : Array Value} {s : State}
theorem ws_aol (hts : ∀ w ∈ lw_tbl, w.before args s = true) : ∀ C ∈ x_aol, (Cond.arrayOver (.object C)).before args s = true := by
  intro C hC
  simp only [x_aol, List.mem_cons, List.not_mem_nil, or_false] at hC
  rcases hC with rfl | rfl | rfl | rfl | rfl | rfl
  · exact hts _ (x_tm 81 (by decide +kernel))
  · exact hts _ (x_tm 92 (by decide +kernel))
  · exact hts _ (x_tm 79 (by decide +kernel))
  · exact hts _ (x_tm 95 (by decide +kernel))
  · exact hts _ (x_tm 97 (by decide +kernel))
  · exact hts _ (x_tm 83 (by decide +kernel))
theorem ws_arr (hts : ∀ w ∈ lw_tbl, w.before args s = true) (K : Nat) : ∃ cA : ClassId, xk_a K → ArrOfT s cA (xk_ety K) ∧ va_RA s cA (xk_ety K) := by
  by_cases hK : xk_a K
  · have pr : ∀ ty : FieldType, (ty = .int ∨ ty = .boolean ∨ ty = .long) → (Cond.arrayClass ty).before args s = true → ∃ cA : ClassId, ArrOfT s cA ty ∧ va_RA s cA ty := by
      intro ty hty h
      obtain ⟨cA, k, comp, h1, h2, h3⟩ := Cond.arrayClass_spec h
      refine ⟨cA, fun n z => ⟨fun k h => (by cases h), k, h2, comp, h3⟩, ?_⟩
      rcases hty with rfl | rfl | rfl <;> exact h1
    rcases x_etys K (by have := hK.2; omega) hK.1 with e9 | e9 | e9 | e9 | ⟨C, hC, e9⟩
    · rw [e9]
      obtain ⟨cA, q⟩ := pr .int (Or.inl rfl) (hts _ (x_tm 110 (by decide +kernel)))
      exact ⟨cA, fun _ => q⟩
    · rw [e9]
      obtain ⟨cA, q⟩ := pr .boolean (Or.inr (Or.inl rfl)) (hts _ (x_tm 930 (by decide +kernel)))
      exact ⟨cA, fun _ => q⟩
    · rw [e9]
      obtain ⟨cA, q⟩ := pr .long (Or.inr (Or.inr rfl)) (hts _ (x_tm 1122 (by decide +kernel)))
      exact ⟨cA, fun _ => q⟩
    · rw [e9]
      obtain ⟨comp, cA, k, h1, hi, h2, h3, h5⟩ := arrayOverA_spec (hts _ (x_tm 85 (w := .arrayOver (.array .int)) (by decide +kernel)))
      exact ⟨cA, fun _ => ⟨fun n z => ⟨fun k h => (by cases h), k, h2, comp, h3⟩, h5⟩⟩
    · rw [e9]
      obtain ⟨comp, cA, k, h1, hi, h2, h3, h5⟩ := Cond.arrayOver_spec (ws_aol hts C hC)
      exact ⟨cA, fun _ => ⟨fun n z => ⟨fun k h => (by cases h), k, h2, comp, h3⟩, k, comp, h2, h3, h1, h5⟩⟩
  · exact ⟨0, fun h => absurd h hK⟩
theorem ws_cls (hts : ∀ w ∈ lw_tbl, w.before args s = true) (K : Nat) : ∃ y : ClassId × (Nat → Nat), xk_o K → u_Kn s (xk_C K) (xk_T K) (xk_N K) y.1 y.2 := by
  have htb : ∀ w ∈ x_big, w.before args s = true := fun w hw => hts w (List.mem_filter.mp hw).1
  by_cases hK : xk_o K
  · have hi : (Cond.instantiable (xk_C K) (xk_N K)).before args s = true := by
      refine xk_cases (P := fun K => (Cond.instantiable (xk_C K) (xk_N K)).before args s = true) ?_ ?_ ?_ ?_ ?_ ?_ ?_ ?_ K hK
      · exact hts _ (x_tm 177 (by decide +kernel))
      · exact hts _ (x_tm 111 (by decide +kernel))
      · exact hts _ (x_tm 86 (by decide +kernel))
      · exact hts _ (x_tm 405 (by decide +kernel))
      · exact hts _ (x_tm 98 (by decide +kernel))
      · exact hts _ (x_tm 355 (by decide +kernel))
      · exact hts _ (x_tm 71 (by decide +kernel))
      · exact hts _ (x_tm 777 (by decide +kernel))
    obtain ⟨cC, iS, q⟩ := u_known htb (xk_in K hK) hi
    exact ⟨(cC, iS), fun _ => q⟩
  · exact ⟨(0, fun _ => 0), fun h => absurd h hK⟩
theorem ws_ex (hg : (Jvm.Cond.and given_1 narrow_1).before args s = true) (j : Nat) : ∃ a : Nat, 1 ≤ j ∧ j ≤ 6 → (Term.static "CrossbarNet$Stage" (x_sn j) stD).eval args s none [] s = some (.ref a) := by
  have hs := flat_of_before _ hg
  by_cases hj : 1 ≤ j ∧ j ≤ 6
  · have hx : (Cond.exactly (.static "CrossbarNet$Stage" (x_sn j) stD) "CrossbarNet$Stage").before args s = true := by
      rcases (show j = 1 ∨ j = 2 ∨ j = 3 ∨ j = 4 ∨ j = 5 ∨ j = 6 by omega) with rfl | rfl | rfl | rfl | rfl | rfl <;> exact hs _ (by decide +kernel)
    obtain ⟨a, c, cell, k, h1, -⟩ := Cond.exactly_spec hx
    exact ⟨a, fun _ => h1⟩
  · exact ⟨0, fun h => absurd h hj⟩
theorem ws_dis {sa : Nat → Nat} (hg : (Jvm.Cond.and given_1 narrow_1).before args s = true) (hv : ∀ j, 1 ≤ j ∧ j ≤ 6 → (Term.static "CrossbarNet$Stage" (x_sn j) stD).eval args s none [] s = some (.ref (sa j))) : ∀ i j, 1 ≤ i → i ≤ 6 → 1 ≤ j → j ≤ 6 → sa i = sa j → i = j := by
  have hs := flat_of_before _ hg
  intro i j i1 i2 j1 j2 e9
  have vi := hv i ⟨i1, i2⟩
  have vj := hv j ⟨j1, j2⟩
  rcases (show i = 1 ∨ i = 2 ∨ i = 3 ∨ i = 4 ∨ i = 5 ∨ i = 6 by omega) with rfl | rfl | rfl | rfl | rfl | rfl <;> rcases (show j = 1 ∨ j = 2 ∨ j = 3 ∨ j = 4 ∨ j = 5 ∨ j = 6 by omega) with rfl | rfl | rfl | rfl | rfl | rfl <;> first | rfl | exact absurd e9 (x_ne_of (hs _ (by decide +kernel)) vi vj) | exact absurd e9.symm (x_ne_of (hs _ (by decide +kernel)) vj vi)
end XWS
/-- the law's first heap: six stages and the script from outside, else nothing -/
def x_h0 (L : Nat) (xs : Nat → Int32) : xH := (fun K => if K = 9 then 6 else if K = 10 then 1 else 0, fun K j => if K = 10 ∧ j = 1 then L else 0, fun K j i => if K = 10 ∧ j = 1 then xs i else 0, fun _ _ _ => 0, fun _ _ => 0, 0, 0, 0, 0)
theorem whole_start {p : Program} {e : Env} {s : State} {m : MethodId} {below : List Frame} {meth : Method} {c : Code} (l : Launch) (hl : l.stackTraces = false) {b L : Nat} {xs : Nat → Int32} (hL : L ≤ 3072) (C0 : lw_At p s m meth c b L xs) : W p l e room_1 s m #[Value.ref b] below meth c s.heap [] 0 0 (lw_Z below #[Value.ref b] s) (entryFrame m ([Value.ref b] : List Value).toArray 7) := by
  obtain ⟨hx, hb, hr, hml, hown, hts, hX, hbl, hlocks, hgv, htab⟩ := C0
  have hA : ∀ a : Nat, a < s.heap.size → ¬ s.heap.size ≤ a := fun a h => by omega
  obtain ⟨f, hf⟩ := Classical.axiomOfChoice (ws_cls hts)
  obtain ⟨g, hg⟩ := Classical.axiomOfChoice (ws_arr hts)
  obtain ⟨sa, hsa⟩ := Classical.axiomOfChoice (ws_ex hgv)
  have hs := flat_of_before _ hgv
  have hK : x_K (fun K => (f K).1, fun K => (f K).2, g) s := ⟨fun K hK => hf K hK, fun K hK => hg K hK⟩
  have hini : (Cond.initialized "CrossbarNet$Stage").before #[Value.ref b] s = true := hts _ (by decide +kernel)
  have hiT : (Cond.initialized Bundle.tN).before #[Value.ref b] s = true := hts _ (by decide +kernel)
  have hSt : x_St s.heap.size (fun t j => if t = 10 then b else sa j) (x_ln (x_h0 L xs) 10 1) (x_vi (x_h0 L xs) 10 1) s s.heap := by
    refine ⟨fun j j1 j2 => ?_, fun i j i1 i2 j1 j2 e9 => ws_dis hgv hsa i j i1 i2 j1 j2 e9, ?_, ?_, hX, hbl, fun w hw => ?_, fun E => ?_, fun q hq => ?_, fun C hC => va_AO.of (ws_aol hts C hC), (show (Cond.arrayOver (.array .int)).before #[Value.ref b] s = true from hts _ (x_tm 85 (by decide +kernel)))⟩
    · have hlay : (Cond.laysStatic "CrossbarNet$Stage" (x_sn j) stD).before #[Value.ref b] s = true := by
        rcases (show j = 1 ∨ j = 2 ∨ j = 3 ∨ j = 4 ∨ j = 5 ∨ j = 6 by omega) with rfl | rfl | rfl | rfl | rfl | rfl
        · exact hts _ (x_tm 185 (by decide +kernel))
        · exact hts _ (x_tm 505 (by decide +kernel))
        · exact hts _ (x_tm 588 (by decide +kernel))
        · exact hts _ (x_tm 672 (by decide +kernel))
        · exact hts _ (x_tm 523 (by decide +kernel))
        · exact hts _ (x_tm 525 (by decide +kernel))
      exact va_Zof hlay hini (hsa j ⟨j1, j2⟩) hA
    · exact vx_Zqof (hts _ (x_tm 302 (by decide +kernel))) hiT (hs _ (by decide +kernel)) hA
    · exact vx_Zqof (hts _ (x_tm 304 (by decide +kernel))) hiT (hs _ (by decide +kernel)) hA
    · simp only [x_nw, List.mem_cons, List.not_mem_nil, or_false] at hw
      rcases hw with rfl | rfl | rfl
      · exact va_Nw.of rfl (hts _ (x_tm 278 (by decide +kernel)))
      · exact va_Nw.of rfl (hts _ (x_tm 280 (by decide +kernel)))
      · exact va_Nw.of rfl (hts _ (x_tm 282 (by decide +kernel)))
    · unfold x_en
      by_cases e9 : E = 1
      · rw [if_pos e9]; exact va_Nw.of rfl (hts _ (x_tm 277 (by decide +kernel)))
      · rw [if_neg e9]; exact va_Nw.of rfl (hts _ (x_tm 342 (by decide +kernel)))
    · simp only [x_nl, List.mem_cons, List.not_mem_nil, or_false] at hq
      rcases hq with rfl | rfl | rfl
      · exact va_Nw.of rfl (hts _ (x_tm 397 (by decide +kernel)))
      · exact va_Nw.of rfl (hts _ (x_tm 619 (by decide +kernel)))
      · exact va_Nw.of rfl (hts _ (x_tm 580 (by decide +kernel)))
  have hnc : va_Nc (x_en 2) (x_en 1) s := va_Nc.of (hs _ (by decide +kernel))
  have C : x_Cx s.heap.size (fun t j => if t = 10 then b else sa j) (fun K => (f K).1, fun K => (f K).2, g) xm_law (x_h0 L xs) p l room_1 s m #[Value.ref b] meth c :=
    ⟨hx, hb, hml, hown, fun w hw => hts w (List.mem_filter.mp hw).1, hr, hlocks, (fun h => by cases h), htab, hK, hSt, Nat.le_refl _, rfl, hl⟩
  have hRep : x_Rep s.heap.size (fun t j => if t = 10 then b else sa j) (fun K => (f K).1, fun K => (f K).2, g) (x_h0 L xs) s.heap := by
    have no : ∀ K j, (xk_o K ∨ xk_a K) → ¬ x_live (x_h0 L xs) K j := by
      intro K j hK hj
      have a1 := hj.1
      have a2 : j ≤ (if K = 9 then 6 else if K = 10 then 1 else 0) := hj.2
      rw [if_neg (by rcases hK with q | q <;> (have := q.1; have := q.2; omega)), if_neg (by rcases hK with q | q <;> (have := q.1; have := q.2; omega))] at a2
      omega
    exact ⟨rfl, fun K j hK hj => absurd hj (no K j (Or.inl hK)), fun K j hK hj => absurd hj (no K j (Or.inr hK)), fun K j K' j' hK _ hj => absurd hj (no K j hK), fun K j k hK hj => absurd hj (no K j (Or.inl hK)), fun K j i hK hj => absurd hj (no K j (Or.inr hK)), rfl⟩
  have at0 := law_start (e := e) (below := below) (Ls := (L, xs)) C hnc hL rfl rfl (fun K => rfl) rfl
  obtain ⟨fl, e1, hLoc⟩ := x_entry (n0 := s.heap.size) (oa := fun t j => if t = 10 then b else sa j) (h := x_h0 L xs) (n := 7) (a := [.inr (.inr (10, 1))]) rfl m
  have e0 : entryFrame m ([Value.ref b] : List Value).toArray 7 = F0 m 0 fl [] := e1
  rw [e0]
  have hW := at0 s.heap [] fl hRep x_le.rf hLoc (fun v hv => ?_) (fun v hv => by cases hv) va_S.rf (Nat.zero_le _) (Nat.zero_le _)
  · intro T hT X
    obtain ⟨t, a1, o, b1, b2, b3⟩ := hW T hT X
    refine ⟨t, a1, o, b1, b2, ?_⟩
    rcases b3 with ⟨⟨v, h1, hz, ho, -⟩, Lc, hfe, hfr⟩ | ⟨q, -, E, ce, Lc, ⟨k, h1, hz, -⟩, -⟩
    · have hv : v = some (.inl 1) := Sum.inl.inj hz
      subst hv
      obtain ⟨f1, f2, f3⟩ := hfe
      exact ⟨ho, f1, f2, same_forget f3 hfr⟩
    · cases hz
  · simp only [List.mem_cons, List.not_mem_nil, or_false] at hv
    rcases hv with rfl | rfl | rfl | rfl | rfl | rfl | rfl
    · show 1 ≤ x_cn (x_h0 L xs) 10
      exact Nat.le_refl 1
    all_goals exact Nat.zero_le _
set_option maxHeartbeats 4000000 in
theorem lw_walk (l : Launch) (hl : l.stackTraces = false) (b : Addr) (xs : List Int32) : MetFree l x (headSpec (Jvm.Cond.code x code maxLocals ret :: tables_1) room_1) (lw_P b xs) (fun _ _ _ _ _ => True) lw_Q := by
  refine MetFree.of_bodyS (code := code) (maxLocals := maxLocals) (ret := ret) (by decide) ?_ ?_
  · intro args s m h hn
    obtain ⟨meth, c, h1, h2, h3, h4, h5, h6, -, -⟩ := Cond.code_spec hn (atoms_spec (ws := Jvm.Cond.code x code maxLocals ret :: tables_1) h _ List.mem_cons_self)
    exact ⟨meth, c, h1, h2, h3, h4, h5, h6⟩
  · intro p e s m args below meth c s₁ B hml0 hP _
    obtain ⟨rfl, hx, hbd, hgv⟩ := hP
    obtain ⟨scr, harrAt, hlist, hof, hsmall⟩ := hx
    obtain ⟨hcb, hkn, -, -⟩ := State.arrayAt?_spec harrAt
    have hown : s.vm.findClass R_law = some m.cls := findClass_of_methodNamed B.named
    have hts0 : ∀ c ∈ (Jvm.Cond.code x code maxLocals ret :: tables_1), c.before #[Value.ref b] s = true := atoms_spec (ws := Jvm.Cond.code x code maxLocals ret :: tables_1) B.pre
    have hts : ∀ w ∈ lw_tbl, w.before #[Value.ref b] s = true := k2_hts_sels lw_privs (fun w hw => hts0 w (List.mem_cons_of_mem _ hw)) lw_privs_ok
    have hml : c.maxLocals = 7 := B.maxLocals_eq (hts0 _ List.mem_cons_self)
    have htab : c.exceptionTable.toList = [] := by
      obtain ⟨meth9, c9, h1, h2, -, -, -, -, h7, -⟩ := Cond.code_spec B.named (hts0 _ List.mem_cons_self)
      cases Option.some.inj (h1.symm.trans B.method)
      cases Option.some.inj (h2.symm.trans (Stand.of_body B).code)
      rw [Array.isEmpty_iff.mp h7]
    have X₀ : Stand p l e room_1 s m #[Value.ref b] below meth c s₁ [] 0 0 := Stand.of_body B
    have hh0 : s₁.heap = s.heap := by rw [B.state]; rfl
    have hsz : scr.slots.size = xs.length := by rw [← Array.length_toList, hlist, List.length_map]
    have hval : ∀ j : Nat, j < xs.length → scr.slots[j]? = some (.int (xs.getD j 0)) := fun j hj => by
      rw [← Array.getElem?_toList, hlist]
      simp [hj]
    have hbl : b < s.heap.size := (Array.getElem?_eq_some_iff.mp hcb).1
    have hX : va_X b xs.length (fun j => xs.getD j 0) s s.heap := ⟨scr, hcb, hof, hkn, hsz, hval⟩
    have K : W p l e room_1 s m #[Value.ref b] below meth c s₁.heap [] 0 0 (lw_Z below #[Value.ref b] s) (entryFrame m ([Value.ref b] : List Value).toArray 7) := by
      rw [hh0]
      exact whole_start l hl hbd ⟨B.exec, B.bytes, B.returns, hml, hown, hts, hX, hbl, B.notSynchronized, hgv, htab⟩
    obtain ⟨t, a1, o, b1, b2, b3⟩ := K s₁ rfl X₀
    exact ⟨t, o, a1, b1, b2, b3⟩
theorem lw_pre_spec {args : Array Value} {s : State} (h : (Jvm.Cond.and given_1 narrow_1).before args s = true) (hr : rest_1_c.before args s = true) : ∃ (b : Addr) (xs : List Int32), lw_P b xs args s := by
  have hs := flat_of_before _ h
  have hq := flat_of_before _ hr
  have hc : (Cond.count 1).before args s = true := hs _ (by decide +kernel)
  have harr : (Cond.arrayOf (.arg 0) .int).before args s = true := hs _ (by decide +kernel)
  have hle : (Cond.le (.length (.arg 0)) (.int 3072)).before args s = true := hs _ (by decide +kernel)
  have hlen : (Cond.isInt (.length (.arg 0))).before args s = true := hq _ (by decide +kernel)
  have hall : (Cond.all (.arg 0) (.isInt (.elem (.arg 0) (.index 0)))).before args s = true := hq _ (by decide +kernel)
  obtain ⟨b, xs, hb, hx⟩ := State.ints_of_pre rfl harr hlen hall
  have hsm : xs.length < 2 ^ 31 := hx.choose_spec.2.2.2
  have hev : (Term.length (.arg 0)).eval args s none [] s = some (.int xs.length.toInt32) := hx.length_eval hb
  have hv := Cond.le_ints hev (show (Term.int 3072).eval args s none [] s = some (.int 3072) from rfl)
  have hd : xs.length.toInt32 ≤ 3072 := by
    simpa [Cond.before, Cond.holds, hv] using hle
  have hN : xs.length ≤ 3072 := (Int32.ofNat_le_ofNat hsm (by decide)).mp (show Int32.ofNat xs.length ≤ Int32.ofNat 3072 from hd)
  exact ⟨b, xs, Cond.one_arg hc (show args[0]? = some (.ref b) from hb), hx, hN, h⟩
theorem lw_comes (l : Launch) (hl : l.stackTraces = false) : Comes l x (Jvm.Cond.code x code maxLocals ret :: tables_1) room_1 (fun tb e args s => Calls_1 tb e args s ∧ rest_1 tb e args s ∧ Pre_1 tb e args s)
    (fun _ _ args s o t => lw_Q args s o t) := by
  intro p e ha hc hk s m args below hf hfit hheap happ hpre
  obtain ⟨b, xs, hP⟩ := lw_pre_spec hpre.2.2 hpre.2.1
  obtain ⟨k, o, h1, h2, h3, hQ⟩ := lw_walk l hl b xs p e ha hc hk s m args below hf ((Spec.applies_iff_loose hf).mp happ).1 hP trivial
  exact ⟨k, o, h1, h2, h3, hQ⟩
theorem lw_frame {s t : State} {o : Outcome} {args : Array Value} (h : Framed s o t [] 601024 7293033) :
    Framed s o t (fieldLocs frame_1_writes args s ++ arrayLocs frame_1_arrays args s ++ staticLocs frame_1_statics s) 601024 7293033 := h
theorem lw_limb (L : Cond) (hL : ∀ (args : Array Value) (s t : State), L.after args s (.returned (some (.int 1))) t = true) :
    ArmFor flags0 classFile x code maxLocals ret World_1 tables_1 room_1 Calls_1 rest_1 Pre_1
      (fun tb e a s o t => postC L tb e a s o t ∧ Framed s o t (fieldLocs frame_1_writes a s ++ arrayLocs frame_1_arrays a s ++ staticLocs frame_1_statics s) 601024 7293033) := by
  intro l hfl _ _ p e ha hc hk s m args below hf hfit hheap happ hpre
  obtain ⟨k, o, h1, h2, h3, rfl, hF⟩ := lw_comes l (by unfold Launch.stackTraces; rw [hfl]; decide) p e ha hc hk s m args below hf hfit hheap happ hpre
  exact ⟨k, _, h1, h2, h3, hL args s _, lw_frame hF⟩
theorem i_vc : Claimed_1_1 ∧ Claimed_1_2 := ⟨lw_limb limb_1_1 (fun args s t => by simp [limb_1_1, Cond.after, Cond.holds, Cond.value]), lw_limb limb_1_2 (fun args s t => Cond.after_iff.mpr (by
  first | (rw [show limb_1_2 = Cond.eq .result (.int 1) from rfl, Cond.eq_ints (x := 1) (y := 1) rfl rfl]; simp; done) | (simp [limb_1_2, Cond.value, Term.eval]; done)))⟩
