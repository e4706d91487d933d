/-! SOUND INSTRUCTIONS: throws and calls -/
theorem x_goodIn {l : List Cond} (h : ∀ w ∈ l, w ∈ x_big) : GoodIn x_big l := fun w hw => ⟨h w hw, good_of_word (List.mem_filter.mp (h w hw)).2⟩
theorem x_ws_in {M : xM} (h : Cond.code M.y M.cd M.mL M.rt ∈ x_big) : ∀ w ∈ x_ws M, w ∈ x_big := fun w hw => (List.mem_cons.mp hw).elim (fun e => e ▸ h) id
theorem x_Pc_blind {n0 : Nat} {oa : Nat → Nat → Nat} {D : (Nat → ClassId) × (Nat → Nat → Nat) × (Nat → ClassId)} {a : List xV} {h : xH} : FrameBlind (x_Pc n0 oa D a h) := by
  intro args U g mk ⟨q1, q2, q3, q4, q5⟩
  exact ⟨q1, q2, x_K.moved (u := U) (U := U.calling g mk args) (Vm.Alike.refl U.vm) q3, x_St.moved (u := U) (U := U.calling g mk args) (State.WarmedH.refl U) q4, q5⟩
section XS5
variable {xm : Nat → xM} {M : xM} {pc : Nat}
theorem snd_throw {E ik ic bc bs : Nat} (hbc : bc = M.mc) (hbs : bs = M.ms) (hfr : 6 ≤ M.fr) (hlo : 89 ≤ M.lo) (hcls : Bundle.fit (x_en E) = true) (hnames : ∀ n ∈ x_chain, Bundle.fit n = true)
    (hk : Cond.classLink M.own ik (x_en E) ∈ x_big) (hini : Cond.initialized (x_en E) ∈ x_big) (h1g : ∀ w ∈ (vx_at0 M.own ic (x_en E) x_chain).filter goodWord, w ∈ x_big) (h2g : ∀ w ∈ (vx_at0 M.own ic (x_en E) x_chain).filter (fun w => !goodWord w), w ∈ Cond.castable (x_en E) (x_en E) :: x_nw)
    (hgood : ∀ w ∈ Cond.classLink M.own ik (x_en E) :: Cond.initialized (x_en E) :: vx_at0 M.own ic (x_en E) x_chain, vx_ot w = true)
    (d0 : decode M.cd pc = .ok (.new ik, 3)) (d3 : decode M.cd (pc + 3) = .ok (.dup, 1)) (d4 : decode M.cd (pc + 4) = .ok (.invokespecial ic, 3)) (d7 : decode M.cd (pc + 7) = .ok (.athrow, 1)) {nx : Nat} : x_Snd xm M pc nx (x_throw E bc bs) := by
  rintro n0 oa D p l e R s m args below meth c Γ Z J q h0 ⟨ls, st, h⟩ C - hf - - H locs fl hR hle hL h1 h2 hS hc hs
  obtain ⟨hx, hb, hml, hown, hts, hr, hlocks, -, htab, hKn, hSt, hn0, hRm, hl⟩ := C
  unfold x_throw at hf
  dsimp only at hf hR hle hL h1 h2 hc hs ⊢
  obtain ⟨t1, t2, t3, hf⟩ := hf
  subst hbc; subst hbs; subst hRm
  have hcats := x_cats_eq (n0 := n0) (oa := oa) (h := h) st
  refine vx_throw0 (names := x_chain) (A := fun q => n0 ≤ q) hx hb hl hown hcls hnames (hts _ hk) (hts _ hini) (vx_hat (B := Cond.castable (x_en E) (x_en E) :: x_nw) (fun w hw => hts w (h1g w hw)) h2g (fun w hw => ?_)) hgood hSt.2.2.1 hSt.2.2.2.1 hS (by rw [hml]; exact hL.2.1) d0 d3 d4 d7 (by rw [htab]; exact fun x hx => nomatch hx) ?_ ?_ t2 t3 hlocks (fun t hal hz ho => ?_) (x_fl hS) t2 t3
  · rcases List.mem_cons.mp hw with rfl | hw
    · exact va_Nw.use rfl (hSt.2.2.2.2.2.2.2.1 E)
    · have h9 := hSt.2.2.2.2.2.2.1 w hw
      simp only [x_nw, List.mem_cons, List.not_mem_nil, or_false] at hw
      rcases hw with rfl | rfl | rfl <;> exact va_Nw.use rfl h9
  · show 2 + 3 < M.fr
    omega
  · show _ + (13 * (2 + 1) + 42) ≤ M.lo
    omega
  · refine ⟨E, x_exc h (t.heap.size - H.size), hf _, rfl, ?_, hle.tr x_le.exc, ?_⟩
    · obtain ⟨a1, a2, a3, a4, a5, a6, a7⟩ := hR
      refine ⟨?_, fun K j hK hj => ?_, fun K j hK hj => ?_, a4, a5, a6, a7⟩
      · show t.heap.size = n0 + (x_sz h + (t.heap.size - H.size))
        omega
      · have q9 := a2 K j hK hj
        exact ⟨Nat.lt_of_lt_of_le q9.1 (Nat.le_add_right _ _), q9.2.kept (ho _ (by have := q9.1; omega))⟩
      · have q9 := a3 K j hK hj
        exact ⟨Nat.lt_of_lt_of_le q9.1 (Nat.le_add_right _ _), (ho (n0 + x_ad h K j) (by have := q9.1; omega)).trans q9.2⟩
    · exact ⟨Nat.le_trans hS.1 hz, fun x a b => (ho x (Nat.lt_of_lt_of_le a hS.1)).trans (hS.2.1 x a b)⟩
/-- behind a call -/
theorem x_after {n0 : Nat} {oa : Nat → Nat → Nat} {D : (Nat → ClassId) × (Nat → Nat → Nat) × (Nat → ClassId)} {p : Program} {l : Launch} {e : Env} {R : Room} {s : State} {m : MethodId} {args : Array Value} {below : List Frame} {meth : Method} {c : Code} {h0 : xH} {Z Zc : xO → xH → Prop}
    (C : x_Cx n0 oa D M h0 p l R s m args meth c) {h : xH} {H : Heap} {locs : List Loc} {fl : Array Slot} {ls rest : List xV} {st0 : List Value} {mc ms : Nat}
    (hR : x_Rep n0 oa D h H) (hle : x_le h0 h) (hL : x_Loc (x_cv n0 oa h) fl M.mL ls) (h1 : ∀ v ∈ ls, x_lv h v) (h2 : ∀ v ∈ rest, x_lv h v) (hS : va_S (fun q => n0 ≤ q) s.heap H locs) (b1 : x_ce h + mc ≤ M.mc) (b2 : x_so h + ms ≤ M.ms)
    (hrun : vx_Run p l e R s m args below meth c H locs (x_ce h) (x_so h) mc ms (F0 m pc fl st0) (rest.map (x_cv n0 oa h)) (fun st o t => x_Qc n0 oa D (x_setc h 0 0) Zc #[] st o t) (x_XC n0 oa D (x_setc h 0 0) Zc) (fun q => n0 ≤ q))
    (kq : ∀ v h1, Zc (.inl v) h1 → x_At n0 oa D p l e R s m args below meth c M h0 (x_MQ n0 oa D s args below M h0 Z) (pc + 3) (ls, v.toList ++ rest, x_setc h1 (x_ce h + mc) (x_so h + ms)))
    (kx : ∀ k h1, Zc (.inr k) h1 → Z (.inr k) (x_setc h1 (x_ce h + mc) (x_so h + ms))) :
    W p l e R s m args below meth c H locs (x_ce h) (x_so h) (x_MQ n0 oa D s args below M h0 Z) (F0 m pc fl st0) := by
  obtain ⟨hx, hb, hml, hown, hts, hr, hlocks, -, htab, hKn, hSt, hn0, hRm, hl⟩ := C
  intro T hT X
  rcases hrun T hT X with ⟨v, st₀, t, T', L, e0, X', hL', e1, e2, ⟨v', h9, hz, ho, hR1, hle1, hlv, hF⟩, go⟩ | ⟨q, st₀, t, T', L, E, ce, e0, X', hL', e1, e2, ⟨k, h9, hz, hE, hR1, hle1, hF⟩, hce, hcv, hcl, go⟩
  · have hv : v = v'.map (x_cv n0 oa h9) := by cases ho; rfl
    subst hv
    have hl9 : x_le h h9 := x_le.tr x_le.setc hle1
    have hl8 : x_le h (x_setc h9 (x_ce h + mc) (x_so h + ms)) := hl9.tr x_le.setc
    obtain ⟨hz1, hk1⟩ := hF
    rw [e0] at hz1 hk1
    have hS1 : va_S (fun q => n0 ≤ q) s.heap T'.heap (locs ++ L) := ⟨Nat.le_trans hS.1 (by rw [e1]; exact hz1), fun x a b => by rw [e1, hk1 x (Nat.lt_of_lt_of_le a hS.1) b]; exact hS.2.1 x a b, fun x hx => (List.mem_append.mp hx).elim (hS.2.2 x) (hL' x)⟩
    have := kq v' h9 hz T'.heap (locs ++ L) fl (by rw [e1]; exact hR1) (hle.tr hl8) (hL.le hl8 h1) (x_lvs_le hl8 h1) (fun w hw => (List.mem_append.mp hw).elim (fun h => hlv w (Option.mem_toList.mp h)) (fun h => x_lvs_le hl8 h2 w h)) hS1 b1 b2 T' rfl X'
    obtain ⟨t2, c1, c2⟩ := this
    refine ⟨t2, go t2 ?_, c2⟩
    have e9 : (v'.toList ++ rest).map (x_cv n0 oa (x_setc h9 (x_ce h + mc) (x_so h + ms))) = (v'.map (x_cv n0 oa h9)).toList ++ rest.map (x_cv n0 oa h) := by
      rw [List.map_append, x_cvs_le hl8 h2]
      cases v' <;> rfl
    dsimp only at c1
    rw [e9] at c1
    exact c1
  · have hl9 : x_le h h9 := x_le.tr x_le.setc hle1
    obtain ⟨hz1, hk1⟩ := hF
    rw [e0] at hz1 hk1
    have hS1 : va_S (fun q => n0 ≤ q) s.heap T'.heap (locs ++ L) := ⟨Nat.le_trans hS.1 (by rw [e1]; exact hz1), fun x a b => by rw [e1, hk1 x (Nat.lt_of_lt_of_le a hS.1) b]; exact hS.2.1 x a b, fun x hx => (List.mem_append.mp hx).elim (hS.2.2 x) (hL' x)⟩
    have hout := vx_out (p := p) (l := l) (e := e) (R := R) (s := s) (m := m) (args := args) (below := below) (meth := meth) (c := c) (H := T'.heap) (locs := locs ++ L) (cells := x_ce h + mc) (slots := x_so h + ms) (ls := fl) (rest := rest.map (x_cv n0 oa h)) (Qc := x_Qc n0 oa D h0 Z) (XC := x_XC n0 oa D h0 Z) (free := fun q => n0 ≤ q) (pc := pc) (E := E) (ce := ce) (q := q) (mc := M.mc) (ms := M.ms)
      (by rw [htab]; exact fun x hx => nomatch hx) hlocks (by rw [e1]; exact hce) hcv hcl (fun t9 ht9 hal => ⟨k, x_setc h9 (x_ce h + mc) (x_so h + ms), kx k h9 hz, hE, by rw [ht9, e1]; exact hR1, hle.tr (hl9.tr x_le.setc), hS1.F ht9⟩) (x_fl hS1) b1 b2
    obtain ⟨t2, c1, c2⟩ := hout T' rfl X'
    exact ⟨t2, go.trans c1, c2⟩
theorem x_take_drop {st : List xV} {n : Nat} : st = ((st.take n).reverse).reverse ++ st.drop n := by rw [List.reverse_reverse, List.take_append_drop]
theorem snd_calls {y n mc ms bc bs idx : Nat} {M' : xM} (hy : xm y = M') (hmc : mc = M'.mc) (hms : ms = M'.ms) (hbc : bc = M.mc) (hbs : bs = M.ms) (w1 : Cond.code M'.y M'.cd M'.mL M'.rt ∈ x_big) (w2 : Cond.methodLink M.own idx M'.y ∈ x_big) (w3 : Cond.static M'.y ∈ x_big) (w4 : Cond.initialized M'.y.cls ∈ x_big)
    (hd0 : M'.y.cls ≠ "java/lang/invoke/MethodHandle" ∧ M'.y.cls ≠ "java/lang/invoke/VarHandle" ∧ (parseMethodDescriptor M'.y.desc).map (fun d => d.parameters.length) = some n) (hfr : M'.fr + 1 ≤ M.fr) (hlo : 8 + (M'.mL + 11) + M'.lo ≤ M.lo)
    (hd : decode M.cd pc = .ok (.invokestatic idx, 3)) : x_Snd xm M pc (pc + 3) (x_call y n mc ms bc bs) := by
  rintro n0 oa D p l e R s m args below meth c Γ Z J q h0 ⟨ls, st, h⟩ C hΓ hf hq - H locs fl hR hle hL h1 h2 hS hc hs
  unfold x_call at hf
  dsimp only at hf hR hle hL h1 h2 hc hs ⊢
  obtain ⟨t1, t2, t3, t4, hf⟩ := hf
  have hcon := hΓ _ _ _ _ hf
  rw [hy] at hcon
  subst hmc; subst hms; subst hbc; subst hbs
  obtain ⟨hx, hb, hml, hown, hts, hr, hlocks, hini, htab, hKn, hSt, hn0, hRm, hl⟩ := id C
  have hlv : ∀ v ∈ (st.take n).reverse, x_lv (x_setc h 0 0) v := fun v hv => h2 v (List.mem_of_mem_take (List.mem_reverse.mp hv))
  have hM := hcon l hl hlv
  refine x_after (Zc := fun o h9 => match o with
    | .inl v => q (ls, v.toList ++ st.drop n, x_setc h9 (x_ce h + M'.mc) (x_so h + M'.ms))
    | .inr k => Z (.inr k) (x_setc h9 (x_ce h + M'.mc) (x_so h + M'.ms))) C hR hle hL h1 (fun v hv => h2 v (List.mem_of_mem_drop hv)) hS t3 t4 ?_ (fun v h9 hz => hq _ hz) (fun k h9 hz => hz)
  refine vx_runS (n := n) (As := (st.take n).reverse.map (x_cv n0 oa h)) (Ts := x_big) (own := M.own) ⟨hx, hb, hml, hown, hts⟩ hM ⟨callB_of n hts (x_goodIn (x_ws_in w1)) rfl rfl rfl (hts _ w4) (hts _ w2) hd0 ⟨by rw [hRm]; exact hfr, by rw [hRm]; exact hlo⟩, hts _ w3⟩ ⟨x_Pc_blind, fun U hU hW => ?_⟩ rfl (by simp [t1]) hL.2.1 ?_ ?_ hd ⟨by rw [hRm]; exact t3, by rw [hRm]; exact t4⟩
  · refine ⟨rfl, by rw [hU]; exact hR, x_K.moved hW.alike hKn, ?_, by rw [hU]; exact Nat.le_trans hn0 hS.1⟩
    rw [hU]
    have e1 : x_ln (x_setc h 0 0) 10 1 = x_ln h0 10 1 := congrFun hle.2.2.2 1
    have e2 : x_vi (x_setc h 0 0) 10 1 = x_vi h0 10 1 := congrFun hle.2.2.1 1
    rw [e1, e2]
    exact x_St.moved hW (hSt.kept hn0 hS.2.1)
  · show st.map (x_cv n0 oa h) = _
    rw [← List.map_reverse, ← List.map_append, ← x_take_drop]
  · have := x_cats_eq (n0 := n0) (oa := oa) (h := h) (st.drop n)
    show 2 * 0 + _ ≤ 8
    omega
theorem x_head_drop {st : List xV} {n : Nat} (h1 : 1 ≤ n) (hn : n ≤ st.length) {v : xV} (hv : (st.drop (n - 1)).head? = some v) : (st.take n).reverse = v :: (st.take (n - 1)).reverse ∧ st = (st.take (n - 1)) ++ v :: st.drop n ∧ v ∈ st := by
  obtain ⟨k, rfl⟩ : ∃ k, n = k + 1 := ⟨n - 1, by omega⟩
  rw [Nat.add_sub_cancel] at hv ⊢
  have hlt : k < st.length := by omega
  rw [List.head?_drop, List.getElem?_eq_getElem hlt] at hv
  have hv := Option.some.inj hv
  refine ⟨?_, ?_, ?_⟩
  · rw [List.take_succ, List.getElem?_eq_getElem hlt, hv, List.reverse_append]
    rfl
  · rw [← hv, List.getElem_cons_drop, List.take_append_drop]
  · rw [← hv]; exact List.getElem_mem hlt
theorem snd_callv {K y n mc ms bc bs idx : Nat} {M' : xM} (hy : xm y = M') (hK : xk_o K) (hmc : mc = M'.mc) (hms : ms = M'.ms) (hbc : bc = M.mc) (hbs : bs = M.ms) (w1 : Cond.code M'.y M'.cd M'.mL M'.rt ∈ x_big) (w2 : Cond.methodLink M.own idx M'.y ∈ x_big) (w3 : Cond.instanceMethod M'.y ∈ x_big) (w4 : Cond.initialized M'.y.cls ∈ x_big) (w5 : Cond.selects (xk_C K) M'.y M'.y ∈ x_big)
    (hd0 : M'.y.cls ≠ "java/lang/invoke/MethodHandle" ∧ M'.y.cls ≠ "java/lang/invoke/VarHandle" ∧ (parseMethodDescriptor M'.y.desc).map (fun d => d.parameters.length) = some (n - 1)) (hfr : M'.fr + 1 ≤ M.fr) (hlo : 8 + (M'.mL + 11) + M'.lo ≤ M.lo)
    (hd : decode M.cd pc = .ok (.invokevirtual idx, 3)) : x_Snd xm M pc (pc + 3) (x_callv K y n mc ms bc bs) := by
  rintro n0 oa D p l e R s m args below meth c Γ Z J q h0 ⟨ls, st, h⟩ C hΓ hf hq - H locs fl hR hle hL h1 h2 hS hc hs
  unfold x_callv x_call at hf
  dsimp only at hf hR hle hL h1 h2 hc hs ⊢
  obtain ⟨hrecv, t1, t2, t3, t4, hf⟩ := hf
  have hcon := hΓ _ _ _ _ hf
  rw [hy] at hcon
  subst hmc; subst hms; subst hbc; subst hbs
  obtain ⟨hx, hb, hml, hown, hts, hr, hlocks, hini, htab, hKn, hSt, hn0, hRm, hl⟩ := id C
  split at hrecv
  · rename_i t j hhd
    obtain ⟨hn1, rfl, hj⟩ := hrecv
    obtain ⟨d1, d2, d3⟩ := x_head_drop hn1 t1 hhd
    have hlv : ∀ v ∈ (st.take n).reverse, x_lv (x_setc h 0 0) v := fun v hv => h2 v (List.mem_of_mem_take (List.mem_reverse.mp hv))
    have hM := hcon l hl hlv
    have e9 : x_cv n0 oa h (.inr (.inr (t, j))) = .ref (n0 + x_ad h t j) := x_cr_in (Or.inl hK) hj
    obtain ⟨-, cellB, p1, p2, p3, -⟩ := hR.2.1 t j hK hj
    refine x_after (Zc := fun o h9 => match o with
    | .inl v => q (ls, v.toList ++ st.drop n, x_setc h9 (x_ce h + M'.mc) (x_so h + M'.ms))
    | .inr k => Z (.inr k) (x_setc h9 (x_ce h + M'.mc) (x_so h + M'.ms))) C hR hle hL h1 (fun v hv => h2 v (List.mem_of_mem_drop hv)) hS t3 t4 ?_ (fun v h9 hz => hq _ hz) (fun k h9 hz => hz)
    refine vx_runV (n := n - 1) (As := (st.take (n - 1)).reverse.map (x_cv n0 oa h)) (b := n0 + x_ad h t j) (C := xk_C t) (Ts := x_big) (own := M.own) ⟨hx, hb, hml, hown, hts⟩ hM ⟨callB_of (n - 1) hts (x_goodIn (x_ws_in w1)) rfl rfl rfl (hts _ w4) (hts _ w2) hd0 ⟨by rw [hRm]; exact hfr, by rw [hRm]; exact hlo⟩, hts _ w3, hts _ w5⟩ ⟨x_Pc_blind, ⟨cellB, p1, by rw [p3]; rfl, by rw [p2]; exact (hKn.1 t hK).2.1⟩, fun U hU hW => ?_⟩ rfl (by simp; omega) hL.2.1 ?_ ?_ hd ⟨by rw [hRm]; exact t3, by rw [hRm]; exact t4⟩
    · refine ⟨?_, by rw [hU]; exact hR, x_K.moved hW.alike hKn, ?_, by rw [hU]; exact Nat.le_trans hn0 hS.1⟩
      · rw [d1, List.map_cons]
        show _ = (x_cv n0 oa h (.inr (.inr (t, j))) :: _).toArray
        rw [e9]
        rfl
      · rw [hU]
        have e1 : x_ln (x_setc h 0 0) 10 1 = x_ln h0 10 1 := congrFun hle.2.2.2 1
        have e2 : x_vi (x_setc h 0 0) 10 1 = x_vi h0 10 1 := congrFun hle.2.2.1 1
        rw [e1, e2]
        exact x_St.moved hW (hSt.kept hn0 hS.2.1)
    · show st.map (x_cv n0 oa h) = _
      rw [← List.map_reverse, List.reverse_reverse, ← e9, ← List.map_cons, ← List.map_append, ← d2]
    · have := x_cats_eq (n0 := n0) (oa := oa) (h := h) (st.drop n)
      show 2 * 0 + _ ≤ 8
      omega
  · exact hrecv.elim
theorem x_noThrow {l : Launch} {y : MethodName} {ws : List Cond} {rm : Room} {Pc : Array Value → State → Prop} {Qc : Array Value → State → Outcome → State → Prop} {XC : String → State → State → Prop} {mc ms : Nat} {free : Addr → Prop} (hX : ∀ E st t, ¬ XC E st t) (h : vx_Met l y ws rm Pc Qc XC mc ms free) : Met l y ws rm Pc Qc mc ms free := by
  intro p e a1 a2 a3 s m args below a4 a5 a6 a7
  obtain ⟨n, o, b1, b2, b3, b4⟩ := h p e a1 a2 a3 s m args below a4 a5 a6 a7
  refine ⟨n, o, b1, b2, b3, ?_⟩
  rcases b4 with b4 | ⟨q, -, E, ce, L, hx, -⟩
  · exact b4
  · exact (hX _ _ _ hx).elim
theorem snd_calli {y n mc ms bc bs idx : Nat} {M' : xM} (hy : xm y = M') (hmc : mc = M'.mc) (hms : ms = M'.ms) (hbc : bc = M.mc) (hbs : bs = M.ms) (hrt : M'.rt = none) (hnm : M'.y.name = "<init>") (w1 : Cond.code M'.y M'.cd M'.mL M'.rt ∈ x_big) (w2 : Cond.methodLink M.own idx M'.y ∈ x_big) (w3 : Cond.instanceMethod M'.y ∈ x_big) (w4 : Cond.initialized M'.y.cls ∈ x_big)
    (hd0 : M'.y.cls ≠ "java/lang/invoke/MethodHandle" ∧ M'.y.cls ≠ "java/lang/invoke/VarHandle" ∧ (parseMethodDescriptor M'.y.desc).map (fun d => d.parameters.length) = some (n - 1)) (hfr : M'.fr + 1 ≤ M.fr) (hlo : 8 + (M'.mL + 11) + M'.lo ≤ M.lo)
    (hd : decode M.cd pc = .ok (.invokespecial idx, 3)) : x_Snd xm M pc (pc + 3) (x_calli y n mc ms bc bs) := by
  rintro n0 oa D p l e R s m args below meth c Γ Z J q h0 ⟨ls, st, h⟩ C hΓ hf hq - H locs fl hR hle hL h1 h2 hS hc hs
  unfold x_calli at hf
  dsimp only at hf hR hle hL h1 h2 hc hs ⊢
  obtain ⟨t1, hn1, t2, t3, t4, hrecv, hf⟩ := hf
  have hcon := hΓ _ _ _ _ hf
  rw [hy] at hcon
  subst hmc; subst hms; subst hbc; subst hbs
  obtain ⟨hx, hb, hml, hown, hts, hr, hlocks, hini, htab, hKn, hSt, hn0, hRm, hl⟩ := id C
  split at hrecv
  · rename_i t j hhd
    obtain ⟨d1, d2, d3⟩ := x_head_drop hn1 t1 hhd
    have hlv : ∀ v ∈ (st.take n).reverse, x_lv (x_setc h 0 0) v := fun v hv => h2 v (List.mem_of_mem_take (List.mem_reverse.mp hv))
    have hM := x_noThrow (fun E st9 t9 hX => by obtain ⟨k, h9, hz, -⟩ := hX; exact hz) (hcon l hl hlv)
    have e9 : x_cv n0 oa h (.inr (.inr (t, j))) = .ref (x_addr n0 oa h t j) := by
      show x_cr n0 oa h t j = _
      unfold x_cr
      rw [if_neg (by omega)]
    refine x_after (Zc := fun o h9 => match o with
    | .inl v => q (ls, v.toList ++ st.drop n, x_setc h9 (x_ce h + M'.mc) (x_so h + M'.ms))
    | .inr _ => False) C hR hle hL h1 (fun v hv => h2 v (List.mem_of_mem_drop hv)) hS t3 t4 ?_ (fun v h9 hz => hq _ hz) (fun k h9 hz => hz.elim)
    rw [hrt] at w1
    have hws : x_ws M' = Cond.code M'.y M'.cd M'.mL none :: x_big := by unfold x_ws; rw [hrt]
    have hrun := va_runI (R := R) (n := n - 1) (As := (st.take (n - 1)).reverse.map (x_cv n0 oa h)) (rest := (st.drop n).map (x_cv n0 oa h)) (b := x_addr n0 oa h t j) (Ts := x_big) (own := M.own) (H := H) (locs := locs) (cells := x_ce h) (slots := x_so h) (e := e) (below := below) (meth := meth) (g := F0 m pc fl (st.map (x_cv n0 oa h))) ⟨hx, hb, hml, hown, hts⟩ hM ⟨callB_of (n - 1) hts (x_goodIn (x_ws_in (by rw [hrt]; exact w1))) hws rfl rfl (hts _ w4) (hts _ w2) hd0 ⟨by rw [hRm]; exact hfr, by rw [hRm]; exact hlo⟩, hnm, hts _ w3⟩ ⟨x_Pc_blind, fun U hU hW => ⟨by
        rw [d1, List.map_cons]
        show _ = (x_cv n0 oa h (.inr (.inr (t, j))) :: _).toArray
        rw [e9]
        rfl, by rw [hU]; exact hR, x_K.moved hW.alike hKn, by
        rw [hU]
        have e1 : x_ln (x_setc h 0 0) 10 1 = x_ln h0 10 1 := congrFun hle.2.2.2 1
        have e2 : x_vi (x_setc h 0 0) 10 1 = x_vi h0 10 1 := congrFun hle.2.2.1 1
        rw [e1, e2]
        exact x_St.moved hW (hSt.kept hn0 hS.2.1), by rw [hU]; exact Nat.le_trans hn0 hS.1⟩⟩ rfl (by simp; omega) hL.2.1 (by
        show st.map (x_cv n0 oa h) = _
        rw [← List.map_reverse, List.reverse_reverse, ← e9, ← List.map_cons, ← List.map_append, ← d2]) (by
        have := x_cats_eq (n0 := n0) (oa := oa) (h := h) (st.drop n)
        show 2 * 0 + _ ≤ 8
        omega) hd ⟨by rw [hRm]; exact t3, by rw [hRm]; exact t4⟩
    intro T hT X
    obtain ⟨v, st₀, t', T', L, e0, X', hL', e1, e2, hQ, go⟩ := hrun T hT X
    exact Or.inl ⟨v, st₀, t', T', L, e0, X', hL', e1, e2, hQ, go⟩
  · exact hrecv.elim
theorem snd_calln {y n mc ms bc bs idx : Nat} {M' : xM} {host : String} (hy : xm y = M') (hmc : mc = M'.mc) (hms : ms = M'.ms) (hbc : bc = M.mc) (hbs : bs = M.ms) (w1 : Cond.code M'.y M'.cd M'.mL M'.rt ∈ x_big) (w2 : (M.own, idx, M'.y, host) ∈ x_nl) (w3 : Cond.static M'.y ∈ x_big) (w4 : Cond.initialized M'.y.cls ∈ x_big)
    (hd0 : M'.y.cls ≠ "java/lang/invoke/MethodHandle" ∧ M'.y.cls ≠ "java/lang/invoke/VarHandle" ∧ (parseMethodDescriptor M'.y.desc).map (fun d => d.parameters.length) = some n) (hfr : M'.fr + 1 ≤ M.fr) (hlo : 8 + (M'.mL + 11) + M'.lo ≤ M.lo)
    (hd : decode M.cd pc = .ok (.invokestatic idx, 3)) : x_Snd xm M pc (pc + 3) (x_calln y n mc ms bc bs) := by
  rintro n0 oa D p l e R s m args below meth c Γ Z J q h0 ⟨ls, st, h⟩ C hΓ hf hq - H locs fl hR hle hL h1 h2 hS hc hs
  unfold x_calln at hf
  dsimp only at hf hR hle hL h1 h2 hc hs ⊢
  obtain ⟨t1, t2, t3, t4, hf⟩ := hf
  have hcon := hΓ _ _ _ _ hf
  rw [hy] at hcon
  subst hmc; subst hms; subst hbc; subst hbs
  obtain ⟨hx, hb, hml, hown, hts, hr, hlocks, hini, htab, hKn, hSt, hn0, hRm, hl⟩ := id C
  have hlv : ∀ v ∈ (st.take n).reverse, x_lv (x_setc h 0 0) v := fun v hv => h2 v (List.mem_of_mem_take (List.mem_reverse.mp hv))
  have hM := x_noThrow (fun E st9 t9 hX => by obtain ⟨k, h9, hz, -⟩ := hX; exact hz) (hcon l hl hlv)
  refine x_after (Zc := fun o h9 => match o with
    | .inl v => q (ls, v.toList ++ st.drop n, x_setc h9 (x_ce h + M'.mc) (x_so h + M'.ms))
    | .inr _ => False) C hR hle hL h1 (fun v hv => h2 v (List.mem_of_mem_drop hv)) hS t3 t4 ?_ (fun v h9 hz => hq _ hz) (fun k h9 hz => hz.elim)
  have hrun := va_runSN (R := R) (n := n) (As := (st.take n).reverse.map (x_cv n0 oa h)) (rest := (st.drop n).map (x_cv n0 oa h)) (Ts := x_big) (own := M.own) (host := host) (H := H) (locs := locs) (cells := x_ce h) (slots := x_so h) (e := e) (below := below) (meth := meth) (g := F0 m pc fl (st.map (x_cv n0 oa h))) ⟨hx, hb, hml, hown, hts⟩ hM ⟨va_cnB n hts (x_goodIn (x_ws_in w1)) rfl rfl rfl (hSt.2.2.2.2.2.2.2.2.1 _ w2) (hts _ w4) hd0 ⟨by rw [hRm]; exact hfr, by rw [hRm]; exact hlo⟩, hts _ w3, trivial⟩ ⟨x_Pc_blind, fun U hU hW => ⟨rfl, by rw [hU]; exact hR, x_K.moved hW.alike hKn, by
      rw [hU]
      have e1 : x_ln (x_setc h 0 0) 10 1 = x_ln h0 10 1 := congrFun hle.2.2.2 1
      have e2 : x_vi (x_setc h 0 0) 10 1 = x_vi h0 10 1 := congrFun hle.2.2.1 1
      rw [e1, e2]
      exact x_St.moved hW (hSt.kept hn0 hS.2.1), by rw [hU]; exact Nat.le_trans hn0 hS.1⟩⟩ rfl (by simp [t1]) hL.2.1 (by
      show st.map (x_cv n0 oa h) = _
      rw [← List.map_reverse, ← List.map_append, ← x_take_drop]) (by
      have := x_cats_eq (n0 := n0) (oa := oa) (h := h) (st.drop n)
      show 2 * 0 + _ ≤ 8
      omega) hd ⟨by rw [hRm]; exact t3, by rw [hRm]; exact t4⟩
  intro T hT X
  obtain ⟨v, st₀, t', T', L, e0, X', hL', e1, e2, hQ, go⟩ := hrun T hT X
  exact Or.inl ⟨v, st₀, t', T', L, e0, X', hL', e1, e2, hQ, go⟩
end XS5
