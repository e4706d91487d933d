/-! THE LAW'S CALLERS: methods with handlers -/
def x_wsW (M : xM) (hh : List (Nat × Nat × Nat × Nat)) : List Cond := Cond.codeWith M.y M.cd M.mL M.rt hh :: x_big
section XW1
variable (n0 : Nat) (oa : Nat → Nat → Nat) (D : (Nat → ClassId) × (Nat → Nat → Nat) × (Nat → ClassId))
def x_PcW (args : List xV) (h : xH) : Array Value → State → Prop := fun a U => x_Pc n0 oa D args h a U ∧ va_Nc (x_en 2) (x_en 1) U
/-- the contract of a caller -/
def x_ConW (M : xM) (hh : List (Nat × Nat × Nat × Nat)) (args : List xV) (h : xH) (Z : xO → xH → Prop) : Prop := ∀ l : Launch, l.stackTraces = false → (∀ v ∈ args, x_lv h v) →
  vx_Met l M.y (x_wsW M hh) (x_rm M) (x_PcW n0 oa D args h) (x_Qc n0 oa D h Z) (x_XC n0 oa D h Z) M.mc M.ms (fun q => n0 ≤ q)
def x_CxW (M : xM) (hh : List (Nat × Nat × Nat × Nat)) (h0 : xH) (p : Program) (l : Launch) (R : Room) (s : State) (m : MethodId) (args : Array Value) (meth : Method) (c : Code) : Prop :=
  p.tables.exec = Jvm.exec ∧ c.code = M.cd ∧ c.maxLocals = M.mL ∧ s.vm.findClass M.own = some m.cls ∧ (∀ w ∈ x_big, w.before args s = true) ∧ meth.sig.returnType = M.rt ∧ meth.locks = false ∧
  c.exceptionTable.toList = tableOf hh ∧ x_K D s ∧ x_St n0 oa (x_ln h0 10 1) (x_vi h0 10 1) s s.heap ∧ n0 ≤ s.heap.size ∧ R = x_rm M ∧ l.stackTraces = false ∧ va_Nc (x_en 2) (x_en 1) s
end XW1
theorem x_conW_of {M : xM} {hh : List (Nat × Nat × Nat × Nat)} {n0 : Nat} {oa : Nat → Nat → Nat} {D : (Nat → ClassId) × (Nat → Nat → Nat) × (Nat → ClassId)} {a : List xV} {h : xH} {Z : xO → xH → Prop} (hM : x_okM M) (hok : x_argok M.mL a = true) (hc0 : x_ce h = 0) (hs0 : x_so h = 0)
    (body : ∀ (p : Program) (l : Launch) (e : Env) (R : Room) (s : State) (m : MethodId) (args : Array Value) (below : List Frame) (meth : Method) (c : Code), x_CxW n0 oa D M hh h p l R s m args meth c → x_At n0 oa D p l e R s m args below meth c M h (x_MQ n0 oa D s args below M h Z) 0 (x_init M.mL a, [], h)) : x_ConW n0 oa D M hh a h Z := by
  intro l hl hlv
  refine vx_ofWH (cc := M.cd) (maxL := M.mL) (ret := M.rt) (hh := hh) hM.1 rfl ?_
  intro p e s m args below meth c s₁ B hml hPc
  obtain ⟨⟨rfl, hR, hK, hSt, hn0⟩, hnc⟩ := hPc
  have hts : ∀ w ∈ x_wsW M hh, w.before _ s = true := atoms_spec (ws := x_wsW M hh) B.pre
  have hown : s.vm.findClass M.y.cls = some m.cls := findClass_of_methodNamed B.named
  have htab : c.exceptionTable.toList = tableOf hh := vx_table (x := M.y) B (hts _ List.mem_cons_self)
  have C : x_CxW n0 oa D M hh h p l (headSpec (x_wsW M hh) (x_rm M)).room s m ((a.map (x_cv n0 oa h)).toArray) meth c :=
    ⟨B.exec, B.bytes, hml, by rw [hM.2.1]; exact hown, fun w hw => hts w (List.mem_cons_of_mem _ hw), B.returns, B.notSynchronized, htab, hK, hSt, hn0, rfl, hl, hnc⟩
  obtain ⟨fl, e1, hL⟩ := x_entry (n0 := n0) (oa := oa) (h := h) hok m
  rw [e1]
  have := body p l e _ s m _ below meth c C s.heap [] fl hR x_le.rf hL (fun v hv => ?_) (fun v hv => by cases hv) va_S.rf (by show x_ce h ≤ _; omega) (by show x_so h ≤ _; omega)
  · dsimp only at this
    rw [hc0, hs0] at this
    exact this
  · rcases List.mem_append.mp hv with hv | hv
    · exact hlv v hv
    · rw [List.eq_of_mem_replicate hv]
      exact Nat.zero_le _
section XA
variable {n0 : Nat} {oa : Nat → Nat → Nat} {D : (Nat → ClassId) × (Nat → Nat → Nat) × (Nat → ClassId)} {p : Program} {l : Launch} {e : Env} {R : Room} {s : State} {m : MethodId} {args : Array Value} {below : List Frame} {meth : Method} {c : Code} {M : xM} {h0 : xH} {Q : State → Prop} {pc nx : Nat} {ls st : List xV} {h : xH}
theorem a_iload_n {k : Fin 4} {a : Nat} {n : Int32} (hx : p.tables.exec = Jvm.exec) (hb : c.code = M.cd) (hd : decode M.cd pc = .ok (.iload_n k, 1)) (ha : (k : Nat) = a) (hn : ls[a]? = some (.inl n)) (kk : x_At n0 oa D p l e R s m args below meth c M h0 Q (pc + 1) (ls, .inl n :: st, h)) : x_At n0 oa D p l e R s m args below meth c M h0 Q pc (ls, st, h) := by
  intro H locs fl hR hle hL h1 h2 hS hc hs
  exact lv_iload_n hx hb hd ha (hL.at hn rfl) (kk H locs fl hR hle hL h1 (x_lvs_cons trivial h2) hS hc hs)
theorem a_iload {a : Nat} {n : Int32} (hx : p.tables.exec = Jvm.exec) (hb : c.code = M.cd) (hd : decode M.cd pc = .ok (.iload a, 2)) (hn : ls[a]? = some (.inl n)) (kk : x_At n0 oa D p l e R s m args below meth c M h0 Q (pc + 2) (ls, .inl n :: st, h)) : x_At n0 oa D p l e R s m args below meth c M h0 Q pc (ls, st, h) := by
  intro H locs fl hR hle hL h1 h2 hS hc hs
  exact lv_iload hx hb hd (hL.at hn rfl) (kk H locs fl hR hle hL h1 (x_lvs_cons trivial h2) hS hc hs)
theorem a_aload_n {k : Fin 4} {a t j : Nat} (hx : p.tables.exec = Jvm.exec) (hb : c.code = M.cd) (hd : decode M.cd pc = .ok (.aload_n k, 1)) (ha : (k : Nat) = a) (hn : ls[a]? = some (.inr (.inr (t, j)))) (ht : t ≠ 0) (kk : x_At n0 oa D p l e R s m args below meth c M h0 Q (pc + 1) (ls, .inr (.inr (t, j)) :: st, h)) : x_At n0 oa D p l e R s m args below meth c M h0 Q pc (ls, st, h) := by
  intro H locs fl hR hle hL h1 h2 hS hc hs
  have hat := hL.at hn (by show (!(t == 0)) = true; simp [ht])
  have hk := kk H locs fl hR hle hL h1 (x_lvs_cons (h1 _ (List.mem_of_getElem? hn)) h2) hS hc hs
  dsimp only at hk hat ⊢
  rcases x_cr_or n0 oa h t j with e1 | ⟨b, e1⟩ <;> (have e2 : x_cv n0 oa h (.inr (.inr (t, j))) = _ := e1; rw [List.map_cons, e2] at hk; rw [e2] at hat)
  · exact lv_aload_nN hx hb hd ha hat hk
  · exact lv_aload_n hx hb hd ha hat hk
theorem a_aload {a t j : Nat} (hx : p.tables.exec = Jvm.exec) (hb : c.code = M.cd) (hd : decode M.cd pc = .ok (.aload a, 2)) (hn : ls[a]? = some (.inr (.inr (t, j)))) (ht : t ≠ 0) (kk : x_At n0 oa D p l e R s m args below meth c M h0 Q (pc + 2) (ls, .inr (.inr (t, j)) :: st, h)) : x_At n0 oa D p l e R s m args below meth c M h0 Q pc (ls, st, h) := by
  intro H locs fl hR hle hL h1 h2 hS hc hs
  have hat := hL.at hn (by show (!(t == 0)) = true; simp [ht])
  have hk := kk H locs fl hR hle hL h1 (x_lvs_cons (h1 _ (List.mem_of_getElem? hn)) h2) hS hc hs
  dsimp only at hk hat ⊢
  rcases x_cr_or n0 oa h t j with e1 | ⟨b, e1⟩ <;> (have e2 : x_cv n0 oa h (.inr (.inr (t, j))) = _ := e1; rw [List.map_cons, e2] at hk; rw [e2] at hat)
  · exact lv_aloadN hx hb hd hat hk
  · exact lv_aload hx hb hd hat hk
theorem a_iconst {n : Int} {v : Int32} (hx : p.tables.exec = Jvm.exec) (hb : c.code = M.cd) (hd : decode M.cd pc = .ok (.iconst n, 1)) (hv : Int32.ofInt n = v) (kk : x_At n0 oa D p l e R s m args below meth c M h0 Q (pc + 1) (ls, .inl v :: st, h)) : x_At n0 oa D p l e R s m args below meth c M h0 Q pc (ls, st, h) := by
  intro H locs fl hR hle hL h1 h2 hS hc hs
  exact lv_iconst hx hb hd hv (kk H locs fl hR hle hL h1 (x_lvs_cons trivial h2) hS hc hs)
theorem a_lconst {n : Fin 2} {v : Int64} (hx : p.tables.exec = Jvm.exec) (hb : c.code = M.cd) (hd : decode M.cd pc = .ok (.lconst n, 1)) (hv : Int64.ofNat (n : Nat) = v) (kk : x_At n0 oa D p l e R s m args below meth c M h0 Q (pc + 1) (ls, .inr (.inl v) :: st, h)) : x_At n0 oa D p l e R s m args below meth c M h0 Q pc (ls, st, h) := by
  intro H locs fl hR hle hL h1 h2 hS hc hs
  exact lv_lconst hx hb hd hv (kk H locs fl hR hle hL h1 (x_lvs_cons trivial h2) hS hc hs)
theorem a_i2l {v : Int32} (hx : p.tables.exec = Jvm.exec) (hb : c.code = M.cd) (hd : decode M.cd pc = .ok (.i2l, 1)) (kk : x_At n0 oa D p l e R s m args below meth c M h0 Q (pc + 1) (ls, .inr (.inl v.toInt64) :: st, h)) : x_At n0 oa D p l e R s m args below meth c M h0 Q pc (ls, .inl v :: st, h) := by
  intro H locs fl hR hle hL h1 h2 hS hc hs
  exact lv_i2l hx hb hd rfl (kk H locs fl hR hle hL h1 (x_lvs_cons trivial (x_tl h2)) hS hc hs)
theorem a_goto {off : Int} {a : Nat} (hx : p.tables.exec = Jvm.exec) (hb : c.code = M.cd) (hd : decode M.cd pc = .ok (.goto off, 3)) (ht : (pc : Int) + off = (a : Int)) (kk : x_At n0 oa D p l e R s m args below meth c M h0 Q a (ls, st, h)) : x_At n0 oa D p l e R s m args below meth c M h0 Q pc (ls, st, h) := by
  intro H locs fl hR hle hL h1 h2 hS hc hs
  exact lv_goto hx hb hd ht (kk H locs fl hR hle hL h1 h2 hS hc hs)
theorem a_if_eq {off : Int} {a : Nat} {v : Int32} (hx : p.tables.exec = Jvm.exec) (hb : c.code = M.cd) (hd : decode M.cd pc = .ok (.ifCond .eq off, 3)) (ht : (pc : Int) + off = (a : Int)) (k1 : v = 0 → x_At n0 oa D p l e R s m args below meth c M h0 Q a (ls, st, h)) (k2 : ¬ v = 0 → x_At n0 oa D p l e R s m args below meth c M h0 Q (pc + 3) (ls, st, h)) : x_At n0 oa D p l e R s m args below meth c M h0 Q pc (ls, .inl v :: st, h) := by
  intro H locs fl hR hle hL h1 h2 hS hc hs
  exact lv_if_eq hx hb hd ht (fun k => k1 k H locs fl hR hle hL h1 (x_tl h2) hS hc hs) (fun k => k2 k H locs fl hR hle hL h1 (x_tl h2) hS hc hs)
theorem arrV_one {cI : ClassId} {f g : Nat → Value} (hfg : f 0 = g 0) : arrV cI 1 f = arrV cI 1 g := by
  unfold arrV
  congr 1
  refine Array.ext_getElem? fun i => ?_
  simp only [Array.getElem?_ofFn]
  by_cases q : i < 1
  · have : i = 0 := by omega
    subst this
    simp [hfg]
  · simp [q]
/-- a store into the law's own array -/
theorem a_last {v : Int64} {i : Int32} (hx : p.tables.exec = Jvm.exec) (hb : c.code = M.cd) (hKn : x_K D s) (hcn : x_cn h 21 = 1) (hln : x_ln h 21 1 = 1) (hi : i = 0) (hd : decode M.cd pc = .ok (.lastore, 1)) (kk : x_At n0 oa D p l e R s m args below meth c M h0 Q (pc + 1) (ls, st, x_putl h v)) : x_At n0 oa D p l e R s m args below meth c M h0 Q pc (ls, .inr (.inl v) :: .inl i :: .inr (.inr (21, 1)) :: st, h) := by
  subst hi
  intro H locs fl hR hle hL h1 h2 hS hc hs
  have hK : xk_a 21 := ⟨by decide, by decide⟩
  have hj : x_live h 21 1 := ⟨Nat.le_refl 1, Nat.le_of_eq hcn.symm⟩
  dsimp only at hR hle hL h1 h2 hc hs ⊢
  obtain ⟨-, q2⟩ := hR.2.2.1 21 1 hK hj
  rw [List.map_cons, List.map_cons, List.map_cons, show x_cv n0 oa h (.inr (.inr (21, 1))) = _ from x_cr_in (Or.inr hK) hj]
  have hty : s.isArrayOf (arrV (D.2.2 21) (x_ln h 21 1) (fun i => x_ae n0 oa h 21 1 i)) .long := (hKn.2 21 hK).1 _ _
  refine W.last hx hb q2 hty (fun q => by cases q) (by rw [arrV_size, hln]; decide) rfl rfl hd fun H' g1 g2 g3 => ?_
  have hl := x_le.putl (h := h) (v := v)
  have hR' : x_Rep n0 oa D (x_putl h v) H' := by
    refine hR.put (K := 21) (j := 1) rfl rfl rfl rfl (Or.inr hK) hj g2 g3 (fun K' k j' _ _ _ => rfl) (fun K' j' i' ha hl' z => ?_) (fun ho => by have := ho.2; omega) (fun _ => ?_) (fun K j k a b => hR.2.2.2.2.1 K j k a b) (fun K j i a b => hR.2.2.2.2.2.1 K j i a b)
    · unfold x_ae
      by_cases q : K' = 21
      · subst q
        have a1 := hl'.1
        have a2 := hl'.2
        exact absurd ⟨rfl, by omega⟩ z
      · rw [if_neg q, if_neg q]
        rfl
    · rw [g1, arrV_store, hln]
      refine congrArg some (arrV_one ?_)
      show (if (0 : Nat) = (0 : Int32).toNatClampNeg then Value.long v else _) = (if 21 = 21 then Value.long v else _)
      rw [if_pos rfl]
      exact if_pos (by decide)
  exact kk H' _ fl hR' (hle.tr hl) (hL.le hl h1) (x_lvs_le hl h1) (x_lvs_le hl (x_tl (x_tl (x_tl h2)))) (hS.put g2 g3 (Nat.le_add_right _ _)) hc hs
/-- the caller's end -/
theorem a_iret {hh : List (Nat × Nat × Nat × Nat)} {Z : xO → xH → Prop} {v : Int32} (C : x_CxW n0 oa D M hh h0 p l R s m args meth c) (hrt : M.rt = some .int) (hd : decode M.cd pc = .ok (.ireturn, 1)) (hz : Z (.inl (some (.inl v))) h) : x_At n0 oa D p l e R s m args below meth c M h0 (x_MQ n0 oa D s args below M h0 Z) pc (ls, [.inl v], h) := by
  intro H locs fl hR hle hL h1 h2 hS hc hs
  obtain ⟨hx, hb, hml, hown, hts, hr, hlocks, -⟩ := C
  refine W.widen hc hs (vx_ret (W.iret hx hb (hr.trans hrt) (fun t ht hW => ?_) (x_fl hS) hd hlocks))
  exact ⟨some (.inl v), h, hz, rfl, by rw [ht]; exact hR, hle, fun w hw => by cases hw; trivial, hS.F ht⟩
/-- a handler: the exception is put away, a number comes back -/
theorem a_hand {hh : List (Nat × Nat × Nat × Nat)} {Z : xO → xH → Prop} {H : Heap} {locs : List Loc} {fl : Array Slot} {lv : List (Nat × Value)} {a len hp q cells slots : Nat} {n : Int} (C : x_CxW n0 oa D M hh h0 p l R s m args meth c) (hrt : M.rt = some .int) (ha : a < M.mL)
    (hd1 : (decode M.cd hp = .ok (.astore a, 2) ∧ len = 2) ∨ ∃ k : Fin 4, (k : Nat) = a ∧ decode M.cd hp = .ok (.astore_n k, 1) ∧ len = 1) (hd2 : decode M.cd (hp + len) = .ok (.iconst n, 1)) (hd3 : decode M.cd (hp + len + 1) = .ok (.ireturn, 1))
    (hlv : lv_has fl M.mL lv) (hR : x_Rep n0 oa D h H) (hle : x_le h0 h) (hS : va_S (fun q => n0 ≤ q) s.heap H locs) (hc : cells ≤ M.mc) (hs : slots ≤ M.ms) (hz : Z (.inl (some (.inl (Int32.ofInt n)))) h) : W p l e R s m args below meth c H locs cells slots (x_MQ n0 oa D s args below M h0 Z) (F0 m hp fl [.ref q]) := by
  obtain ⟨hx, hb, hml, hown, hts, hr, hlocks, -⟩ := C
  have fin : ∀ fl' : Array Slot, W p l e R s m args below meth c H locs cells slots (x_MQ n0 oa D s args below M h0 Z) (F0 m (hp + len) fl' []) := by
    intro fl'
    refine lv_iconst hx hb hd2 rfl ?_
    refine W.widen hc hs (vx_ret (W.iret hx hb (hr.trans hrt) (fun t ht hW => ?_) (x_fl hS) hd3 hlocks))
    exact ⟨some (.inl (Int32.ofInt n)), h, hz, rfl, by rw [ht]; exact hR, hle, fun w hw => by cases hw; trivial, hS.F ht⟩
  rcases hd1 with ⟨d1, rfl⟩ | ⟨k, hk, d1, rfl⟩
  · exact lv_astore hx hb d1 hlv ha rfl fun fl' _ => fin fl'
  · exact lv_astore_n hx hb d1 hk hlv ha rfl fun fl' _ => fin fl'
/-- what a row of the table does with exception k -/
def x_Cat (M : xM) (hh : List (Nat × Nat × Nat × Nat)) (s : State) (pc k : Nat) (n : Int) : Prop :=
  ∃ (pre : List ExceptionTableEntry) (x : ExceptionTableEntry) (suf : List ExceptionTableEntry) (a len : Nat), tableOf hh = pre ++ x :: suf ∧
    (∀ z ∈ pre, covers z pc = false ∨ (z.catchType ≠ 0 ∧ ∃ nm : String, Cond.classLink M.own z.catchType nm ∈ x_big ∧ va_Nc (x_en k) nm s)) ∧ covers x pc = true ∧ x.catchType ≠ 0 ∧ Cond.classLink M.own x.catchType (x_en k) ∈ x_big ∧ a < M.mL ∧
    ((decode M.cd x.handlerPc = .ok (.astore a, 2) ∧ len = 2) ∨ ∃ k : Fin 4, (k : Nat) = a ∧ decode M.cd x.handlerPc = .ok (.astore_n k, 1) ∧ len = 1) ∧ decode M.cd (x.handlerPc + len) = .ok (.iconst n, 1) ∧ decode M.cd (x.handlerPc + len + 1) = .ok (.ireturn, 1)
/-- a call of the class's method under the handlers -/
theorem a_callc {hh : List (Nat × Nat × Nat × Nat)} {Z Zc : xO → xH → Prop} {M' : xM} {j idx : Nat} {as9 rest : List xV} (C : x_CxW n0 oa D M hh h0 p l R s m args meth c) (hrt : M.rt = some .int) (hcon : x_Con n0 oa D M' (.inr (.inr (7, j)) :: as9) (x_setc h 0 0) Zc) (hj : x_live h 7 j)
    (w1 : Cond.code M'.y M'.cd M'.mL M'.rt ∈ x_big) (w2 : Cond.methodLink M.own idx M'.y ∈ x_big) (w3 : Cond.instanceMethod M'.y ∈ x_big) (w4 : Cond.initialized M'.y.cls ∈ x_big) (w5 : Cond.selects RX7 M'.y M'.y ∈ x_big)
    (hd0 : M'.y.cls ≠ "java/lang/invoke/MethodHandle" ∧ M'.y.cls ≠ "java/lang/invoke/VarHandle" ∧ (parseMethodDescriptor M'.y.desc).map (fun d => d.parameters.length) = some as9.length) (hfr : M'.fr + 1 ≤ M.fr) (hlo : 8 + (M'.mL + 11) + M'.lo ≤ M.lo)
    (hd : decode M.cd pc = .ok (.invokevirtual idx, 3)) (hcats : x_cats rest ≤ 8) (b1 : x_ce h + M'.mc ≤ M.mc) (b2 : x_so h + M'.ms ≤ M.ms)
    (kq : ∀ v h1, Zc (.inl v) h1 → x_At n0 oa D p l e R s m args below meth c M h0 (x_MQ n0 oa D s args below M h0 Z) (pc + 3) (ls, v.toList ++ rest, x_setc h1 (x_ce h + M'.mc) (x_so h + M'.ms)))
    (kx : ∀ k h1, Zc (.inr k) h1 → ∃ n, x_Cat M hh s pc k n ∧ Z (.inl (some (.inl (Int32.ofInt n)))) (x_setc h1 (x_ce h + M'.mc) (x_so h + M'.ms))) :
    x_At n0 oa D p l e R s m args below meth c M h0 (x_MQ n0 oa D s args below M h0 Z) pc (ls, as9.reverse ++ .inr (.inr (7, j)) :: rest, h) := by
  intro H locs fl hR hle hL h1 h2 hS hc hs
  dsimp only at hR hle hL h1 h2 hc hs ⊢
  have C' := C
  obtain ⟨hx, hb, hml, hown, hts, hr, hlocks, htab, hKn, hSt, hn0, hRm, hl, hnc⟩ := C
  have hmem : ∀ v ∈ (.inr (.inr (7, j)) :: as9 : List xV), x_lv (x_setc h 0 0) v := fun v hv => by
    rcases List.mem_cons.mp hv with rfl | hv
    · exact h2 _ (List.mem_append_right _ List.mem_cons_self)
    · exact h2 _ (List.mem_append_left _ (List.mem_reverse.mpr hv))
  have hrest : ∀ v ∈ rest, x_lv h v := fun v hv => h2 _ (List.mem_append_right _ (List.mem_cons_of_mem _ hv))
  have hM := hcon l hl hmem
  have hK7 : xk_o 7 := ⟨by decide, by decide⟩
  have e9 : x_cv n0 oa h (.inr (.inr (7, j))) = .ref (n0 + x_ad h 7 j) := x_cr_in (Or.inl hK7) hj
  obtain ⟨-, cellB, p1, p2, p3, -⟩ := hR.2.1 7 j hK7 hj
  have hrun : vx_Run p l e R s m args below meth c H locs (x_ce h) (x_so h) M'.mc M'.ms (F0 m pc fl ((as9.reverse ++ .inr (.inr (7, j)) :: rest).map (x_cv n0 oa h))) (rest.map (x_cv n0 oa h)) (fun st o t => x_Qc n0 oa D (x_setc h 0 0) Zc #[] st o t) (x_XC n0 oa D (x_setc h 0 0) Zc) (fun q => n0 ≤ q) := by
    refine vx_runV (n := as9.length) (As := as9.map (x_cv n0 oa h)) (b := n0 + x_ad h 7 j) (C := RX7) (Ts := x_big) (own := M.own) ⟨hx, hb, hml, hown, hts⟩ hM ⟨callB_of as9.length hts (x_goodIn (x_ws_in w1)) rfl rfl rfl (hts _ w4) (hts _ w2) hd0 ⟨by rw [hRm]; exact hfr, by rw [hRm]; exact hlo⟩, hts _ w3, hts _ w5⟩ ⟨x_Pc_blind, ⟨cellB, p1, by rw [p3]; rfl, by rw [p2]; exact (hKn.1 7 hK7).2.1⟩, fun U hU hW => ?_⟩ rfl (by simp) hL.2.1 ?_ ?_ hd ⟨by rw [hRm]; exact b1, by rw [hRm]; exact b2⟩
    · refine ⟨?_, by rw [hU]; exact hR, x_K.moved hW.alike hKn, ?_, by rw [hU]; exact Nat.le_trans hn0 hS.1⟩
      · rw [List.map_cons]
        show _ = (x_cv n0 oa h (.inr (.inr (7, j))) :: _).toArray
        rw [e9]
        rfl
      · rw [hU]
        have e1 : x_ln (x_setc h 0 0) 10 1 = x_ln h0 10 1 := congrFun hle.2.2.2 1
        have e2 : x_vi (x_setc h 0 0) 10 1 = x_vi h0 10 1 := congrFun hle.2.2.1 1
        rw [e1, e2]
        exact x_St.moved hW (hSt.kept hn0 hS.2.1)
    · show (as9.reverse ++ .inr (.inr (7, j)) :: rest).map (x_cv n0 oa h) = _
      rw [List.map_append, List.map_cons, e9, List.map_reverse]
    · have := x_cats_eq (n0 := n0) (oa := oa) (h := h) rest
      show 2 * 0 + _ ≤ 8
      omega
  intro T hT X
  rcases hrun T hT X with ⟨v, st₀, t, T', L, e0, X', hL', e1, e2, ⟨v', h9, hz, ho, hR1, hle1, hlv, hF⟩, go⟩ | ⟨q, st₀, t, T', L, E, ce, e0, X', hL', e1, e2, ⟨k, h9, hz, hE, hR1, hle1, hF⟩, hce, hcv, hcl, go⟩
  · have hv : v = v'.map (x_cv n0 oa h9) := by cases ho; rfl
    subst hv
    have hl9 : x_le h h9 := x_le.tr x_le.setc hle1
    have hl8 : x_le h (x_setc h9 (x_ce h + M'.mc) (x_so h + M'.ms)) := hl9.tr x_le.setc
    obtain ⟨hz1, hk1⟩ := hF
    rw [e0] at hz1 hk1
    have hS1 : va_S (fun q => n0 ≤ q) s.heap T'.heap (locs ++ L) := ⟨Nat.le_trans hS.1 (by rw [e1]; exact hz1), fun x a b => by rw [e1, hk1 x (Nat.lt_of_lt_of_le a hS.1) b]; exact hS.2.1 x a b, fun x hx => (List.mem_append.mp hx).elim (hS.2.2 x) (hL' x)⟩
    have := kq v' h9 hz T'.heap (locs ++ L) fl (by rw [e1]; exact hR1) (hle.tr hl8) (hL.le hl8 h1) (x_lvs_le hl8 h1) (fun w hw => (List.mem_append.mp hw).elim (fun h => hlv w (Option.mem_toList.mp h)) (fun h => x_lvs_le hl8 hrest w h)) hS1 b1 b2 T' rfl X'
    obtain ⟨t2, c1, c2⟩ := this
    refine ⟨t2, go t2 ?_, c2⟩
    have e8 : (v'.toList ++ rest).map (x_cv n0 oa (x_setc h9 (x_ce h + M'.mc) (x_so h + M'.ms))) = (v'.map (x_cv n0 oa h9)).toList ++ rest.map (x_cv n0 oa h) := by
      rw [List.map_append, x_cvs_le hl8 hrest]
      cases v' <;> rfl
    dsimp only at c1
    rw [e8] at c1
    exact c1
  · have hl9 : x_le h h9 := x_le.tr x_le.setc hle1
    have hl8 : x_le h (x_setc h9 (x_ce h + M'.mc) (x_so h + M'.ms)) := hl9.tr x_le.setc
    obtain ⟨hz1, hk1⟩ := hF
    rw [e0] at hz1 hk1
    have hS1 : va_S (fun q => n0 ≤ q) s.heap T'.heap (locs ++ L) := ⟨Nat.le_trans hS.1 (by rw [e1]; exact hz1), fun x a b => by rw [e1, hk1 x (Nat.lt_of_lt_of_le a hS.1) b]; exact hS.2.1 x a b, fun x hx => (List.mem_append.mp hx).elim (hS.2.2 x) (hL' x)⟩
    subst hE
    obtain ⟨n, ⟨pre, x, suf, a, len, hsp, hpass, hcov, hct, hlink, ha, hd1, hd2, hd3⟩, hZ⟩ := kx k h9 hz
    have hcast : (Cond.castable (x_en k) (x_en k)).before args s = true := va_Nw.use rfl (hSt.2.2.2.2.2.2.2.1 k)
    have hcat := vx_catch (p := p) (l := l) (e := e) (R := R) (s := s) (m := m) (args := args) (below := below) (meth := meth) (c := c) (H := T'.heap) (locs := locs ++ L) (cells := x_ce h + M'.mc) (slots := x_so h + M'.ms) (Q := x_MQ n0 oa D s args below M h0 Z) (ls := fl) (rest := rest.map (x_cv n0 oa h)) (pc := pc) (own := M.own) (name := x_en k) (E := x_en k) (ce := ce) (q := q) hown pre x suf (htab.trans hsp)
      (fun z hz9 => (hpass z hz9).imp id (fun y => ⟨y.1, y.2.choose, hts _ y.2.choose_spec.1, y.2.choose_spec.2⟩)) hcov hct (hts _ hlink) hcast (by rw [e1]; exact hce) hcv hcl
      (a_hand (h := x_setc h9 (x_ce h + M'.mc) (x_so h + M'.ms)) C' hrt ha hd1 hd2 hd3 hL.2 (by rw [e1]; exact hR1) (hle.tr hl8) hS1 b1 b2 hZ)
    obtain ⟨t2, c1, c2⟩ := hcat T' rfl X'
    exact ⟨t2, go.trans c1, c2⟩
end XA
