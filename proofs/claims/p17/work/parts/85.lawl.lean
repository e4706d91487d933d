/-! THE LAW'S CASES (printed by gen_law2.py) -/
/-- the law answers 1 -/
def ZL : xO → xH → Prop := fun o _ => o = .inl (some (.inl 1))
section XLL
variable {n0 : Nat} {oa : Nat → Nat → Nat} {D : (Nat → ClassId) × (Nat → Nat → Nat) × (Nat → ClassId)} {p : Program} {l : Launch} {e : Env} {R : Room} {s : State} {m : MethodId} {args : Array Value} {below : List Frame} {meth : Method} {c : Code} {h0 : xH} {Ls : Nat × (Nat → Int32)}
theorem lk_trunk {h : xH} {F : xF} {v : vS × Nat} {i : Int32} {w5 w6 : xV} (C : x_Cx n0 oa D xm_law h0 p l R s m args meth c) (hnc : va_Nc (x_en 2) (x_en 1) s) (I : LI Ls h F) (K : kP v v h) (hv : v.2 ≤ 600) (hi : 0 ≤ i.toInt ∧ i.toInt + 5 < (Ls.1 : Int)) (hL : Ls.1 ≤ 3072) (hce : x_ce h ≤ 600000) (hso : x_so h ≤ 7000000)
    (nxt : ∀ (w5 w6 : xV) (h' : xH) (F' : xF) (v' : vS × Nat), LI Ls h' F' → kP v' v' h' → v'.2 ≤ v.2 + 1 → x_ce h' ≤ x_ce h + 7 → x_so h' ≤ x_so h + 55 → x_At n0 oa D p l e R s m args below meth c xm_law h0 (x_MQ n0 oa D s args below xm_law h0 ZL) 883 ([.inr (.inr (10, 1)), .inr (.inr (7, 1)), .inr (.inr (8, 1)), .inr (.inr (21, 1)), .inl i, w5, w6], [], h')) :
    x_At n0 oa D p l e R s m args below meth c xm_law h0 (x_MQ n0 oa D s args below xm_law h0 ZL) 120 ([.inr (.inr (10, 1)), .inr (.inr (7, 1)), .inr (.inr (8, 1)), .inr (.inr (21, 1)), .inl i, w5, w6], [], h) := by
  refine a_blk (N := 2000000000000) C oL_120 ?_
  refine q_aload rfl (by decide) ?_
  refine q_scr rfl rfl rfl (k := 1) (by decide) I.2.2.2.2.2.2 hi hL ?_
  refine q_scr rfl rfl rfl (k := 2) (by decide) I.2.2.2.2.2.2 hi hL ?_
  refine q_aload rfl (by decide) ?_
  refine q_goto ?_
  show x_At n0 oa D p l e R s m args below meth c xm_law h0 (x_MQ n0 oa D s args below xm_law h0 ZL) 134 ([.inr (.inr (10, 1)), .inr (.inr (7, 1)), .inr (.inr (8, 1)), .inr (.inr (21, 1)), .inl i, w5, w6], [.inr (.inr (21, 1)), .inl (Ls.2 (i + 2).toNatClampNeg), .inl (Ls.2 (i + 1).toNatClampNeg), .inr (.inr (7, 1))], h)
  refine a_callw (as9 := [.inr (.inr (7, 1)), .inl (Ls.2 (i + 1).toNatClampNeg), .inl (Ls.2 (i + 2).toNatClampNeg), .inr (.inr (21, 1))]) (rest := []) C hnc (lc_trunk I K) (fun k h1 hz => by obtain ⟨n9, hn, -⟩ := hz; cases hn) wl_259 wl_257 wl_258 wl_54 (by show _ ≠ _ ∧ _ ≠ _ ∧ _ = some 4; decide +kernel) (Nat.le_of_ble_eq_true rfl) (Nat.le_of_ble_eq_true rfl) (by decide +kernel) (Nat.le_of_ble_eq_true rfl) (by show x_ce h + 3 ≤ 601024; omega) (by show x_so h + 16 ≤ 7293033; omega) (fun v9 h1 hz => ?_)
  obtain ⟨n, hn, I1, hT⟩ := hz
  cases hn
  have hT : cz_trunk (x_setc h1 (x_ce h + 3) (x_so h + 16)) ((Ls.2 (i + 1).toNatClampNeg)) ((Ls.2 (i + 2).toNatClampNeg)) n v := hT
  have J : LI Ls (x_setc h1 (x_ce h + 3) (x_so h + 16)) F := I1.setc
  show x_At n0 oa D p l e R s m args below meth c xm_law h0 (x_MQ n0 oa D s args below xm_law h0 ZL) 137 ([.inr (.inr (10, 1)), .inr (.inr (7, 1)), .inr (.inr (8, 1)), .inr (.inr (21, 1)), .inl i, w5, w6], [.inl n], (x_setc h1 (x_ce h + 3) (x_so h + 16)))
  have e1 : x_ce (x_setc h1 (x_ce h + 3) (x_so h + 16)) = x_ce h + 3 := rfl
  have e2 : x_so (x_setc h1 (x_ce h + 3) (x_so h + 16)) = x_so h + 16 := rfl
  generalize x_setc h1 (x_ce h + 3) (x_so h + 16) = g at J hT e1 e2 ⊢
  refine a_blk (N := 2000000000000) C oL_137 ?_
  refine q_istore (Nat.le_of_ble_eq_true rfl) ?_
  show x_seq _ _ _ _ ([.inr (.inr (10, 1)), .inr (.inr (7, 1)), .inr (.inr (8, 1)), .inr (.inr (21, 1)), .inl i, .inl n, w6], [], g)
  refine q_aload rfl (by decide) ?_
  refine q_scr rfl rfl rfl (k := 1) (by decide) J.2.2.2.2.2.2 hi hL ?_
  refine q_scr rfl rfl rfl (k := 2) (by decide) J.2.2.2.2.2.2 hi hL ?_
  refine q_callv rfl (by decide) (j := 1) ⟨Nat.le_refl 1, Nat.le_of_eq J.2.1.1.symm⟩ (Nat.le_of_ble_eq_true rfl) (Nat.le_of_ble_eq_true rfl) (by omega) (by omega) ?_
  refine rc_trunk (x1 := (Ls.2 (i + 1).toNatClampNeg)) (x2 := (Ls.2 (i + 2).toNatClampNeg)) J hT hv (fun o F2 hM hr => ?_)
  obtain ⟨n2, rfl, -, -, cR⟩ := hr
  show x_seq _ _ _ _ ([.inr (.inr (10, 1)), .inr (.inr (7, 1)), .inr (.inr (8, 1)), .inr (.inr (21, 1)), .inl i, .inl n, w6], [.inl n2], x_setc (mh (x_setc g 0 0) F2) (x_ce g + 0) (x_so g + 0))
  have J2 : LI Ls (x_setc (mh (x_setc g 0 0) F2) (x_ce g + 0) (x_so g + 0)) F2 := ((J.setc (a := 0) (b := 0)).rf hM).setc
  have cR : ∃ v' : vS × Nat, kP v' v' (x_setc (mh (x_setc g 0 0) F2) (x_ce g + 0) (x_so g + 0)) ∧ v'.2 ≤ v.2 + 1 := cR
  have e3 : x_ce (x_setc (mh (x_setc g 0 0) F2) (x_ce g + 0) (x_so g + 0)) = x_ce g + 0 := rfl
  have e4 : x_so (x_setc (mh (x_setc g 0 0) F2) (x_ce g + 0) (x_so g + 0)) = x_so g + 0 := rfl
  generalize x_setc (mh (x_setc g 0 0) F2) (x_ce g + 0) (x_so g + 0) = g2 at J2 cR e3 e4 ⊢
  refine q_istore (Nat.le_of_ble_eq_true rfl) ?_
  show x_seq _ _ _ _ ([.inr (.inr (10, 1)), .inr (.inr (7, 1)), .inr (.inr (8, 1)), .inr (.inr (21, 1)), .inl i, .inl n, .inl n2], [], g2)
  refine q_goto ?_
  obtain ⟨v9, K9, b9⟩ := cR
  exact nxt (.inl n) (.inl n2) _ _ v9 J2 K9 b9 (by omega) (by omega)
theorem lk_route {h : xH} {F : xF} {v : vS × Nat} {i : Int32} {w5 w6 : xV} (C : x_Cx n0 oa D xm_law h0 p l R s m args meth c) (hnc : va_Nc (x_en 2) (x_en 1) s) (I : LI Ls h F) (K : kP v v h) (hv : v.2 ≤ 600) (hi : 0 ≤ i.toInt ∧ i.toInt + 5 < (Ls.1 : Int)) (hL : Ls.1 ≤ 3072) (hce : x_ce h ≤ 600000) (hso : x_so h ≤ 7000000)
    (nxt : ∀ (w5 w6 : xV) (h' : xH) (F' : xF) (v' : vS × Nat), LI Ls h' F' → kP v' v' h' → v'.2 ≤ v.2 + 1 → x_ce h' ≤ x_ce h + 7 → x_so h' ≤ x_so h + 55 → x_At n0 oa D p l e R s m args below meth c xm_law h0 (x_MQ n0 oa D s args below xm_law h0 ZL) 883 ([.inr (.inr (10, 1)), .inr (.inr (7, 1)), .inr (.inr (8, 1)), .inr (.inr (21, 1)), .inl i, w5, w6], [], h')) :
    x_At n0 oa D p l e R s m args below meth c xm_law h0 (x_MQ n0 oa D s args below xm_law h0 ZL) 160 ([.inr (.inr (10, 1)), .inr (.inr (7, 1)), .inr (.inr (8, 1)), .inr (.inr (21, 1)), .inl i, w5, w6], [], h) := by
  refine a_blk (N := 2000000000000) C oL_160 ?_
  refine q_aload rfl (by decide) ?_
  refine q_scr rfl rfl rfl (k := 1) (by decide) I.2.2.2.2.2.2 hi hL ?_
  refine q_scr rfl rfl rfl (k := 2) (by decide) I.2.2.2.2.2.2 hi hL ?_
  refine q_scr rfl rfl rfl (k := 3) (by decide) I.2.2.2.2.2.2 hi hL ?_
  refine q_scr rfl rfl rfl (k := 4) (by decide) I.2.2.2.2.2.2 hi hL ?_
  refine q_scr rfl rfl rfl (k := 5) (by decide) I.2.2.2.2.2.2 hi hL ?_
  refine q_aload rfl (by decide) ?_
  refine q_goto ?_
  show x_At n0 oa D p l e R s m args below meth c xm_law h0 (x_MQ n0 oa D s args below xm_law h0 ZL) 192 ([.inr (.inr (10, 1)), .inr (.inr (7, 1)), .inr (.inr (8, 1)), .inr (.inr (21, 1)), .inl i, w5, w6], [.inr (.inr (21, 1)), .inl (Ls.2 (i + 5).toNatClampNeg), .inl (Ls.2 (i + 4).toNatClampNeg), .inl (Ls.2 (i + 3).toNatClampNeg), .inl (Ls.2 (i + 2).toNatClampNeg), .inl (Ls.2 (i + 1).toNatClampNeg), .inr (.inr (7, 1))], h)
  refine a_callw (as9 := [.inr (.inr (7, 1)), .inl (Ls.2 (i + 1).toNatClampNeg), .inl (Ls.2 (i + 2).toNatClampNeg), .inl (Ls.2 (i + 3).toNatClampNeg), .inl (Ls.2 (i + 4).toNatClampNeg), .inl (Ls.2 (i + 5).toNatClampNeg), .inr (.inr (21, 1))]) (rest := []) C hnc (lc_route I K) (fun k h1 hz => by obtain ⟨n9, hn, -⟩ := hz; cases hn) wl_377 wl_375 wl_376 wl_54 (by show _ ≠ _ ∧ _ ≠ _ ∧ _ = some 7; decide +kernel) (Nat.le_of_ble_eq_true rfl) (Nat.le_of_ble_eq_true rfl) (by decide +kernel) (Nat.le_of_ble_eq_true rfl) (by show x_ce h + 7 ≤ 601024; omega) (by show x_so h + 55 ≤ 7293033; omega) (fun v9 h1 hz => ?_)
  obtain ⟨n, hn, I1, hT⟩ := hz
  cases hn
  have hT : cz_route (x_setc h1 (x_ce h + 7) (x_so h + 55)) ((Ls.2 (i + 1).toNatClampNeg)) ((Ls.2 (i + 2).toNatClampNeg)) ((Ls.2 (i + 3).toNatClampNeg)) ((Ls.2 (i + 4).toNatClampNeg)) ((Ls.2 (i + 5).toNatClampNeg)) n v := hT
  have J : LI Ls (x_setc h1 (x_ce h + 7) (x_so h + 55)) F := I1.setc
  show x_At n0 oa D p l e R s m args below meth c xm_law h0 (x_MQ n0 oa D s args below xm_law h0 ZL) 195 ([.inr (.inr (10, 1)), .inr (.inr (7, 1)), .inr (.inr (8, 1)), .inr (.inr (21, 1)), .inl i, w5, w6], [.inl n], (x_setc h1 (x_ce h + 7) (x_so h + 55)))
  have e1 : x_ce (x_setc h1 (x_ce h + 7) (x_so h + 55)) = x_ce h + 7 := rfl
  have e2 : x_so (x_setc h1 (x_ce h + 7) (x_so h + 55)) = x_so h + 55 := rfl
  generalize x_setc h1 (x_ce h + 7) (x_so h + 55) = g at J hT e1 e2 ⊢
  refine a_blk (N := 2000000000000) C oL_195 ?_
  refine q_istore (Nat.le_of_ble_eq_true rfl) ?_
  show x_seq _ _ _ _ ([.inr (.inr (10, 1)), .inr (.inr (7, 1)), .inr (.inr (8, 1)), .inr (.inr (21, 1)), .inl i, .inl n, w6], [], g)
  refine q_aload rfl (by decide) ?_
  refine q_scr rfl rfl rfl (k := 1) (by decide) J.2.2.2.2.2.2 hi hL ?_
  refine q_scr rfl rfl rfl (k := 2) (by decide) J.2.2.2.2.2.2 hi hL ?_
  refine q_scr rfl rfl rfl (k := 3) (by decide) J.2.2.2.2.2.2 hi hL ?_
  refine q_scr rfl rfl rfl (k := 4) (by decide) J.2.2.2.2.2.2 hi hL ?_
  refine q_scr rfl rfl rfl (k := 5) (by decide) J.2.2.2.2.2.2 hi hL ?_
  refine q_callv rfl (by decide) (j := 1) ⟨Nat.le_refl 1, Nat.le_of_eq J.2.1.1.symm⟩ (Nat.le_of_ble_eq_true rfl) (Nat.le_of_ble_eq_true rfl) (by omega) (by omega) ?_
  refine rc_route (x1 := (Ls.2 (i + 1).toNatClampNeg)) (x2 := (Ls.2 (i + 2).toNatClampNeg)) (x3 := (Ls.2 (i + 3).toNatClampNeg)) (x4 := (Ls.2 (i + 4).toNatClampNeg)) (x5 := (Ls.2 (i + 5).toNatClampNeg)) J hT hv (fun o F2 hM hr => ?_)
  obtain ⟨n2, rfl, -, -, cR⟩ := hr
  show x_seq _ _ _ _ ([.inr (.inr (10, 1)), .inr (.inr (7, 1)), .inr (.inr (8, 1)), .inr (.inr (21, 1)), .inl i, .inl n, w6], [.inl n2], x_setc (mh (x_setc g 0 0) F2) (x_ce g + 0) (x_so g + 0))
  have J2 : LI Ls (x_setc (mh (x_setc g 0 0) F2) (x_ce g + 0) (x_so g + 0)) F2 := ((J.setc (a := 0) (b := 0)).rf hM).setc
  have cR : ∃ v' : vS × Nat, kP v' v' (x_setc (mh (x_setc g 0 0) F2) (x_ce g + 0) (x_so g + 0)) ∧ v'.2 ≤ v.2 + 1 := cR
  have e3 : x_ce (x_setc (mh (x_setc g 0 0) F2) (x_ce g + 0) (x_so g + 0)) = x_ce g + 0 := rfl
  have e4 : x_so (x_setc (mh (x_setc g 0 0) F2) (x_ce g + 0) (x_so g + 0)) = x_so g + 0 := rfl
  generalize x_setc (mh (x_setc g 0 0) F2) (x_ce g + 0) (x_so g + 0) = g2 at J2 cR e3 e4 ⊢
  refine q_istore (Nat.le_of_ble_eq_true rfl) ?_
  show x_seq _ _ _ _ ([.inr (.inr (10, 1)), .inr (.inr (7, 1)), .inr (.inr (8, 1)), .inr (.inr (21, 1)), .inl i, .inl n, .inl n2], [], g2)
  refine q_goto ?_
  obtain ⟨v9, K9, b9⟩ := cR
  exact nxt (.inl n) (.inl n2) _ _ v9 J2 K9 b9 (by omega) (by omega)
theorem lk_hunt {h : xH} {F : xF} {v : vS × Nat} {i : Int32} {w5 w6 : xV} (C : x_Cx n0 oa D xm_law h0 p l R s m args meth c) (hnc : va_Nc (x_en 2) (x_en 1) s) (I : LI Ls h F) (K : kP v v h) (hv : v.2 ≤ 600) (hi : 0 ≤ i.toInt ∧ i.toInt + 5 < (Ls.1 : Int)) (hL : Ls.1 ≤ 3072) (hce : x_ce h ≤ 600000) (hso : x_so h ≤ 7000000)
    (nxt : ∀ (w5 w6 : xV) (h' : xH) (F' : xF) (v' : vS × Nat), LI Ls h' F' → kP v' v' h' → v'.2 ≤ v.2 + 1 → x_ce h' ≤ x_ce h + 7 → x_so h' ≤ x_so h + 55 → x_At n0 oa D p l e R s m args below meth c xm_law h0 (x_MQ n0 oa D s args below xm_law h0 ZL) 883 ([.inr (.inr (10, 1)), .inr (.inr (7, 1)), .inr (.inr (8, 1)), .inr (.inr (21, 1)), .inl i, w5, w6], [], h')) :
    x_At n0 oa D p l e R s m args below meth c xm_law h0 (x_MQ n0 oa D s args below xm_law h0 ZL) 236 ([.inr (.inr (10, 1)), .inr (.inr (7, 1)), .inr (.inr (8, 1)), .inr (.inr (21, 1)), .inl i, w5, w6], [], h) := by
  refine a_blk (N := 2000000000000) C oL_236 ?_
  refine q_aload rfl (by decide) ?_
  refine q_scr rfl rfl rfl (k := 1) (by decide) I.2.2.2.2.2.2 hi hL ?_
  refine q_scr rfl rfl rfl (k := 2) (by decide) I.2.2.2.2.2.2 hi hL ?_
  refine q_scr rfl rfl rfl (k := 3) (by decide) I.2.2.2.2.2.2 hi hL ?_
  refine q_aload rfl (by decide) ?_
  refine q_goto ?_
  show x_At n0 oa D p l e R s m args below meth c xm_law h0 (x_MQ n0 oa D s args below xm_law h0 ZL) 256 ([.inr (.inr (10, 1)), .inr (.inr (7, 1)), .inr (.inr (8, 1)), .inr (.inr (21, 1)), .inl i, w5, w6], [.inr (.inr (21, 1)), .inl (Ls.2 (i + 3).toNatClampNeg), .inl (Ls.2 (i + 2).toNatClampNeg), .inl (Ls.2 (i + 1).toNatClampNeg), .inr (.inr (7, 1))], h)
  refine a_callw (as9 := [.inr (.inr (7, 1)), .inl (Ls.2 (i + 1).toNatClampNeg), .inl (Ls.2 (i + 2).toNatClampNeg), .inl (Ls.2 (i + 3).toNatClampNeg), .inr (.inr (21, 1))]) (rest := []) C hnc (lc_hunt I K) (fun k h1 hz => by obtain ⟨n9, hn, -⟩ := hz; cases hn) wl_456 wl_454 wl_455 wl_54 (by show _ ≠ _ ∧ _ ≠ _ ∧ _ = some 5; decide +kernel) (Nat.le_of_ble_eq_true rfl) (Nat.le_of_ble_eq_true rfl) (by decide +kernel) (Nat.le_of_ble_eq_true rfl) (by show x_ce h + 2 ≤ 601024; omega) (by show x_so h + 12 ≤ 7293033; omega) (fun v9 h1 hz => ?_)
  obtain ⟨n, hn, I1, hT⟩ := hz
  cases hn
  have hT : cz_hunt (x_setc h1 (x_ce h + 2) (x_so h + 12)) ((Ls.2 (i + 1).toNatClampNeg)) ((Ls.2 (i + 2).toNatClampNeg)) ((Ls.2 (i + 3).toNatClampNeg)) n v := hT
  have J : LI Ls (x_setc h1 (x_ce h + 2) (x_so h + 12)) F := I1.setc
  show x_At n0 oa D p l e R s m args below meth c xm_law h0 (x_MQ n0 oa D s args below xm_law h0 ZL) 259 ([.inr (.inr (10, 1)), .inr (.inr (7, 1)), .inr (.inr (8, 1)), .inr (.inr (21, 1)), .inl i, w5, w6], [.inl n], (x_setc h1 (x_ce h + 2) (x_so h + 12)))
  have e1 : x_ce (x_setc h1 (x_ce h + 2) (x_so h + 12)) = x_ce h + 2 := rfl
  have e2 : x_so (x_setc h1 (x_ce h + 2) (x_so h + 12)) = x_so h + 12 := rfl
  generalize x_setc h1 (x_ce h + 2) (x_so h + 12) = g at J hT e1 e2 ⊢
  refine a_blk (N := 2000000000000) C oL_259 ?_
  refine q_istore (Nat.le_of_ble_eq_true rfl) ?_
  show x_seq _ _ _ _ ([.inr (.inr (10, 1)), .inr (.inr (7, 1)), .inr (.inr (8, 1)), .inr (.inr (21, 1)), .inl i, .inl n, w6], [], g)
  refine q_aload rfl (by decide) ?_
  refine q_scr rfl rfl rfl (k := 1) (by decide) J.2.2.2.2.2.2 hi hL ?_
  refine q_scr rfl rfl rfl (k := 2) (by decide) J.2.2.2.2.2.2 hi hL ?_
  refine q_scr rfl rfl rfl (k := 3) (by decide) J.2.2.2.2.2.2 hi hL ?_
  refine q_callv rfl (by decide) (j := 1) ⟨Nat.le_refl 1, Nat.le_of_eq J.2.1.1.symm⟩ (Nat.le_of_ble_eq_true rfl) (Nat.le_of_ble_eq_true rfl) (by omega) (by omega) ?_
  refine rc_hunt (x1 := (Ls.2 (i + 1).toNatClampNeg)) (x2 := (Ls.2 (i + 2).toNatClampNeg)) (x3 := (Ls.2 (i + 3).toNatClampNeg)) J hT hv (fun o F2 hM hr => ?_)
  obtain ⟨n2, rfl, -, -, cR⟩ := hr
  show x_seq _ _ _ _ ([.inr (.inr (10, 1)), .inr (.inr (7, 1)), .inr (.inr (8, 1)), .inr (.inr (21, 1)), .inl i, .inl n, w6], [.inl n2], x_setc (mh (x_setc g 0 0) F2) (x_ce g + 0) (x_so g + 0))
  have J2 : LI Ls (x_setc (mh (x_setc g 0 0) F2) (x_ce g + 0) (x_so g + 0)) F2 := ((J.setc (a := 0) (b := 0)).rf hM).setc
  have cR : ∃ v' : vS × Nat, kP v' v' (x_setc (mh (x_setc g 0 0) F2) (x_ce g + 0) (x_so g + 0)) ∧ v'.2 ≤ v.2 + 1 := cR
  have e3 : x_ce (x_setc (mh (x_setc g 0 0) F2) (x_ce g + 0) (x_so g + 0)) = x_ce g + 0 := rfl
  have e4 : x_so (x_setc (mh (x_setc g 0 0) F2) (x_ce g + 0) (x_so g + 0)) = x_so g + 0 := rfl
  generalize x_setc (mh (x_setc g 0 0) F2) (x_ce g + 0) (x_so g + 0) = g2 at J2 cR e3 e4 ⊢
  refine q_istore (Nat.le_of_ble_eq_true rfl) ?_
  show x_seq _ _ _ _ ([.inr (.inr (10, 1)), .inr (.inr (7, 1)), .inr (.inr (8, 1)), .inr (.inr (21, 1)), .inl i, .inl n, .inl n2], [], g2)
  refine q_goto ?_
  obtain ⟨v9, K9, b9⟩ := cR
  exact nxt (.inl n) (.inl n2) _ _ v9 J2 K9 b9 (by omega) (by omega)
theorem lk_lift {h : xH} {F : xF} {v : vS × Nat} {i : Int32} {w5 w6 : xV} (C : x_Cx n0 oa D xm_law h0 p l R s m args meth c) (hnc : va_Nc (x_en 2) (x_en 1) s) (I : LI Ls h F) (K : kP v v h) (hv : v.2 ≤ 600) (hi : 0 ≤ i.toInt ∧ i.toInt + 5 < (Ls.1 : Int)) (hL : Ls.1 ≤ 3072) (hce : x_ce h ≤ 600000) (hso : x_so h ≤ 7000000)
    (nxt : ∀ (w5 w6 : xV) (h' : xH) (F' : xF) (v' : vS × Nat), LI Ls h' F' → kP v' v' h' → v'.2 ≤ v.2 + 1 → x_ce h' ≤ x_ce h + 7 → x_so h' ≤ x_so h + 55 → x_At n0 oa D p l e R s m args below meth c xm_law h0 (x_MQ n0 oa D s args below xm_law h0 ZL) 883 ([.inr (.inr (10, 1)), .inr (.inr (7, 1)), .inr (.inr (8, 1)), .inr (.inr (21, 1)), .inl i, w5, w6], [], h')) :
    x_At n0 oa D p l e R s m args below meth c xm_law h0 (x_MQ n0 oa D s args below xm_law h0 ZL) 288 ([.inr (.inr (10, 1)), .inr (.inr (7, 1)), .inr (.inr (8, 1)), .inr (.inr (21, 1)), .inl i, w5, w6], [], h) := by
  refine a_blk (N := 2000000000000) C oL_288 ?_
  refine q_aload rfl (by decide) ?_
  refine q_scr rfl rfl rfl (k := 1) (by decide) I.2.2.2.2.2.2 hi hL ?_
  refine q_scr rfl rfl rfl (k := 2) (by decide) I.2.2.2.2.2.2 hi hL ?_
  refine q_goto ?_
  show x_At n0 oa D p l e R s m args below meth c xm_law h0 (x_MQ n0 oa D s args below xm_law h0 ZL) 301 ([.inr (.inr (10, 1)), .inr (.inr (7, 1)), .inr (.inr (8, 1)), .inr (.inr (21, 1)), .inl i, w5, w6], [.inl (Ls.2 (i + 2).toNatClampNeg), .inl (Ls.2 (i + 1).toNatClampNeg), .inr (.inr (7, 1))], h)
  refine a_callw (as9 := [.inr (.inr (7, 1)), .inl (Ls.2 (i + 1).toNatClampNeg), .inl (Ls.2 (i + 2).toNatClampNeg)]) (rest := []) C hnc (lc_lift I K) (fun k h1 hz => by obtain ⟨n9, hn, -⟩ := hz; cases hn) wl_471 wl_469 wl_470 wl_54 (by show _ ≠ _ ∧ _ ≠ _ ∧ _ = some 3; decide +kernel) (Nat.le_of_ble_eq_true rfl) (Nat.le_of_ble_eq_true rfl) (by decide +kernel) (Nat.le_of_ble_eq_true rfl) (by show x_ce h + 2 ≤ 601024; omega) (by show x_so h + 12 ≤ 7293033; omega) (fun v9 h1 hz => ?_)
  obtain ⟨n, hn, I1, hT⟩ := hz
  cases hn
  have hT : cz_lift (x_setc h1 (x_ce h + 2) (x_so h + 12)) ((Ls.2 (i + 1).toNatClampNeg)) ((Ls.2 (i + 2).toNatClampNeg)) n v := hT
  have J : LI Ls (x_setc h1 (x_ce h + 2) (x_so h + 12)) F := I1.setc
  show x_At n0 oa D p l e R s m args below meth c xm_law h0 (x_MQ n0 oa D s args below xm_law h0 ZL) 304 ([.inr (.inr (10, 1)), .inr (.inr (7, 1)), .inr (.inr (8, 1)), .inr (.inr (21, 1)), .inl i, w5, w6], [.inl n], (x_setc h1 (x_ce h + 2) (x_so h + 12)))
  have e1 : x_ce (x_setc h1 (x_ce h + 2) (x_so h + 12)) = x_ce h + 2 := rfl
  have e2 : x_so (x_setc h1 (x_ce h + 2) (x_so h + 12)) = x_so h + 12 := rfl
  generalize x_setc h1 (x_ce h + 2) (x_so h + 12) = g at J hT e1 e2 ⊢
  refine a_blk (N := 2000000000000) C oL_304 ?_
  refine q_istore (Nat.le_of_ble_eq_true rfl) ?_
  show x_seq _ _ _ _ ([.inr (.inr (10, 1)), .inr (.inr (7, 1)), .inr (.inr (8, 1)), .inr (.inr (21, 1)), .inl i, .inl n, w6], [], g)
  refine q_aload rfl (by decide) ?_
  refine q_scr rfl rfl rfl (k := 1) (by decide) J.2.2.2.2.2.2 hi hL ?_
  refine q_scr rfl rfl rfl (k := 2) (by decide) J.2.2.2.2.2.2 hi hL ?_
  refine q_callv rfl (by decide) (j := 1) ⟨Nat.le_refl 1, Nat.le_of_eq J.2.1.1.symm⟩ (Nat.le_of_ble_eq_true rfl) (Nat.le_of_ble_eq_true rfl) (by omega) (by omega) ?_
  refine rc_lift (x1 := (Ls.2 (i + 1).toNatClampNeg)) (x2 := (Ls.2 (i + 2).toNatClampNeg)) J hT hv (fun o F2 hM hr => ?_)
  obtain ⟨rfl, -, cR⟩ := hr
  show x_seq _ _ _ _ ([.inr (.inr (10, 1)), .inr (.inr (7, 1)), .inr (.inr (8, 1)), .inr (.inr (21, 1)), .inl i, .inl n, w6], [], x_setc (mh (x_setc g 0 0) F2) (x_ce g + 0) (x_so g + 0))
  have J2 : LI Ls (x_setc (mh (x_setc g 0 0) F2) (x_ce g + 0) (x_so g + 0)) F2 := ((J.setc (a := 0) (b := 0)).rf hM).setc
  have cR : ∃ v' : vS × Nat, kP v' v' (x_setc (mh (x_setc g 0 0) F2) (x_ce g + 0) (x_so g + 0)) ∧ v'.2 ≤ v.2 + 1 := cR
  have e3 : x_ce (x_setc (mh (x_setc g 0 0) F2) (x_ce g + 0) (x_so g + 0)) = x_ce g + 0 := rfl
  have e4 : x_so (x_setc (mh (x_setc g 0 0) F2) (x_ce g + 0) (x_so g + 0)) = x_so g + 0 := rfl
  generalize x_setc (mh (x_setc g 0 0) F2) (x_ce g + 0) (x_so g + 0) = g2 at J2 cR e3 e4 ⊢
  refine q_goto ?_
  obtain ⟨v9, K9, b9⟩ := cR
  exact nxt (.inl n) (w6) _ _ v9 J2 K9 b9 (by omega) (by omega)
theorem lk_hang {h : xH} {F : xF} {v : vS × Nat} {i : Int32} {w5 w6 : xV} (C : x_Cx n0 oa D xm_law h0 p l R s m args meth c) (hnc : va_Nc (x_en 2) (x_en 1) s) (I : LI Ls h F) (K : kP v v h) (hv : v.2 ≤ 600) (hi : 0 ≤ i.toInt ∧ i.toInt + 5 < (Ls.1 : Int)) (hL : Ls.1 ≤ 3072) (hce : x_ce h ≤ 600000) (hso : x_so h ≤ 7000000)
    (nxt : ∀ (w5 w6 : xV) (h' : xH) (F' : xF) (v' : vS × Nat), LI Ls h' F' → kP v' v' h' → v'.2 ≤ v.2 + 1 → x_ce h' ≤ x_ce h + 7 → x_so h' ≤ x_so h + 55 → x_At n0 oa D p l e R s m args below meth c xm_law h0 (x_MQ n0 oa D s args below xm_law h0 ZL) 883 ([.inr (.inr (10, 1)), .inr (.inr (7, 1)), .inr (.inr (8, 1)), .inr (.inr (21, 1)), .inl i, w5, w6], [], h')) :
    x_At n0 oa D p l e R s m args below meth c xm_law h0 (x_MQ n0 oa D s args below xm_law h0 ZL) 325 ([.inr (.inr (10, 1)), .inr (.inr (7, 1)), .inr (.inr (8, 1)), .inr (.inr (21, 1)), .inl i, w5, w6], [], h) := by
  refine a_blk (N := 2000000000000) C oL_325 ?_
  refine q_aload rfl (by decide) ?_
  refine q_scr rfl rfl rfl (k := 1) (by decide) I.2.2.2.2.2.2 hi hL ?_
  refine q_scr rfl rfl rfl (k := 2) (by decide) I.2.2.2.2.2.2 hi hL ?_
  refine q_goto ?_
  show x_At n0 oa D p l e R s m args below meth c xm_law h0 (x_MQ n0 oa D s args below xm_law h0 ZL) 338 ([.inr (.inr (10, 1)), .inr (.inr (7, 1)), .inr (.inr (8, 1)), .inr (.inr (21, 1)), .inl i, w5, w6], [.inl (Ls.2 (i + 2).toNatClampNeg), .inl (Ls.2 (i + 1).toNatClampNeg), .inr (.inr (7, 1))], h)
  refine a_callw (as9 := [.inr (.inr (7, 1)), .inl (Ls.2 (i + 1).toNatClampNeg), .inl (Ls.2 (i + 2).toNatClampNeg)]) (rest := []) C hnc (lc_hang I K) (fun k h1 hz => by obtain ⟨n9, hn, -⟩ := hz; cases hn) wl_536 wl_534 wl_535 wl_54 (by show _ ≠ _ ∧ _ ≠ _ ∧ _ = some 3; decide +kernel) (Nat.le_of_ble_eq_true rfl) (Nat.le_of_ble_eq_true rfl) (by decide +kernel) (Nat.le_of_ble_eq_true rfl) (by show x_ce h + 2 ≤ 601024; omega) (by show x_so h + 12 ≤ 7293033; omega) (fun v9 h1 hz => ?_)
  obtain ⟨n, hn, I1, hT⟩ := hz
  cases hn
  have hT : cz_hang (x_setc h1 (x_ce h + 2) (x_so h + 12)) ((Ls.2 (i + 1).toNatClampNeg)) ((Ls.2 (i + 2).toNatClampNeg)) n v := hT
  have J : LI Ls (x_setc h1 (x_ce h + 2) (x_so h + 12)) F := I1.setc
  show x_At n0 oa D p l e R s m args below meth c xm_law h0 (x_MQ n0 oa D s args below xm_law h0 ZL) 341 ([.inr (.inr (10, 1)), .inr (.inr (7, 1)), .inr (.inr (8, 1)), .inr (.inr (21, 1)), .inl i, w5, w6], [.inl n], (x_setc h1 (x_ce h + 2) (x_so h + 12)))
  have e1 : x_ce (x_setc h1 (x_ce h + 2) (x_so h + 12)) = x_ce h + 2 := rfl
  have e2 : x_so (x_setc h1 (x_ce h + 2) (x_so h + 12)) = x_so h + 12 := rfl
  generalize x_setc h1 (x_ce h + 2) (x_so h + 12) = g at J hT e1 e2 ⊢
  refine a_blk (N := 2000000000000) C oL_341 ?_
  refine q_istore (Nat.le_of_ble_eq_true rfl) ?_
  show x_seq _ _ _ _ ([.inr (.inr (10, 1)), .inr (.inr (7, 1)), .inr (.inr (8, 1)), .inr (.inr (21, 1)), .inl i, .inl n, w6], [], g)
  refine q_aload rfl (by decide) ?_
  refine q_scr rfl rfl rfl (k := 1) (by decide) J.2.2.2.2.2.2 hi hL ?_
  refine q_scr rfl rfl rfl (k := 2) (by decide) J.2.2.2.2.2.2 hi hL ?_
  refine q_callv rfl (by decide) (j := 1) ⟨Nat.le_refl 1, Nat.le_of_eq J.2.1.1.symm⟩ (Nat.le_of_ble_eq_true rfl) (Nat.le_of_ble_eq_true rfl) (by omega) (by omega) ?_
  refine rc_hang (x1 := (Ls.2 (i + 1).toNatClampNeg)) (x2 := (Ls.2 (i + 2).toNatClampNeg)) J hT hv (fun o F2 hM hr => ?_)
  obtain ⟨rfl, -, cR⟩ := hr
  show x_seq _ _ _ _ ([.inr (.inr (10, 1)), .inr (.inr (7, 1)), .inr (.inr (8, 1)), .inr (.inr (21, 1)), .inl i, .inl n, w6], [], x_setc (mh (x_setc g 0 0) F2) (x_ce g + 0) (x_so g + 0))
  have J2 : LI Ls (x_setc (mh (x_setc g 0 0) F2) (x_ce g + 0) (x_so g + 0)) F2 := ((J.setc (a := 0) (b := 0)).rf hM).setc
  have cR : ∃ v' : vS × Nat, kP v' v' (x_setc (mh (x_setc g 0 0) F2) (x_ce g + 0) (x_so g + 0)) ∧ v'.2 ≤ v.2 + 1 := cR
  have e3 : x_ce (x_setc (mh (x_setc g 0 0) F2) (x_ce g + 0) (x_so g + 0)) = x_ce g + 0 := rfl
  have e4 : x_so (x_setc (mh (x_setc g 0 0) F2) (x_ce g + 0) (x_so g + 0)) = x_so g + 0 := rfl
  generalize x_setc (mh (x_setc g 0 0) F2) (x_ce g + 0) (x_so g + 0) = g2 at J2 cR e3 e4 ⊢
  refine q_goto ?_
  obtain ⟨v9, K9, b9⟩ := cR
  exact nxt (.inl n) (w6) _ _ v9 J2 K9 b9 (by omega) (by omega)
theorem lk_dial {h : xH} {F : xF} {v : vS × Nat} {i : Int32} {w5 w6 : xV} (C : x_Cx n0 oa D xm_law h0 p l R s m args meth c) (hnc : va_Nc (x_en 2) (x_en 1) s) (I : LI Ls h F) (K : kP v v h) (hv : v.2 ≤ 600) (hi : 0 ≤ i.toInt ∧ i.toInt + 5 < (Ls.1 : Int)) (hL : Ls.1 ≤ 3072) (hce : x_ce h ≤ 600000) (hso : x_so h ≤ 7000000)
    (nxt : ∀ (w5 w6 : xV) (h' : xH) (F' : xF) (v' : vS × Nat), LI Ls h' F' → kP v' v' h' → v'.2 ≤ v.2 + 1 → x_ce h' ≤ x_ce h + 7 → x_so h' ≤ x_so h + 55 → x_At n0 oa D p l e R s m args below meth c xm_law h0 (x_MQ n0 oa D s args below xm_law h0 ZL) 883 ([.inr (.inr (10, 1)), .inr (.inr (7, 1)), .inr (.inr (8, 1)), .inr (.inr (21, 1)), .inl i, w5, w6], [], h')) :
    x_At n0 oa D p l e R s m args below meth c xm_law h0 (x_MQ n0 oa D s args below xm_law h0 ZL) 362 ([.inr (.inr (10, 1)), .inr (.inr (7, 1)), .inr (.inr (8, 1)), .inr (.inr (21, 1)), .inl i, w5, w6], [], h) := by
  refine a_blk (N := 2000000000000) C oL_362 ?_
  refine q_aload rfl (by decide) ?_
  refine q_scr rfl rfl rfl (k := 1) (by decide) I.2.2.2.2.2.2 hi hL ?_
  refine q_scr rfl rfl rfl (k := 2) (by decide) I.2.2.2.2.2.2 hi hL ?_
  refine q_scr rfl rfl rfl (k := 3) (by decide) I.2.2.2.2.2.2 hi hL ?_
  refine q_aload rfl (by decide) ?_
  refine q_goto ?_
  show x_At n0 oa D p l e R s m args below meth c xm_law h0 (x_MQ n0 oa D s args below xm_law h0 ZL) 382 ([.inr (.inr (10, 1)), .inr (.inr (7, 1)), .inr (.inr (8, 1)), .inr (.inr (21, 1)), .inl i, w5, w6], [.inr (.inr (21, 1)), .inl (Ls.2 (i + 3).toNatClampNeg), .inl (Ls.2 (i + 2).toNatClampNeg), .inl (Ls.2 (i + 1).toNatClampNeg), .inr (.inr (7, 1))], h)
  refine a_callw (as9 := [.inr (.inr (7, 1)), .inl (Ls.2 (i + 1).toNatClampNeg), .inl (Ls.2 (i + 2).toNatClampNeg), .inl (Ls.2 (i + 3).toNatClampNeg), .inr (.inr (21, 1))]) (rest := []) C hnc (lc_dial I K) (fun k h1 hz => by obtain ⟨n9, hn, -⟩ := hz; cases hn) wl_564 wl_562 wl_563 wl_54 (by show _ ≠ _ ∧ _ ≠ _ ∧ _ = some 5; decide +kernel) (Nat.le_of_ble_eq_true rfl) (Nat.le_of_ble_eq_true rfl) (by decide +kernel) (Nat.le_of_ble_eq_true rfl) (by show x_ce h + 3 ≤ 601024; omega) (by show x_so h + 18 ≤ 7293033; omega) (fun v9 h1 hz => ?_)
  obtain ⟨n, hn, I1, hT⟩ := hz
  cases hn
  have hT : cz_dial (x_setc h1 (x_ce h + 3) (x_so h + 18)) ((Ls.2 (i + 1).toNatClampNeg)) ((Ls.2 (i + 2).toNatClampNeg)) ((Ls.2 (i + 3).toNatClampNeg)) n v := hT
  have J : LI Ls (x_setc h1 (x_ce h + 3) (x_so h + 18)) F := I1.setc
  show x_At n0 oa D p l e R s m args below meth c xm_law h0 (x_MQ n0 oa D s args below xm_law h0 ZL) 385 ([.inr (.inr (10, 1)), .inr (.inr (7, 1)), .inr (.inr (8, 1)), .inr (.inr (21, 1)), .inl i, w5, w6], [.inl n], (x_setc h1 (x_ce h + 3) (x_so h + 18)))
  have e1 : x_ce (x_setc h1 (x_ce h + 3) (x_so h + 18)) = x_ce h + 3 := rfl
  have e2 : x_so (x_setc h1 (x_ce h + 3) (x_so h + 18)) = x_so h + 18 := rfl
  generalize x_setc h1 (x_ce h + 3) (x_so h + 18) = g at J hT e1 e2 ⊢
  refine a_blk (N := 2000000000000) C oL_385 ?_
  refine q_istore (Nat.le_of_ble_eq_true rfl) ?_
  show x_seq _ _ _ _ ([.inr (.inr (10, 1)), .inr (.inr (7, 1)), .inr (.inr (8, 1)), .inr (.inr (21, 1)), .inl i, .inl n, w6], [], g)
  refine q_aload rfl (by decide) ?_
  refine q_scr rfl rfl rfl (k := 1) (by decide) J.2.2.2.2.2.2 hi hL ?_
  refine q_scr rfl rfl rfl (k := 2) (by decide) J.2.2.2.2.2.2 hi hL ?_
  refine q_scr rfl rfl rfl (k := 3) (by decide) J.2.2.2.2.2.2 hi hL ?_
  refine q_callv rfl (by decide) (j := 1) ⟨Nat.le_refl 1, Nat.le_of_eq J.2.1.1.symm⟩ (Nat.le_of_ble_eq_true rfl) (Nat.le_of_ble_eq_true rfl) (by omega) (by omega) ?_
  refine rc_dial (x1 := (Ls.2 (i + 1).toNatClampNeg)) (x2 := (Ls.2 (i + 2).toNatClampNeg)) (x3 := (Ls.2 (i + 3).toNatClampNeg)) J hT hv (fun o F2 hM hr => ?_)
  obtain ⟨n2, rfl, -, -, cR⟩ := hr
  show x_seq _ _ _ _ ([.inr (.inr (10, 1)), .inr (.inr (7, 1)), .inr (.inr (8, 1)), .inr (.inr (21, 1)), .inl i, .inl n, w6], [.inl n2], x_setc (mh (x_setc g 0 0) F2) (x_ce g + 0) (x_so g + 0))
  have J2 : LI Ls (x_setc (mh (x_setc g 0 0) F2) (x_ce g + 0) (x_so g + 0)) F2 := ((J.setc (a := 0) (b := 0)).rf hM).setc
  have cR : ∃ v' : vS × Nat, kP v' v' (x_setc (mh (x_setc g 0 0) F2) (x_ce g + 0) (x_so g + 0)) ∧ v'.2 ≤ v.2 + 1 := cR
  have e3 : x_ce (x_setc (mh (x_setc g 0 0) F2) (x_ce g + 0) (x_so g + 0)) = x_ce g + 0 := rfl
  have e4 : x_so (x_setc (mh (x_setc g 0 0) F2) (x_ce g + 0) (x_so g + 0)) = x_so g + 0 := rfl
  generalize x_setc (mh (x_setc g 0 0) F2) (x_ce g + 0) (x_so g + 0) = g2 at J2 cR e3 e4 ⊢
  refine q_istore (Nat.le_of_ble_eq_true rfl) ?_
  show x_seq _ _ _ _ ([.inr (.inr (10, 1)), .inr (.inr (7, 1)), .inr (.inr (8, 1)), .inr (.inr (21, 1)), .inl i, .inl n, .inl n2], [], g2)
  refine q_goto ?_
  obtain ⟨v9, K9, b9⟩ := cR
  exact nxt (.inl n) (.inl n2) _ _ v9 J2 K9 b9 (by omega) (by omega)
theorem lk_tick {h : xH} {F : xF} {v : vS × Nat} {i : Int32} {w5 w6 : xV} (C : x_Cx n0 oa D xm_law h0 p l R s m args meth c) (hnc : va_Nc (x_en 2) (x_en 1) s) (I : LI Ls h F) (K : kP v v h) (hv : v.2 ≤ 600) (hi : 0 ≤ i.toInt ∧ i.toInt + 5 < (Ls.1 : Int)) (hL : Ls.1 ≤ 3072) (hce : x_ce h ≤ 600000) (hso : x_so h ≤ 7000000)
    (nxt : ∀ (w5 w6 : xV) (h' : xH) (F' : xF) (v' : vS × Nat), LI Ls h' F' → kP v' v' h' → v'.2 ≤ v.2 + 1 → x_ce h' ≤ x_ce h + 7 → x_so h' ≤ x_so h + 55 → x_At n0 oa D p l e R s m args below meth c xm_law h0 (x_MQ n0 oa D s args below xm_law h0 ZL) 883 ([.inr (.inr (10, 1)), .inr (.inr (7, 1)), .inr (.inr (8, 1)), .inr (.inr (21, 1)), .inl i, w5, w6], [], h')) :
    x_At n0 oa D p l e R s m args below meth c xm_law h0 (x_MQ n0 oa D s args below xm_law h0 ZL) 414 ([.inr (.inr (10, 1)), .inr (.inr (7, 1)), .inr (.inr (8, 1)), .inr (.inr (21, 1)), .inl i, w5, w6], [], h) := by
  refine a_blk (N := 2000000000000) C oL_414 ?_
  refine q_aload rfl (by decide) ?_
  refine q_scr rfl rfl rfl (k := 1) (by decide) I.2.2.2.2.2.2 hi hL ?_
  refine q_goto ?_
  show x_At n0 oa D p l e R s m args below meth c xm_law h0 (x_MQ n0 oa D s args below xm_law h0 ZL) 421 ([.inr (.inr (10, 1)), .inr (.inr (7, 1)), .inr (.inr (8, 1)), .inr (.inr (21, 1)), .inl i, w5, w6], [.inl (Ls.2 (i + 1).toNatClampNeg), .inr (.inr (7, 1))], h)
  refine a_callw (as9 := [.inr (.inr (7, 1)), .inl (Ls.2 (i + 1).toNatClampNeg)]) (rest := []) C hnc (lc_tick I K) (fun k h1 hz => by obtain ⟨n9, hn, -⟩ := hz; cases hn) wl_591 wl_589 wl_590 wl_54 (by show _ ≠ _ ∧ _ ≠ _ ∧ _ = some 2; decide +kernel) (Nat.le_of_ble_eq_true rfl) (Nat.le_of_ble_eq_true rfl) (by decide +kernel) (Nat.le_of_ble_eq_true rfl) (by show x_ce h + 1 ≤ 601024; omega) (by show x_so h + 6 ≤ 7293033; omega) (fun v9 h1 hz => ?_)
  obtain ⟨n, hn, I1, hT⟩ := hz
  cases hn
  have hT : cz_tick (x_setc h1 (x_ce h + 1) (x_so h + 6)) ((Ls.2 (i + 1).toNatClampNeg)) n v := hT
  have J : LI Ls (x_setc h1 (x_ce h + 1) (x_so h + 6)) F := I1.setc
  show x_At n0 oa D p l e R s m args below meth c xm_law h0 (x_MQ n0 oa D s args below xm_law h0 ZL) 424 ([.inr (.inr (10, 1)), .inr (.inr (7, 1)), .inr (.inr (8, 1)), .inr (.inr (21, 1)), .inl i, w5, w6], [.inl n], (x_setc h1 (x_ce h + 1) (x_so h + 6)))
  have e1 : x_ce (x_setc h1 (x_ce h + 1) (x_so h + 6)) = x_ce h + 1 := rfl
  have e2 : x_so (x_setc h1 (x_ce h + 1) (x_so h + 6)) = x_so h + 6 := rfl
  generalize x_setc h1 (x_ce h + 1) (x_so h + 6) = g at J hT e1 e2 ⊢
  refine a_blk (N := 2000000000000) C oL_424 ?_
  refine q_istore (Nat.le_of_ble_eq_true rfl) ?_
  show x_seq _ _ _ _ ([.inr (.inr (10, 1)), .inr (.inr (7, 1)), .inr (.inr (8, 1)), .inr (.inr (21, 1)), .inl i, .inl n, w6], [], g)
  refine q_aload rfl (by decide) ?_
  refine q_scr rfl rfl rfl (k := 1) (by decide) J.2.2.2.2.2.2 hi hL ?_
  refine q_callv rfl (by decide) (j := 1) ⟨Nat.le_refl 1, Nat.le_of_eq J.2.1.1.symm⟩ (Nat.le_of_ble_eq_true rfl) (Nat.le_of_ble_eq_true rfl) (by omega) (by omega) ?_
  refine rc_tick (x1 := (Ls.2 (i + 1).toNatClampNeg)) J hT hv (fun o F2 hM hr => ?_)
  obtain ⟨rfl, -, cR⟩ := hr
  show x_seq _ _ _ _ ([.inr (.inr (10, 1)), .inr (.inr (7, 1)), .inr (.inr (8, 1)), .inr (.inr (21, 1)), .inl i, .inl n, w6], [], x_setc (mh (x_setc g 0 0) F2) (x_ce g + 0) (x_so g + 0))
  have J2 : LI Ls (x_setc (mh (x_setc g 0 0) F2) (x_ce g + 0) (x_so g + 0)) F2 := ((J.setc (a := 0) (b := 0)).rf hM).setc
  have cR : ∃ v' : vS × Nat, kP v' v' (x_setc (mh (x_setc g 0 0) F2) (x_ce g + 0) (x_so g + 0)) ∧ v'.2 ≤ v.2 + 1 := cR
  have e3 : x_ce (x_setc (mh (x_setc g 0 0) F2) (x_ce g + 0) (x_so g + 0)) = x_ce g + 0 := rfl
  have e4 : x_so (x_setc (mh (x_setc g 0 0) F2) (x_ce g + 0) (x_so g + 0)) = x_so g + 0 := rfl
  generalize x_setc (mh (x_setc g 0 0) F2) (x_ce g + 0) (x_so g + 0) = g2 at J2 cR e3 e4 ⊢
  refine q_goto ?_
  obtain ⟨v9, K9, b9⟩ := cR
  exact nxt (.inl n) (w6) _ _ v9 J2 K9 b9 (by omega) (by omega)
theorem lk_out {h : xH} {F : xF} {v : vS × Nat} {i : Int32} {w5 w6 : xV} (C : x_Cx n0 oa D xm_law h0 p l R s m args meth c) (hnc : va_Nc (x_en 2) (x_en 1) s) (I : LI Ls h F) (K : kP v v h) (hv : v.2 ≤ 600) (hi : 0 ≤ i.toInt ∧ i.toInt + 5 < (Ls.1 : Int)) (hL : Ls.1 ≤ 3072) (hce : x_ce h ≤ 600000) (hso : x_so h ≤ 7000000)
    (nxt : ∀ (w5 w6 : xV) (h' : xH) (F' : xF) (v' : vS × Nat), LI Ls h' F' → kP v' v' h' → v'.2 ≤ v.2 + 1 → x_ce h' ≤ x_ce h + 7 → x_so h' ≤ x_so h + 55 → x_At n0 oa D p l e R s m args below meth c xm_law h0 (x_MQ n0 oa D s args below xm_law h0 ZL) 883 ([.inr (.inr (10, 1)), .inr (.inr (7, 1)), .inr (.inr (8, 1)), .inr (.inr (21, 1)), .inl i, w5, w6], [], h')) :
    x_At n0 oa D p l e R s m args below meth c xm_law h0 (x_MQ n0 oa D s args below xm_law h0 ZL) 439 ([.inr (.inr (10, 1)), .inr (.inr (7, 1)), .inr (.inr (8, 1)), .inr (.inr (21, 1)), .inl i, w5, w6], [], h) := by
  refine a_blk (N := 2000000000000) C oL_439 ?_
  refine q_aload rfl (by decide) ?_
  refine q_scr rfl rfl rfl (k := 1) (by decide) I.2.2.2.2.2.2 hi hL ?_
  refine q_scr rfl rfl rfl (k := 2) (by decide) I.2.2.2.2.2.2 hi hL ?_
  have kB9 : ∀ z1 : Int32, (0 ≤ z1.toInt ∧ z1.toInt ≤ 1) → ((z1.toInt = 0 ∧ ((Ls.2 (i + 2).toNatClampNeg)).toInt = 0) ∨ (z1.toInt = 1 ∧ ¬ ((Ls.2 (i + 2).toNatClampNeg)).toInt = 0)) → x_At n0 oa D p l e R s m args below meth c xm_law h0 (x_MQ n0 oa D s args below xm_law h0 ZL) 460 ([.inr (.inr (10, 1)), .inr (.inr (7, 1)), .inr (.inr (8, 1)), .inr (.inr (21, 1)), .inl i, w5, w6], [.inl z1, .inl (Ls.2 (i + 1).toNatClampNeg), .inr (.inr (7, 1))], h) := by
    intro z1 hz9z1 hyz1
    refine a_blk (N := 2000000000000) C oL_460 ?_
    refine q_aload rfl (by decide) ?_
    refine q_goto ?_
    show x_At n0 oa D p l e R s m args below meth c xm_law h0 (x_MQ n0 oa D s args below xm_law h0 ZL) 461 ([.inr (.inr (10, 1)), .inr (.inr (7, 1)), .inr (.inr (8, 1)), .inr (.inr (21, 1)), .inl i, w5, w6], [.inr (.inr (21, 1)), .inl z1, .inl (Ls.2 (i + 1).toNatClampNeg), .inr (.inr (7, 1))], h)
    refine a_callw (as9 := [.inr (.inr (7, 1)), .inl (Ls.2 (i + 1).toNatClampNeg), .inl z1, .inr (.inr (21, 1))]) (rest := []) C hnc (lc_out I K (by omega)) (fun k h1 hz => by obtain ⟨n9, hn, -⟩ := hz; cases hn) wl_707 wl_705 wl_706 wl_54 (by show _ ≠ _ ∧ _ ≠ _ ∧ _ = some 4; decide +kernel) (Nat.le_of_ble_eq_true rfl) (Nat.le_of_ble_eq_true rfl) (by decide +kernel) (Nat.le_of_ble_eq_true rfl) (by show x_ce h + 1 ≤ 601024; omega) (by show x_so h + 6 ≤ 7293033; omega) (fun v9 h1 hz => ?_)
    obtain ⟨n, hn, I1, hT⟩ := hz
    cases hn
    have hT : cz_out (x_setc h1 (x_ce h + 1) (x_so h + 6)) ((Ls.2 (i + 1).toNatClampNeg)) (z1) n v := hT
    have J : LI Ls (x_setc h1 (x_ce h + 1) (x_so h + 6)) F := I1.setc
    show x_At n0 oa D p l e R s m args below meth c xm_law h0 (x_MQ n0 oa D s args below xm_law h0 ZL) 464 ([.inr (.inr (10, 1)), .inr (.inr (7, 1)), .inr (.inr (8, 1)), .inr (.inr (21, 1)), .inl i, w5, w6], [.inl n], (x_setc h1 (x_ce h + 1) (x_so h + 6)))
    have e1 : x_ce (x_setc h1 (x_ce h + 1) (x_so h + 6)) = x_ce h + 1 := rfl
    have e2 : x_so (x_setc h1 (x_ce h + 1) (x_so h + 6)) = x_so h + 6 := rfl
    generalize x_setc h1 (x_ce h + 1) (x_so h + 6) = g at J hT e1 e2 ⊢
    refine a_blk (N := 2000000000000) C oL_464 ?_
    refine q_istore (Nat.le_of_ble_eq_true rfl) ?_
    show x_seq _ _ _ _ ([.inr (.inr (10, 1)), .inr (.inr (7, 1)), .inr (.inr (8, 1)), .inr (.inr (21, 1)), .inl i, .inl n, w6], [], g)
    refine q_aload rfl (by decide) ?_
    refine q_scr rfl rfl rfl (k := 1) (by decide) J.2.2.2.2.2.2 hi hL ?_
    refine q_scr rfl rfl rfl (k := 2) (by decide) J.2.2.2.2.2.2 hi hL ?_
    have kB9 : ∀ z2 : Int32, (0 ≤ z2.toInt ∧ z2.toInt ≤ 1) → ((z2.toInt = 0 ∧ ((Ls.2 (i + 2).toNatClampNeg)).toInt = 0) ∨ (z2.toInt = 1 ∧ ¬ ((Ls.2 (i + 2).toNatClampNeg)).toInt = 0)) → x_At n0 oa D p l e R s m args below meth c xm_law h0 (x_MQ n0 oa D s args below xm_law h0 ZL) 487 ([.inr (.inr (10, 1)), .inr (.inr (7, 1)), .inr (.inr (8, 1)), .inr (.inr (21, 1)), .inl i, .inl n, w6], [.inl z2, .inl (Ls.2 (i + 1).toNatClampNeg), .inr (.inr (8, 1))], g) := by
      intro z2 hz9z2 hyz2
      rw [show z2 = z1 from i32_eq.mpr (by omega)]
      refine a_blk (N := 2000000000000) C oL_487 ?_
      refine q_callv rfl (by decide) (j := 1) ⟨Nat.le_refl 1, Nat.le_of_eq J.2.1.1.symm⟩ (Nat.le_of_ble_eq_true rfl) (Nat.le_of_ble_eq_true rfl) (by omega) (by omega) ?_
      refine rc_out (x1 := (Ls.2 (i + 1).toNatClampNeg)) (x2 := z1) J (by omega) hT hv (fun o F2 hM hr => ?_)
      obtain ⟨n2, rfl, -, -, cR⟩ := hr
      show x_seq _ _ _ _ ([.inr (.inr (10, 1)), .inr (.inr (7, 1)), .inr (.inr (8, 1)), .inr (.inr (21, 1)), .inl i, .inl n, w6], [.inl n2], x_setc (mh (x_setc g 0 0) F2) (x_ce g + 0) (x_so g + 0))
      have J2 : LI Ls (x_setc (mh (x_setc g 0 0) F2) (x_ce g + 0) (x_so g + 0)) F2 := ((J.setc (a := 0) (b := 0)).rf hM).setc
      have cR : ∃ v' : vS × Nat, kP v' v' (x_setc (mh (x_setc g 0 0) F2) (x_ce g + 0) (x_so g + 0)) ∧ v'.2 ≤ v.2 + 1 := cR
      have e3 : x_ce (x_setc (mh (x_setc g 0 0) F2) (x_ce g + 0) (x_so g + 0)) = x_ce g + 0 := rfl
      have e4 : x_so (x_setc (mh (x_setc g 0 0) F2) (x_ce g + 0) (x_so g + 0)) = x_so g + 0 := rfl
      generalize x_setc (mh (x_setc g 0 0) F2) (x_ce g + 0) (x_so g + 0) = g2 at J2 cR e3 e4 ⊢
      refine q_istore (Nat.le_of_ble_eq_true rfl) ?_
      show x_seq _ _ _ _ ([.inr (.inr (10, 1)), .inr (.inr (7, 1)), .inr (.inr (8, 1)), .inr (.inr (21, 1)), .inl i, .inl n, .inl n2], [], g2)
      refine q_goto ?_
      obtain ⟨v9, K9, b9⟩ := cR
      exact nxt (.inl n) (.inl n2) _ _ v9 J2 K9 b9 (by omega) (by omega)
    refine v_if_eq (fun d => ?_) (fun d => ?_)
    · refine a_blk (N := 2000000000000) C oL_486 ?_
      exact q_iconst (q_goto (kB9 0 (by decide) (Or.inl ⟨rfl, d⟩)))
    · exact q_iconst (q_goto (kB9 1 (by decide) (Or.inr ⟨rfl, d⟩)))
  refine v_if_eq (fun d => ?_) (fun d => ?_)
  · refine a_blk (N := 2000000000000) C oL_459 ?_
    exact q_iconst (q_goto (kB9 0 (by decide) (Or.inl ⟨rfl, d⟩)))
  · exact q_iconst (q_goto (kB9 1 (by decide) (Or.inr ⟨rfl, d⟩)))
theorem lk_hold {h : xH} {F : xF} {v : vS × Nat} {i : Int32} {w5 w6 : xV} (C : x_Cx n0 oa D xm_law h0 p l R s m args meth c) (hnc : va_Nc (x_en 2) (x_en 1) s) (I : LI Ls h F) (K : kP v v h) (hv : v.2 ≤ 600) (hi : 0 ≤ i.toInt ∧ i.toInt + 5 < (Ls.1 : Int)) (hL : Ls.1 ≤ 3072) (hce : x_ce h ≤ 600000) (hso : x_so h ≤ 7000000)
    (nxt : ∀ (w5 w6 : xV) (h' : xH) (F' : xF) (v' : vS × Nat), LI Ls h' F' → kP v' v' h' → v'.2 ≤ v.2 + 1 → x_ce h' ≤ x_ce h + 7 → x_so h' ≤ x_so h + 55 → x_At n0 oa D p l e R s m args below meth c xm_law h0 (x_MQ n0 oa D s args below xm_law h0 ZL) 883 ([.inr (.inr (10, 1)), .inr (.inr (7, 1)), .inr (.inr (8, 1)), .inr (.inr (21, 1)), .inl i, w5, w6], [], h')) :
    x_At n0 oa D p l e R s m args below meth c xm_law h0 (x_MQ n0 oa D s args below xm_law h0 ZL) 495 ([.inr (.inr (10, 1)), .inr (.inr (7, 1)), .inr (.inr (8, 1)), .inr (.inr (21, 1)), .inl i, w5, w6], [], h) := by
  refine a_blk (N := 2000000000000) C oL_495 ?_
  refine q_aload rfl (by decide) ?_
  refine q_scr rfl rfl rfl (k := 1) (by decide) I.2.2.2.2.2.2 hi hL ?_
  refine q_scr rfl rfl rfl (k := 2) (by decide) I.2.2.2.2.2.2 hi hL ?_
  refine q_scr rfl rfl rfl (k := 3) (by decide) I.2.2.2.2.2.2 hi hL ?_
  have kB9 : ∀ z1 : Int32, (0 ≤ z1.toInt ∧ z1.toInt ≤ 1) → ((z1.toInt = 0 ∧ ((Ls.2 (i + 3).toNatClampNeg)).toInt = 0) ∨ (z1.toInt = 1 ∧ ¬ ((Ls.2 (i + 3).toNatClampNeg)).toInt = 0)) → x_At n0 oa D p l e R s m args below meth c xm_law h0 (x_MQ n0 oa D s args below xm_law h0 ZL) 522 ([.inr (.inr (10, 1)), .inr (.inr (7, 1)), .inr (.inr (8, 1)), .inr (.inr (21, 1)), .inl i, w5, w6], [.inl z1, .inl (Ls.2 (i + 2).toNatClampNeg), .inl (Ls.2 (i + 1).toNatClampNeg), .inr (.inr (7, 1))], h) := by
    intro z1 hz9z1 hyz1
    refine a_blk (N := 2000000000000) C oL_522 ?_
    refine q_aload rfl (by decide) ?_
    refine q_goto ?_
    show x_At n0 oa D p l e R s m args below meth c xm_law h0 (x_MQ n0 oa D s args below xm_law h0 ZL) 523 ([.inr (.inr (10, 1)), .inr (.inr (7, 1)), .inr (.inr (8, 1)), .inr (.inr (21, 1)), .inl i, w5, w6], [.inr (.inr (21, 1)), .inl z1, .inl (Ls.2 (i + 2).toNatClampNeg), .inl (Ls.2 (i + 1).toNatClampNeg), .inr (.inr (7, 1))], h)
    refine a_callw (as9 := [.inr (.inr (7, 1)), .inl (Ls.2 (i + 1).toNatClampNeg), .inl (Ls.2 (i + 2).toNatClampNeg), .inl z1, .inr (.inr (21, 1))]) (rest := []) C hnc (lc_hold I K (by omega)) (fun k h1 hz => by obtain ⟨n9, hn, -⟩ := hz; cases hn) wl_714 wl_712 wl_713 wl_54 (by show _ ≠ _ ∧ _ ≠ _ ∧ _ = some 5; decide +kernel) (Nat.le_of_ble_eq_true rfl) (Nat.le_of_ble_eq_true rfl) (by decide +kernel) (Nat.le_of_ble_eq_true rfl) (by show x_ce h + 1 ≤ 601024; omega) (by show x_so h + 6 ≤ 7293033; omega) (fun v9 h1 hz => ?_)
    obtain ⟨n, hn, I1, hT⟩ := hz
    cases hn
    have hT : cz_hold (x_setc h1 (x_ce h + 1) (x_so h + 6)) ((Ls.2 (i + 1).toNatClampNeg)) ((Ls.2 (i + 2).toNatClampNeg)) (z1) n v := hT
    have J : LI Ls (x_setc h1 (x_ce h + 1) (x_so h + 6)) F := I1.setc
    show x_At n0 oa D p l e R s m args below meth c xm_law h0 (x_MQ n0 oa D s args below xm_law h0 ZL) 526 ([.inr (.inr (10, 1)), .inr (.inr (7, 1)), .inr (.inr (8, 1)), .inr (.inr (21, 1)), .inl i, w5, w6], [.inl n], (x_setc h1 (x_ce h + 1) (x_so h + 6)))
    have e1 : x_ce (x_setc h1 (x_ce h + 1) (x_so h + 6)) = x_ce h + 1 := rfl
    have e2 : x_so (x_setc h1 (x_ce h + 1) (x_so h + 6)) = x_so h + 6 := rfl
    generalize x_setc h1 (x_ce h + 1) (x_so h + 6) = g at J hT e1 e2 ⊢
    refine a_blk (N := 2000000000000) C oL_526 ?_
    refine q_istore (Nat.le_of_ble_eq_true rfl) ?_
    show x_seq _ _ _ _ ([.inr (.inr (10, 1)), .inr (.inr (7, 1)), .inr (.inr (8, 1)), .inr (.inr (21, 1)), .inl i, .inl n, w6], [], g)
    refine q_aload rfl (by decide) ?_
    refine q_scr rfl rfl rfl (k := 1) (by decide) J.2.2.2.2.2.2 hi hL ?_
    refine q_scr rfl rfl rfl (k := 2) (by decide) J.2.2.2.2.2.2 hi hL ?_
    refine q_scr rfl rfl rfl (k := 3) (by decide) J.2.2.2.2.2.2 hi hL ?_
    have kB9 : ∀ z2 : Int32, (0 ≤ z2.toInt ∧ z2.toInt ≤ 1) → ((z2.toInt = 0 ∧ ((Ls.2 (i + 3).toNatClampNeg)).toInt = 0) ∨ (z2.toInt = 1 ∧ ¬ ((Ls.2 (i + 3).toNatClampNeg)).toInt = 0)) → x_At n0 oa D p l e R s m args below meth c xm_law h0 (x_MQ n0 oa D s args below xm_law h0 ZL) 555 ([.inr (.inr (10, 1)), .inr (.inr (7, 1)), .inr (.inr (8, 1)), .inr (.inr (21, 1)), .inl i, .inl n, w6], [.inl z2, .inl (Ls.2 (i + 2).toNatClampNeg), .inl (Ls.2 (i + 1).toNatClampNeg), .inr (.inr (8, 1))], g) := by
      intro z2 hz9z2 hyz2
      rw [show z2 = z1 from i32_eq.mpr (by omega)]
      refine a_blk (N := 2000000000000) C oL_555 ?_
      refine q_callv rfl (by decide) (j := 1) ⟨Nat.le_refl 1, Nat.le_of_eq J.2.1.1.symm⟩ (Nat.le_of_ble_eq_true rfl) (Nat.le_of_ble_eq_true rfl) (by omega) (by omega) ?_
      refine rc_hold (x1 := (Ls.2 (i + 1).toNatClampNeg)) (x2 := (Ls.2 (i + 2).toNatClampNeg)) (x3 := z1) J (by omega) hT hv (fun o F2 hM hr => ?_)
      obtain ⟨n2, rfl, -, -, cR⟩ := hr
      show x_seq _ _ _ _ ([.inr (.inr (10, 1)), .inr (.inr (7, 1)), .inr (.inr (8, 1)), .inr (.inr (21, 1)), .inl i, .inl n, w6], [.inl n2], x_setc (mh (x_setc g 0 0) F2) (x_ce g + 0) (x_so g + 0))
      have J2 : LI Ls (x_setc (mh (x_setc g 0 0) F2) (x_ce g + 0) (x_so g + 0)) F2 := ((J.setc (a := 0) (b := 0)).rf hM).setc
      have cR : ∃ v' : vS × Nat, kP v' v' (x_setc (mh (x_setc g 0 0) F2) (x_ce g + 0) (x_so g + 0)) ∧ v'.2 ≤ v.2 + 1 := cR
      have e3 : x_ce (x_setc (mh (x_setc g 0 0) F2) (x_ce g + 0) (x_so g + 0)) = x_ce g + 0 := rfl
      have e4 : x_so (x_setc (mh (x_setc g 0 0) F2) (x_ce g + 0) (x_so g + 0)) = x_so g + 0 := rfl
      generalize x_setc (mh (x_setc g 0 0) F2) (x_ce g + 0) (x_so g + 0) = g2 at J2 cR e3 e4 ⊢
      refine q_istore (Nat.le_of_ble_eq_true rfl) ?_
      show x_seq _ _ _ _ ([.inr (.inr (10, 1)), .inr (.inr (7, 1)), .inr (.inr (8, 1)), .inr (.inr (21, 1)), .inl i, .inl n, .inl n2], [], g2)
      refine q_goto ?_
      obtain ⟨v9, K9, b9⟩ := cR
      exact nxt (.inl n) (.inl n2) _ _ v9 J2 K9 b9 (by omega) (by omega)
    refine v_if_eq (fun d => ?_) (fun d => ?_)
    · refine a_blk (N := 2000000000000) C oL_554 ?_
      exact q_iconst (q_goto (kB9 0 (by decide) (Or.inl ⟨rfl, d⟩)))
    · exact q_iconst (q_goto (kB9 1 (by decide) (Or.inr ⟨rfl, d⟩)))
  refine v_if_eq (fun d => ?_) (fun d => ?_)
  · refine a_blk (N := 2000000000000) C oL_521 ?_
    exact q_iconst (q_goto (kB9 0 (by decide) (Or.inl ⟨rfl, d⟩)))
  · exact q_iconst (q_goto (kB9 1 (by decide) (Or.inr ⟨rfl, d⟩)))
theorem lk_tone {h : xH} {F : xF} {v : vS × Nat} {i : Int32} {w5 w6 : xV} (C : x_Cx n0 oa D xm_law h0 p l R s m args meth c) (hnc : va_Nc (x_en 2) (x_en 1) s) (I : LI Ls h F) (K : kP v v h) (hv : v.2 ≤ 600) (hi : 0 ≤ i.toInt ∧ i.toInt + 5 < (Ls.1 : Int)) (hL : Ls.1 ≤ 3072) (hce : x_ce h ≤ 600000) (hso : x_so h ≤ 7000000)
    (nxt : ∀ (w5 w6 : xV) (h' : xH) (F' : xF) (v' : vS × Nat), LI Ls h' F' → kP v' v' h' → v'.2 ≤ v.2 + 1 → x_ce h' ≤ x_ce h + 7 → x_so h' ≤ x_so h + 55 → x_At n0 oa D p l e R s m args below meth c xm_law h0 (x_MQ n0 oa D s args below xm_law h0 ZL) 883 ([.inr (.inr (10, 1)), .inr (.inr (7, 1)), .inr (.inr (8, 1)), .inr (.inr (21, 1)), .inl i, w5, w6], [], h')) :
    x_At n0 oa D p l e R s m args below meth c xm_law h0 (x_MQ n0 oa D s args below xm_law h0 ZL) 563 ([.inr (.inr (10, 1)), .inr (.inr (7, 1)), .inr (.inr (8, 1)), .inr (.inr (21, 1)), .inl i, w5, w6], [], h) := by
  refine a_blk (N := 2000000000000) C oL_563 ?_
  refine q_aload rfl (by decide) ?_
  refine q_scr rfl rfl rfl (k := 1) (by decide) I.2.2.2.2.2.2 hi hL ?_
  refine q_scr rfl rfl rfl (k := 2) (by decide) I.2.2.2.2.2.2 hi hL ?_
  refine q_aload rfl (by decide) ?_
  refine q_goto ?_
  show x_At n0 oa D p l e R s m args below meth c xm_law h0 (x_MQ n0 oa D s args below xm_law h0 ZL) 577 ([.inr (.inr (10, 1)), .inr (.inr (7, 1)), .inr (.inr (8, 1)), .inr (.inr (21, 1)), .inl i, w5, w6], [.inr (.inr (21, 1)), .inl (Ls.2 (i + 2).toNatClampNeg), .inl (Ls.2 (i + 1).toNatClampNeg), .inr (.inr (7, 1))], h)
  refine a_callw (as9 := [.inr (.inr (7, 1)), .inl (Ls.2 (i + 1).toNatClampNeg), .inl (Ls.2 (i + 2).toNatClampNeg), .inr (.inr (21, 1))]) (rest := []) C hnc (lc_tone I K) (fun k h1 hz => by obtain ⟨n9, hn, -⟩ := hz; cases hn) wl_721 wl_719 wl_720 wl_54 (by show _ ≠ _ ∧ _ ≠ _ ∧ _ = some 4; decide +kernel) (Nat.le_of_ble_eq_true rfl) (Nat.le_of_ble_eq_true rfl) (by decide +kernel) (Nat.le_of_ble_eq_true rfl) (by show x_ce h + 1 ≤ 601024; omega) (by show x_so h + 6 ≤ 7293033; omega) (fun v9 h1 hz => ?_)
  obtain ⟨n, hn, I1, hT⟩ := hz
  cases hn
  have hT : cz_tone (x_setc h1 (x_ce h + 1) (x_so h + 6)) ((Ls.2 (i + 1).toNatClampNeg)) ((Ls.2 (i + 2).toNatClampNeg)) n v := hT
  have J : LI Ls (x_setc h1 (x_ce h + 1) (x_so h + 6)) F := I1.setc
  show x_At n0 oa D p l e R s m args below meth c xm_law h0 (x_MQ n0 oa D s args below xm_law h0 ZL) 580 ([.inr (.inr (10, 1)), .inr (.inr (7, 1)), .inr (.inr (8, 1)), .inr (.inr (21, 1)), .inl i, w5, w6], [.inl n], (x_setc h1 (x_ce h + 1) (x_so h + 6)))
  have e1 : x_ce (x_setc h1 (x_ce h + 1) (x_so h + 6)) = x_ce h + 1 := rfl
  have e2 : x_so (x_setc h1 (x_ce h + 1) (x_so h + 6)) = x_so h + 6 := rfl
  generalize x_setc h1 (x_ce h + 1) (x_so h + 6) = g at J hT e1 e2 ⊢
  refine a_blk (N := 2000000000000) C oL_580 ?_
  refine q_istore (Nat.le_of_ble_eq_true rfl) ?_
  show x_seq _ _ _ _ ([.inr (.inr (10, 1)), .inr (.inr (7, 1)), .inr (.inr (8, 1)), .inr (.inr (21, 1)), .inl i, .inl n, w6], [], g)
  refine q_aload rfl (by decide) ?_
  refine q_scr rfl rfl rfl (k := 1) (by decide) J.2.2.2.2.2.2 hi hL ?_
  refine q_scr rfl rfl rfl (k := 2) (by decide) J.2.2.2.2.2.2 hi hL ?_
  refine q_callv rfl (by decide) (j := 1) ⟨Nat.le_refl 1, Nat.le_of_eq J.2.1.1.symm⟩ (Nat.le_of_ble_eq_true rfl) (Nat.le_of_ble_eq_true rfl) (by omega) (by omega) ?_
  refine rc_tone (x1 := (Ls.2 (i + 1).toNatClampNeg)) (x2 := (Ls.2 (i + 2).toNatClampNeg)) J hT hv (fun o F2 hM hr => ?_)
  obtain ⟨n2, rfl, -, -, cR⟩ := hr
  show x_seq _ _ _ _ ([.inr (.inr (10, 1)), .inr (.inr (7, 1)), .inr (.inr (8, 1)), .inr (.inr (21, 1)), .inl i, .inl n, w6], [.inl n2], x_setc (mh (x_setc g 0 0) F2) (x_ce g + 0) (x_so g + 0))
  have J2 : LI Ls (x_setc (mh (x_setc g 0 0) F2) (x_ce g + 0) (x_so g + 0)) F2 := ((J.setc (a := 0) (b := 0)).rf hM).setc
  have cR : ∃ v' : vS × Nat, kP v' v' (x_setc (mh (x_setc g 0 0) F2) (x_ce g + 0) (x_so g + 0)) ∧ v'.2 ≤ v.2 + 1 := cR
  have e3 : x_ce (x_setc (mh (x_setc g 0 0) F2) (x_ce g + 0) (x_so g + 0)) = x_ce g + 0 := rfl
  have e4 : x_so (x_setc (mh (x_setc g 0 0) F2) (x_ce g + 0) (x_so g + 0)) = x_so g + 0 := rfl
  generalize x_setc (mh (x_setc g 0 0) F2) (x_ce g + 0) (x_so g + 0) = g2 at J2 cR e3 e4 ⊢
  refine q_istore (Nat.le_of_ble_eq_true rfl) ?_
  show x_seq _ _ _ _ ([.inr (.inr (10, 1)), .inr (.inr (7, 1)), .inr (.inr (8, 1)), .inr (.inr (21, 1)), .inl i, .inl n, .inl n2], [], g2)
  refine q_goto ?_
  obtain ⟨v9, K9, b9⟩ := cR
  exact nxt (.inl n) (.inl n2) _ _ v9 J2 K9 b9 (by omega) (by omega)
theorem lk_rings {h : xH} {F : xF} {v : vS × Nat} {i : Int32} {w5 w6 : xV} (C : x_Cx n0 oa D xm_law h0 p l R s m args meth c) (hnc : va_Nc (x_en 2) (x_en 1) s) (I : LI Ls h F) (K : kP v v h) (hv : v.2 ≤ 600) (hi : 0 ≤ i.toInt ∧ i.toInt + 5 < (Ls.1 : Int)) (hL : Ls.1 ≤ 3072) (hce : x_ce h ≤ 600000) (hso : x_so h ≤ 7000000)
    (nxt : ∀ (w5 w6 : xV) (h' : xH) (F' : xF) (v' : vS × Nat), LI Ls h' F' → kP v' v' h' → v'.2 ≤ v.2 + 1 → x_ce h' ≤ x_ce h + 7 → x_so h' ≤ x_so h + 55 → x_At n0 oa D p l e R s m args below meth c xm_law h0 (x_MQ n0 oa D s args below xm_law h0 ZL) 883 ([.inr (.inr (10, 1)), .inr (.inr (7, 1)), .inr (.inr (8, 1)), .inr (.inr (21, 1)), .inl i, w5, w6], [], h')) :
    x_At n0 oa D p l e R s m args below meth c xm_law h0 (x_MQ n0 oa D s args below xm_law h0 ZL) 603 ([.inr (.inr (10, 1)), .inr (.inr (7, 1)), .inr (.inr (8, 1)), .inr (.inr (21, 1)), .inl i, w5, w6], [], h) := by
  refine a_blk (N := 2000000000000) C oL_603 ?_
  refine q_aload rfl (by decide) ?_
  refine q_scr rfl rfl rfl (k := 1) (by decide) I.2.2.2.2.2.2 hi hL ?_
  refine q_scr rfl rfl rfl (k := 2) (by decide) I.2.2.2.2.2.2 hi hL ?_
  refine q_aload rfl (by decide) ?_
  refine q_goto ?_
  show x_At n0 oa D p l e R s m args below meth c xm_law h0 (x_MQ n0 oa D s args below xm_law h0 ZL) 617 ([.inr (.inr (10, 1)), .inr (.inr (7, 1)), .inr (.inr (8, 1)), .inr (.inr (21, 1)), .inl i, w5, w6], [.inr (.inr (21, 1)), .inl (Ls.2 (i + 2).toNatClampNeg), .inl (Ls.2 (i + 1).toNatClampNeg), .inr (.inr (7, 1))], h)
  refine a_callw (as9 := [.inr (.inr (7, 1)), .inl (Ls.2 (i + 1).toNatClampNeg), .inl (Ls.2 (i + 2).toNatClampNeg), .inr (.inr (21, 1))]) (rest := []) C hnc (lc_rings I K) (fun k h1 hz => by obtain ⟨n9, hn, -⟩ := hz; cases hn) wl_728 wl_726 wl_727 wl_54 (by show _ ≠ _ ∧ _ ≠ _ ∧ _ = some 4; decide +kernel) (Nat.le_of_ble_eq_true rfl) (Nat.le_of_ble_eq_true rfl) (by decide +kernel) (Nat.le_of_ble_eq_true rfl) (by show x_ce h + 1 ≤ 601024; omega) (by show x_so h + 6 ≤ 7293033; omega) (fun v9 h1 hz => ?_)
  obtain ⟨n, hn, I1, hT⟩ := hz
  cases hn
  have hT : cz_rings (x_setc h1 (x_ce h + 1) (x_so h + 6)) ((Ls.2 (i + 1).toNatClampNeg)) ((Ls.2 (i + 2).toNatClampNeg)) n v := hT
  have J : LI Ls (x_setc h1 (x_ce h + 1) (x_so h + 6)) F := I1.setc
  show x_At n0 oa D p l e R s m args below meth c xm_law h0 (x_MQ n0 oa D s args below xm_law h0 ZL) 620 ([.inr (.inr (10, 1)), .inr (.inr (7, 1)), .inr (.inr (8, 1)), .inr (.inr (21, 1)), .inl i, w5, w6], [.inl n], (x_setc h1 (x_ce h + 1) (x_so h + 6)))
  have e1 : x_ce (x_setc h1 (x_ce h + 1) (x_so h + 6)) = x_ce h + 1 := rfl
  have e2 : x_so (x_setc h1 (x_ce h + 1) (x_so h + 6)) = x_so h + 6 := rfl
  generalize x_setc h1 (x_ce h + 1) (x_so h + 6) = g at J hT e1 e2 ⊢
  refine a_blk (N := 2000000000000) C oL_620 ?_
  refine q_istore (Nat.le_of_ble_eq_true rfl) ?_
  show x_seq _ _ _ _ ([.inr (.inr (10, 1)), .inr (.inr (7, 1)), .inr (.inr (8, 1)), .inr (.inr (21, 1)), .inl i, .inl n, w6], [], g)
  refine q_aload rfl (by decide) ?_
  refine q_scr rfl rfl rfl (k := 1) (by decide) J.2.2.2.2.2.2 hi hL ?_
  refine q_scr rfl rfl rfl (k := 2) (by decide) J.2.2.2.2.2.2 hi hL ?_
  refine q_callv rfl (by decide) (j := 1) ⟨Nat.le_refl 1, Nat.le_of_eq J.2.1.1.symm⟩ (Nat.le_of_ble_eq_true rfl) (Nat.le_of_ble_eq_true rfl) (by omega) (by omega) ?_
  refine rc_rings (x1 := (Ls.2 (i + 1).toNatClampNeg)) (x2 := (Ls.2 (i + 2).toNatClampNeg)) J hT hv (fun o F2 hM hr => ?_)
  obtain ⟨n2, rfl, -, -, cR⟩ := hr
  show x_seq _ _ _ _ ([.inr (.inr (10, 1)), .inr (.inr (7, 1)), .inr (.inr (8, 1)), .inr (.inr (21, 1)), .inl i, .inl n, w6], [.inl n2], x_setc (mh (x_setc g 0 0) F2) (x_ce g + 0) (x_so g + 0))
  have J2 : LI Ls (x_setc (mh (x_setc g 0 0) F2) (x_ce g + 0) (x_so g + 0)) F2 := ((J.setc (a := 0) (b := 0)).rf hM).setc
  have cR : ∃ v' : vS × Nat, kP v' v' (x_setc (mh (x_setc g 0 0) F2) (x_ce g + 0) (x_so g + 0)) ∧ v'.2 ≤ v.2 + 1 := cR
  have e3 : x_ce (x_setc (mh (x_setc g 0 0) F2) (x_ce g + 0) (x_so g + 0)) = x_ce g + 0 := rfl
  have e4 : x_so (x_setc (mh (x_setc g 0 0) F2) (x_ce g + 0) (x_so g + 0)) = x_so g + 0 := rfl
  generalize x_setc (mh (x_setc g 0 0) F2) (x_ce g + 0) (x_so g + 0) = g2 at J2 cR e3 e4 ⊢
  refine q_istore (Nat.le_of_ble_eq_true rfl) ?_
  show x_seq _ _ _ _ ([.inr (.inr (10, 1)), .inr (.inr (7, 1)), .inr (.inr (8, 1)), .inr (.inr (21, 1)), .inl i, .inl n, .inl n2], [], g2)
  refine q_goto ?_
  obtain ⟨v9, K9, b9⟩ := cR
  exact nxt (.inl n) (.inl n2) _ _ v9 J2 K9 b9 (by omega) (by omega)
theorem lk_talks {h : xH} {F : xF} {v : vS × Nat} {i : Int32} {w5 w6 : xV} (C : x_Cx n0 oa D xm_law h0 p l R s m args meth c) (hnc : va_Nc (x_en 2) (x_en 1) s) (I : LI Ls h F) (K : kP v v h) (hv : v.2 ≤ 600) (hi : 0 ≤ i.toInt ∧ i.toInt + 5 < (Ls.1 : Int)) (hL : Ls.1 ≤ 3072) (hce : x_ce h ≤ 600000) (hso : x_so h ≤ 7000000)
    (nxt : ∀ (w5 w6 : xV) (h' : xH) (F' : xF) (v' : vS × Nat), LI Ls h' F' → kP v' v' h' → v'.2 ≤ v.2 + 1 → x_ce h' ≤ x_ce h + 7 → x_so h' ≤ x_so h + 55 → x_At n0 oa D p l e R s m args below meth c xm_law h0 (x_MQ n0 oa D s args below xm_law h0 ZL) 883 ([.inr (.inr (10, 1)), .inr (.inr (7, 1)), .inr (.inr (8, 1)), .inr (.inr (21, 1)), .inl i, w5, w6], [], h')) :
    x_At n0 oa D p l e R s m args below meth c xm_law h0 (x_MQ n0 oa D s args below xm_law h0 ZL) 643 ([.inr (.inr (10, 1)), .inr (.inr (7, 1)), .inr (.inr (8, 1)), .inr (.inr (21, 1)), .inl i, w5, w6], [], h) := by
  refine a_blk (N := 2000000000000) C oL_643 ?_
  refine q_aload rfl (by decide) ?_
  refine q_scr rfl rfl rfl (k := 1) (by decide) I.2.2.2.2.2.2 hi hL ?_
  refine q_scr rfl rfl rfl (k := 2) (by decide) I.2.2.2.2.2.2 hi hL ?_
  refine q_aload rfl (by decide) ?_
  refine q_goto ?_
  show x_At n0 oa D p l e R s m args below meth c xm_law h0 (x_MQ n0 oa D s args below xm_law h0 ZL) 657 ([.inr (.inr (10, 1)), .inr (.inr (7, 1)), .inr (.inr (8, 1)), .inr (.inr (21, 1)), .inl i, w5, w6], [.inr (.inr (21, 1)), .inl (Ls.2 (i + 2).toNatClampNeg), .inl (Ls.2 (i + 1).toNatClampNeg), .inr (.inr (7, 1))], h)
  refine a_callw (as9 := [.inr (.inr (7, 1)), .inl (Ls.2 (i + 1).toNatClampNeg), .inl (Ls.2 (i + 2).toNatClampNeg), .inr (.inr (21, 1))]) (rest := []) C hnc (lc_talks I K) (fun k h1 hz => by obtain ⟨n9, hn, -⟩ := hz; cases hn) wl_735 wl_733 wl_734 wl_54 (by show _ ≠ _ ∧ _ ≠ _ ∧ _ = some 4; decide +kernel) (Nat.le_of_ble_eq_true rfl) (Nat.le_of_ble_eq_true rfl) (by decide +kernel) (Nat.le_of_ble_eq_true rfl) (by show x_ce h + 1 ≤ 601024; omega) (by show x_so h + 6 ≤ 7293033; omega) (fun v9 h1 hz => ?_)
  obtain ⟨n, hn, I1, hT⟩ := hz
  cases hn
  have hT : cz_talks (x_setc h1 (x_ce h + 1) (x_so h + 6)) ((Ls.2 (i + 1).toNatClampNeg)) ((Ls.2 (i + 2).toNatClampNeg)) n v := hT
  have J : LI Ls (x_setc h1 (x_ce h + 1) (x_so h + 6)) F := I1.setc
  show x_At n0 oa D p l e R s m args below meth c xm_law h0 (x_MQ n0 oa D s args below xm_law h0 ZL) 660 ([.inr (.inr (10, 1)), .inr (.inr (7, 1)), .inr (.inr (8, 1)), .inr (.inr (21, 1)), .inl i, w5, w6], [.inl n], (x_setc h1 (x_ce h + 1) (x_so h + 6)))
  have e1 : x_ce (x_setc h1 (x_ce h + 1) (x_so h + 6)) = x_ce h + 1 := rfl
  have e2 : x_so (x_setc h1 (x_ce h + 1) (x_so h + 6)) = x_so h + 6 := rfl
  generalize x_setc h1 (x_ce h + 1) (x_so h + 6) = g at J hT e1 e2 ⊢
  refine a_blk (N := 2000000000000) C oL_660 ?_
  refine q_istore (Nat.le_of_ble_eq_true rfl) ?_
  show x_seq _ _ _ _ ([.inr (.inr (10, 1)), .inr (.inr (7, 1)), .inr (.inr (8, 1)), .inr (.inr (21, 1)), .inl i, .inl n, w6], [], g)
  refine q_aload rfl (by decide) ?_
  refine q_scr rfl rfl rfl (k := 1) (by decide) J.2.2.2.2.2.2 hi hL ?_
  refine q_scr rfl rfl rfl (k := 2) (by decide) J.2.2.2.2.2.2 hi hL ?_
  refine q_callv rfl (by decide) (j := 1) ⟨Nat.le_refl 1, Nat.le_of_eq J.2.1.1.symm⟩ (Nat.le_of_ble_eq_true rfl) (Nat.le_of_ble_eq_true rfl) (by omega) (by omega) ?_
  refine rc_talks (x1 := (Ls.2 (i + 1).toNatClampNeg)) (x2 := (Ls.2 (i + 2).toNatClampNeg)) J hT hv (fun o F2 hM hr => ?_)
  obtain ⟨n2, rfl, -, -, cR⟩ := hr
  show x_seq _ _ _ _ ([.inr (.inr (10, 1)), .inr (.inr (7, 1)), .inr (.inr (8, 1)), .inr (.inr (21, 1)), .inl i, .inl n, w6], [.inl n2], x_setc (mh (x_setc g 0 0) F2) (x_ce g + 0) (x_so g + 0))
  have J2 : LI Ls (x_setc (mh (x_setc g 0 0) F2) (x_ce g + 0) (x_so g + 0)) F2 := ((J.setc (a := 0) (b := 0)).rf hM).setc
  have cR : ∃ v' : vS × Nat, kP v' v' (x_setc (mh (x_setc g 0 0) F2) (x_ce g + 0) (x_so g + 0)) ∧ v'.2 ≤ v.2 + 1 := cR
  have e3 : x_ce (x_setc (mh (x_setc g 0 0) F2) (x_ce g + 0) (x_so g + 0)) = x_ce g + 0 := rfl
  have e4 : x_so (x_setc (mh (x_setc g 0 0) F2) (x_ce g + 0) (x_so g + 0)) = x_so g + 0 := rfl
  generalize x_setc (mh (x_setc g 0 0) F2) (x_ce g + 0) (x_so g + 0) = g2 at J2 cR e3 e4 ⊢
  refine q_istore (Nat.le_of_ble_eq_true rfl) ?_
  show x_seq _ _ _ _ ([.inr (.inr (10, 1)), .inr (.inr (7, 1)), .inr (.inr (8, 1)), .inr (.inr (21, 1)), .inl i, .inl n, .inl n2], [], g2)
  refine q_goto ?_
  obtain ⟨v9, K9, b9⟩ := cR
  exact nxt (.inl n) (.inl n2) _ _ v9 J2 K9 b9 (by omega) (by omega)
theorem lk_meter {h : xH} {F : xF} {v : vS × Nat} {i : Int32} {w5 w6 : xV} (C : x_Cx n0 oa D xm_law h0 p l R s m args meth c) (hnc : va_Nc (x_en 2) (x_en 1) s) (I : LI Ls h F) (K : kP v v h) (hv : v.2 ≤ 600) (hi : 0 ≤ i.toInt ∧ i.toInt + 5 < (Ls.1 : Int)) (hL : Ls.1 ≤ 3072) (hce : x_ce h ≤ 600000) (hso : x_so h ≤ 7000000)
    (nxt : ∀ (w5 w6 : xV) (h' : xH) (F' : xF) (v' : vS × Nat), LI Ls h' F' → kP v' v' h' → v'.2 ≤ v.2 + 1 → x_ce h' ≤ x_ce h + 7 → x_so h' ≤ x_so h + 55 → x_At n0 oa D p l e R s m args below meth c xm_law h0 (x_MQ n0 oa D s args below xm_law h0 ZL) 883 ([.inr (.inr (10, 1)), .inr (.inr (7, 1)), .inr (.inr (8, 1)), .inr (.inr (21, 1)), .inl i, w5, w6], [], h')) :
    x_At n0 oa D p l e R s m args below meth c xm_law h0 (x_MQ n0 oa D s args below xm_law h0 ZL) 683 ([.inr (.inr (10, 1)), .inr (.inr (7, 1)), .inr (.inr (8, 1)), .inr (.inr (21, 1)), .inl i, w5, w6], [], h) := by
  refine a_blk (N := 2000000000000) C oL_683 ?_
  refine q_aload rfl (by decide) ?_
  refine q_scr rfl rfl rfl (k := 1) (by decide) I.2.2.2.2.2.2 hi hL ?_
  refine q_scr rfl rfl rfl (k := 2) (by decide) I.2.2.2.2.2.2 hi hL ?_
  refine q_aload rfl (by decide) ?_
  refine q_goto ?_
  show x_At n0 oa D p l e R s m args below meth c xm_law h0 (x_MQ n0 oa D s args below xm_law h0 ZL) 697 ([.inr (.inr (10, 1)), .inr (.inr (7, 1)), .inr (.inr (8, 1)), .inr (.inr (21, 1)), .inl i, w5, w6], [.inr (.inr (21, 1)), .inl (Ls.2 (i + 2).toNatClampNeg), .inl (Ls.2 (i + 1).toNatClampNeg), .inr (.inr (7, 1))], h)
  refine a_callw (as9 := [.inr (.inr (7, 1)), .inl (Ls.2 (i + 1).toNatClampNeg), .inl (Ls.2 (i + 2).toNatClampNeg), .inr (.inr (21, 1))]) (rest := []) C hnc (lc_meter I K) (fun k h1 hz => by obtain ⟨n9, hn, -⟩ := hz; cases hn) wl_742 wl_740 wl_741 wl_54 (by show _ ≠ _ ∧ _ ≠ _ ∧ _ = some 4; decide +kernel) (Nat.le_of_ble_eq_true rfl) (Nat.le_of_ble_eq_true rfl) (by decide +kernel) (Nat.le_of_ble_eq_true rfl) (by show x_ce h + 1 ≤ 601024; omega) (by show x_so h + 6 ≤ 7293033; omega) (fun v9 h1 hz => ?_)
  obtain ⟨n, hn, I1, hT⟩ := hz
  cases hn
  have hT : cz_meter (x_setc h1 (x_ce h + 1) (x_so h + 6)) ((Ls.2 (i + 1).toNatClampNeg)) ((Ls.2 (i + 2).toNatClampNeg)) n v := hT
  have J : LI Ls (x_setc h1 (x_ce h + 1) (x_so h + 6)) F := I1.setc
  show x_At n0 oa D p l e R s m args below meth c xm_law h0 (x_MQ n0 oa D s args below xm_law h0 ZL) 700 ([.inr (.inr (10, 1)), .inr (.inr (7, 1)), .inr (.inr (8, 1)), .inr (.inr (21, 1)), .inl i, w5, w6], [.inl n], (x_setc h1 (x_ce h + 1) (x_so h + 6)))
  have e1 : x_ce (x_setc h1 (x_ce h + 1) (x_so h + 6)) = x_ce h + 1 := rfl
  have e2 : x_so (x_setc h1 (x_ce h + 1) (x_so h + 6)) = x_so h + 6 := rfl
  generalize x_setc h1 (x_ce h + 1) (x_so h + 6) = g at J hT e1 e2 ⊢
  refine a_blk (N := 2000000000000) C oL_700 ?_
  refine q_istore (Nat.le_of_ble_eq_true rfl) ?_
  show x_seq _ _ _ _ ([.inr (.inr (10, 1)), .inr (.inr (7, 1)), .inr (.inr (8, 1)), .inr (.inr (21, 1)), .inl i, .inl n, w6], [], g)
  refine q_aload rfl (by decide) ?_
  refine q_scr rfl rfl rfl (k := 1) (by decide) J.2.2.2.2.2.2 hi hL ?_
  refine q_scr rfl rfl rfl (k := 2) (by decide) J.2.2.2.2.2.2 hi hL ?_
  refine q_callv rfl (by decide) (j := 1) ⟨Nat.le_refl 1, Nat.le_of_eq J.2.1.1.symm⟩ (Nat.le_of_ble_eq_true rfl) (Nat.le_of_ble_eq_true rfl) (by omega) (by omega) ?_
  refine rc_meter (x1 := (Ls.2 (i + 1).toNatClampNeg)) (x2 := (Ls.2 (i + 2).toNatClampNeg)) J hT hv (fun o F2 hM hr => ?_)
  obtain ⟨n2, rfl, -, -, cR⟩ := hr
  show x_seq _ _ _ _ ([.inr (.inr (10, 1)), .inr (.inr (7, 1)), .inr (.inr (8, 1)), .inr (.inr (21, 1)), .inl i, .inl n, w6], [.inl n2], x_setc (mh (x_setc g 0 0) F2) (x_ce g + 0) (x_so g + 0))
  have J2 : LI Ls (x_setc (mh (x_setc g 0 0) F2) (x_ce g + 0) (x_so g + 0)) F2 := ((J.setc (a := 0) (b := 0)).rf hM).setc
  have cR : ∃ v' : vS × Nat, kP v' v' (x_setc (mh (x_setc g 0 0) F2) (x_ce g + 0) (x_so g + 0)) ∧ v'.2 ≤ v.2 + 1 := cR
  have e3 : x_ce (x_setc (mh (x_setc g 0 0) F2) (x_ce g + 0) (x_so g + 0)) = x_ce g + 0 := rfl
  have e4 : x_so (x_setc (mh (x_setc g 0 0) F2) (x_ce g + 0) (x_so g + 0)) = x_so g + 0 := rfl
  generalize x_setc (mh (x_setc g 0 0) F2) (x_ce g + 0) (x_so g + 0) = g2 at J2 cR e3 e4 ⊢
  refine q_istore (Nat.le_of_ble_eq_true rfl) ?_
  show x_seq _ _ _ _ ([.inr (.inr (10, 1)), .inr (.inr (7, 1)), .inr (.inr (8, 1)), .inr (.inr (21, 1)), .inl i, .inl n, .inl n2], [], g2)
  refine q_goto ?_
  obtain ⟨v9, K9, b9⟩ := cR
  exact nxt (.inl n) (.inl n2) _ _ v9 J2 K9 b9 (by omega) (by omega)
theorem lk_seized {h : xH} {F : xF} {v : vS × Nat} {i : Int32} {w5 w6 : xV} (C : x_Cx n0 oa D xm_law h0 p l R s m args meth c) (hnc : va_Nc (x_en 2) (x_en 1) s) (I : LI Ls h F) (K : kP v v h) (hv : v.2 ≤ 600) (hi : 0 ≤ i.toInt ∧ i.toInt + 5 < (Ls.1 : Int)) (hL : Ls.1 ≤ 3072) (hce : x_ce h ≤ 600000) (hso : x_so h ≤ 7000000)
    (nxt : ∀ (w5 w6 : xV) (h' : xH) (F' : xF) (v' : vS × Nat), LI Ls h' F' → kP v' v' h' → v'.2 ≤ v.2 + 1 → x_ce h' ≤ x_ce h + 7 → x_so h' ≤ x_so h + 55 → x_At n0 oa D p l e R s m args below meth c xm_law h0 (x_MQ n0 oa D s args below xm_law h0 ZL) 883 ([.inr (.inr (10, 1)), .inr (.inr (7, 1)), .inr (.inr (8, 1)), .inr (.inr (21, 1)), .inl i, w5, w6], [], h')) :
    x_At n0 oa D p l e R s m args below meth c xm_law h0 (x_MQ n0 oa D s args below xm_law h0 ZL) 723 ([.inr (.inr (10, 1)), .inr (.inr (7, 1)), .inr (.inr (8, 1)), .inr (.inr (21, 1)), .inl i, w5, w6], [], h) := by
  refine a_blk (N := 2000000000000) C oL_723 ?_
  refine q_aload rfl (by decide) ?_
  refine q_scr rfl rfl rfl (k := 1) (by decide) I.2.2.2.2.2.2 hi hL ?_
  refine q_scr rfl rfl rfl (k := 2) (by decide) I.2.2.2.2.2.2 hi hL ?_
  refine q_scr rfl rfl rfl (k := 3) (by decide) I.2.2.2.2.2.2 hi hL ?_
  refine q_aload rfl (by decide) ?_
  refine q_goto ?_
  show x_At n0 oa D p l e R s m args below meth c xm_law h0 (x_MQ n0 oa D s args below xm_law h0 ZL) 743 ([.inr (.inr (10, 1)), .inr (.inr (7, 1)), .inr (.inr (8, 1)), .inr (.inr (21, 1)), .inl i, w5, w6], [.inr (.inr (21, 1)), .inl (Ls.2 (i + 3).toNatClampNeg), .inl (Ls.2 (i + 2).toNatClampNeg), .inl (Ls.2 (i + 1).toNatClampNeg), .inr (.inr (7, 1))], h)
  refine a_callw (as9 := [.inr (.inr (7, 1)), .inl (Ls.2 (i + 1).toNatClampNeg), .inl (Ls.2 (i + 2).toNatClampNeg), .inl (Ls.2 (i + 3).toNatClampNeg), .inr (.inr (21, 1))]) (rest := []) C hnc (lc_seized I K) (fun k h1 hz => by obtain ⟨n9, hn, -⟩ := hz; cases hn) wl_749 wl_747 wl_748 wl_54 (by show _ ≠ _ ∧ _ ≠ _ ∧ _ = some 5; decide +kernel) (Nat.le_of_ble_eq_true rfl) (Nat.le_of_ble_eq_true rfl) (by decide +kernel) (Nat.le_of_ble_eq_true rfl) (by show x_ce h + 2 ≤ 601024; omega) (by show x_so h + 12 ≤ 7293033; omega) (fun v9 h1 hz => ?_)
  obtain ⟨n, hn, I1, hT⟩ := hz
  cases hn
  have hT : cz_seized (x_setc h1 (x_ce h + 2) (x_so h + 12)) ((Ls.2 (i + 1).toNatClampNeg)) ((Ls.2 (i + 2).toNatClampNeg)) ((Ls.2 (i + 3).toNatClampNeg)) n v := hT
  have J : LI Ls (x_setc h1 (x_ce h + 2) (x_so h + 12)) F := I1.setc
  show x_At n0 oa D p l e R s m args below meth c xm_law h0 (x_MQ n0 oa D s args below xm_law h0 ZL) 746 ([.inr (.inr (10, 1)), .inr (.inr (7, 1)), .inr (.inr (8, 1)), .inr (.inr (21, 1)), .inl i, w5, w6], [.inl n], (x_setc h1 (x_ce h + 2) (x_so h + 12)))
  have e1 : x_ce (x_setc h1 (x_ce h + 2) (x_so h + 12)) = x_ce h + 2 := rfl
  have e2 : x_so (x_setc h1 (x_ce h + 2) (x_so h + 12)) = x_so h + 12 := rfl
  generalize x_setc h1 (x_ce h + 2) (x_so h + 12) = g at J hT e1 e2 ⊢
  refine a_blk (N := 2000000000000) C oL_746 ?_
  refine q_istore (Nat.le_of_ble_eq_true rfl) ?_
  show x_seq _ _ _ _ ([.inr (.inr (10, 1)), .inr (.inr (7, 1)), .inr (.inr (8, 1)), .inr (.inr (21, 1)), .inl i, .inl n, w6], [], g)
  refine q_aload rfl (by decide) ?_
  refine q_scr rfl rfl rfl (k := 1) (by decide) J.2.2.2.2.2.2 hi hL ?_
  refine q_scr rfl rfl rfl (k := 2) (by decide) J.2.2.2.2.2.2 hi hL ?_
  refine q_scr rfl rfl rfl (k := 3) (by decide) J.2.2.2.2.2.2 hi hL ?_
  refine q_callv rfl (by decide) (j := 1) ⟨Nat.le_refl 1, Nat.le_of_eq J.2.1.1.symm⟩ (Nat.le_of_ble_eq_true rfl) (Nat.le_of_ble_eq_true rfl) (by omega) (by omega) ?_
  refine rc_seized (x1 := (Ls.2 (i + 1).toNatClampNeg)) (x2 := (Ls.2 (i + 2).toNatClampNeg)) (x3 := (Ls.2 (i + 3).toNatClampNeg)) J hT hv (fun o F2 hM hr => ?_)
  obtain ⟨n2, rfl, cR⟩ := hr
  show x_seq _ _ _ _ ([.inr (.inr (10, 1)), .inr (.inr (7, 1)), .inr (.inr (8, 1)), .inr (.inr (21, 1)), .inl i, .inl n, w6], [.inl n2], x_setc (mh (x_setc g 0 0) F2) (x_ce g + 0) (x_so g + 0))
  have J2 : LI Ls (x_setc (mh (x_setc g 0 0) F2) (x_ce g + 0) (x_so g + 0)) F2 := ((J.setc (a := 0) (b := 0)).rf hM).setc
  have cR : ∃ v' : vS × Nat, kP v' v' (x_setc (mh (x_setc g 0 0) F2) (x_ce g + 0) (x_so g + 0)) ∧ v'.2 ≤ v.2 + 1 := cR
  have e3 : x_ce (x_setc (mh (x_setc g 0 0) F2) (x_ce g + 0) (x_so g + 0)) = x_ce g + 0 := rfl
  have e4 : x_so (x_setc (mh (x_setc g 0 0) F2) (x_ce g + 0) (x_so g + 0)) = x_so g + 0 := rfl
  generalize x_setc (mh (x_setc g 0 0) F2) (x_ce g + 0) (x_so g + 0) = g2 at J2 cR e3 e4 ⊢
  refine q_istore (Nat.le_of_ble_eq_true rfl) ?_
  show x_seq _ _ _ _ ([.inr (.inr (10, 1)), .inr (.inr (7, 1)), .inr (.inr (8, 1)), .inr (.inr (21, 1)), .inl i, .inl n, .inl n2], [], g2)
  refine q_goto ?_
  obtain ⟨v9, K9, b9⟩ := cR
  exact nxt (.inl n) (.inl n2) _ _ v9 J2 K9 b9 (by omega) (by omega)
theorem lk_idle {h : xH} {F : xF} {v : vS × Nat} {i : Int32} {w5 w6 : xV} (C : x_Cx n0 oa D xm_law h0 p l R s m args meth c) (hnc : va_Nc (x_en 2) (x_en 1) s) (I : LI Ls h F) (K : kP v v h) (hv : v.2 ≤ 600) (hi : 0 ≤ i.toInt ∧ i.toInt + 5 < (Ls.1 : Int)) (hL : Ls.1 ≤ 3072) (hce : x_ce h ≤ 600000) (hso : x_so h ≤ 7000000)
    (nxt : ∀ (w5 w6 : xV) (h' : xH) (F' : xF) (v' : vS × Nat), LI Ls h' F' → kP v' v' h' → v'.2 ≤ v.2 + 1 → x_ce h' ≤ x_ce h + 7 → x_so h' ≤ x_so h + 55 → x_At n0 oa D p l e R s m args below meth c xm_law h0 (x_MQ n0 oa D s args below xm_law h0 ZL) 883 ([.inr (.inr (10, 1)), .inr (.inr (7, 1)), .inr (.inr (8, 1)), .inr (.inr (21, 1)), .inl i, w5, w6], [], h')) :
    x_At n0 oa D p l e R s m args below meth c xm_law h0 (x_MQ n0 oa D s args below xm_law h0 ZL) 775 ([.inr (.inr (10, 1)), .inr (.inr (7, 1)), .inr (.inr (8, 1)), .inr (.inr (21, 1)), .inl i, w5, w6], [], h) := by
  refine a_blk (N := 2000000000000) C oL_775 ?_
  refine q_aload rfl (by decide) ?_
  refine q_scr rfl rfl rfl (k := 1) (by decide) I.2.2.2.2.2.2 hi hL ?_
  refine q_scr rfl rfl rfl (k := 2) (by decide) I.2.2.2.2.2.2 hi hL ?_
  refine q_aload rfl (by decide) ?_
  refine q_goto ?_
  show x_At n0 oa D p l e R s m args below meth c xm_law h0 (x_MQ n0 oa D s args below xm_law h0 ZL) 789 ([.inr (.inr (10, 1)), .inr (.inr (7, 1)), .inr (.inr (8, 1)), .inr (.inr (21, 1)), .inl i, w5, w6], [.inr (.inr (21, 1)), .inl (Ls.2 (i + 2).toNatClampNeg), .inl (Ls.2 (i + 1).toNatClampNeg), .inr (.inr (7, 1))], h)
  refine a_callw (as9 := [.inr (.inr (7, 1)), .inl (Ls.2 (i + 1).toNatClampNeg), .inl (Ls.2 (i + 2).toNatClampNeg), .inr (.inr (21, 1))]) (rest := []) C hnc (lc_idle I K) (fun k h1 hz => by obtain ⟨n9, hn, -⟩ := hz; cases hn) wl_756 wl_754 wl_755 wl_54 (by show _ ≠ _ ∧ _ ≠ _ ∧ _ = some 4; decide +kernel) (Nat.le_of_ble_eq_true rfl) (Nat.le_of_ble_eq_true rfl) (by decide +kernel) (Nat.le_of_ble_eq_true rfl) (by show x_ce h + 2 ≤ 601024; omega) (by show x_so h + 12 ≤ 7293033; omega) (fun v9 h1 hz => ?_)
  obtain ⟨n, hn, I1, hT⟩ := hz
  cases hn
  have hT : cz_idle (x_setc h1 (x_ce h + 2) (x_so h + 12)) ((Ls.2 (i + 1).toNatClampNeg)) ((Ls.2 (i + 2).toNatClampNeg)) n v := hT
  have J : LI Ls (x_setc h1 (x_ce h + 2) (x_so h + 12)) F := I1.setc
  show x_At n0 oa D p l e R s m args below meth c xm_law h0 (x_MQ n0 oa D s args below xm_law h0 ZL) 792 ([.inr (.inr (10, 1)), .inr (.inr (7, 1)), .inr (.inr (8, 1)), .inr (.inr (21, 1)), .inl i, w5, w6], [.inl n], (x_setc h1 (x_ce h + 2) (x_so h + 12)))
  have e1 : x_ce (x_setc h1 (x_ce h + 2) (x_so h + 12)) = x_ce h + 2 := rfl
  have e2 : x_so (x_setc h1 (x_ce h + 2) (x_so h + 12)) = x_so h + 12 := rfl
  generalize x_setc h1 (x_ce h + 2) (x_so h + 12) = g at J hT e1 e2 ⊢
  refine a_blk (N := 2000000000000) C oL_792 ?_
  refine q_istore (Nat.le_of_ble_eq_true rfl) ?_
  show x_seq _ _ _ _ ([.inr (.inr (10, 1)), .inr (.inr (7, 1)), .inr (.inr (8, 1)), .inr (.inr (21, 1)), .inl i, .inl n, w6], [], g)
  refine q_aload rfl (by decide) ?_
  refine q_scr rfl rfl rfl (k := 1) (by decide) J.2.2.2.2.2.2 hi hL ?_
  refine q_scr rfl rfl rfl (k := 2) (by decide) J.2.2.2.2.2.2 hi hL ?_
  refine q_callv rfl (by decide) (j := 1) ⟨Nat.le_refl 1, Nat.le_of_eq J.2.1.1.symm⟩ (Nat.le_of_ble_eq_true rfl) (Nat.le_of_ble_eq_true rfl) (by omega) (by omega) ?_
  refine rc_idle (x1 := (Ls.2 (i + 1).toNatClampNeg)) (x2 := (Ls.2 (i + 2).toNatClampNeg)) J hT hv (fun o F2 hM hr => ?_)
  obtain ⟨n2, rfl, -, -, cR⟩ := hr
  show x_seq _ _ _ _ ([.inr (.inr (10, 1)), .inr (.inr (7, 1)), .inr (.inr (8, 1)), .inr (.inr (21, 1)), .inl i, .inl n, w6], [.inl n2], x_setc (mh (x_setc g 0 0) F2) (x_ce g + 0) (x_so g + 0))
  have J2 : LI Ls (x_setc (mh (x_setc g 0 0) F2) (x_ce g + 0) (x_so g + 0)) F2 := ((J.setc (a := 0) (b := 0)).rf hM).setc
  have cR : ∃ v' : vS × Nat, kP v' v' (x_setc (mh (x_setc g 0 0) F2) (x_ce g + 0) (x_so g + 0)) ∧ v'.2 ≤ v.2 + 1 := cR
  have e3 : x_ce (x_setc (mh (x_setc g 0 0) F2) (x_ce g + 0) (x_so g + 0)) = x_ce g + 0 := rfl
  have e4 : x_so (x_setc (mh (x_setc g 0 0) F2) (x_ce g + 0) (x_so g + 0)) = x_so g + 0 := rfl
  generalize x_setc (mh (x_setc g 0 0) F2) (x_ce g + 0) (x_so g + 0) = g2 at J2 cR e3 e4 ⊢
  refine q_istore (Nat.le_of_ble_eq_true rfl) ?_
  show x_seq _ _ _ _ ([.inr (.inr (10, 1)), .inr (.inr (7, 1)), .inr (.inr (8, 1)), .inr (.inr (21, 1)), .inl i, .inl n, .inl n2], [], g2)
  refine q_goto ?_
  obtain ⟨v9, K9, b9⟩ := cR
  exact nxt (.inl n) (.inl n2) _ _ v9 J2 K9 b9 (by omega) (by omega)
theorem lk_overflow {h : xH} {F : xF} {v : vS × Nat} {i : Int32} {w5 w6 : xV} (C : x_Cx n0 oa D xm_law h0 p l R s m args meth c) (hnc : va_Nc (x_en 2) (x_en 1) s) (I : LI Ls h F) (K : kP v v h) (hv : v.2 ≤ 600) (hi : 0 ≤ i.toInt ∧ i.toInt + 5 < (Ls.1 : Int)) (hL : Ls.1 ≤ 3072) (hce : x_ce h ≤ 600000) (hso : x_so h ≤ 7000000)
    (nxt : ∀ (w5 w6 : xV) (h' : xH) (F' : xF) (v' : vS × Nat), LI Ls h' F' → kP v' v' h' → v'.2 ≤ v.2 + 1 → x_ce h' ≤ x_ce h + 7 → x_so h' ≤ x_so h + 55 → x_At n0 oa D p l e R s m args below meth c xm_law h0 (x_MQ n0 oa D s args below xm_law h0 ZL) 883 ([.inr (.inr (10, 1)), .inr (.inr (7, 1)), .inr (.inr (8, 1)), .inr (.inr (21, 1)), .inl i, w5, w6], [], h')) :
    x_At n0 oa D p l e R s m args below meth c xm_law h0 (x_MQ n0 oa D s args below xm_law h0 ZL) 815 ([.inr (.inr (10, 1)), .inr (.inr (7, 1)), .inr (.inr (8, 1)), .inr (.inr (21, 1)), .inl i, w5, w6], [], h) := by
  refine a_blk (N := 2000000000000) C oL_815 ?_
  refine q_aload rfl (by decide) ?_
  refine q_scr rfl rfl rfl (k := 1) (by decide) I.2.2.2.2.2.2 hi hL ?_
  refine q_scr rfl rfl rfl (k := 2) (by decide) I.2.2.2.2.2.2 hi hL ?_
  refine q_aload rfl (by decide) ?_
  refine q_goto ?_
  show x_At n0 oa D p l e R s m args below meth c xm_law h0 (x_MQ n0 oa D s args below xm_law h0 ZL) 829 ([.inr (.inr (10, 1)), .inr (.inr (7, 1)), .inr (.inr (8, 1)), .inr (.inr (21, 1)), .inl i, w5, w6], [.inr (.inr (21, 1)), .inl (Ls.2 (i + 2).toNatClampNeg), .inl (Ls.2 (i + 1).toNatClampNeg), .inr (.inr (7, 1))], h)
  refine a_callw (as9 := [.inr (.inr (7, 1)), .inl (Ls.2 (i + 1).toNatClampNeg), .inl (Ls.2 (i + 2).toNatClampNeg), .inr (.inr (21, 1))]) (rest := []) C hnc (lc_overflow I K) (fun k h1 hz => by obtain ⟨n9, hn, -⟩ := hz; cases hn) wl_771 wl_769 wl_770 wl_54 (by show _ ≠ _ ∧ _ ≠ _ ∧ _ = some 4; decide +kernel) (Nat.le_of_ble_eq_true rfl) (Nat.le_of_ble_eq_true rfl) (by decide +kernel) (Nat.le_of_ble_eq_true rfl) (by show x_ce h + 1 ≤ 601024; omega) (by show x_so h + 6 ≤ 7293033; omega) (fun v9 h1 hz => ?_)
  obtain ⟨n, hn, I1, hT⟩ := hz
  cases hn
  have hT : cz_overflow (x_setc h1 (x_ce h + 1) (x_so h + 6)) ((Ls.2 (i + 1).toNatClampNeg)) ((Ls.2 (i + 2).toNatClampNeg)) n v := hT
  have J : LI Ls (x_setc h1 (x_ce h + 1) (x_so h + 6)) F := I1.setc
  show x_At n0 oa D p l e R s m args below meth c xm_law h0 (x_MQ n0 oa D s args below xm_law h0 ZL) 832 ([.inr (.inr (10, 1)), .inr (.inr (7, 1)), .inr (.inr (8, 1)), .inr (.inr (21, 1)), .inl i, w5, w6], [.inl n], (x_setc h1 (x_ce h + 1) (x_so h + 6)))
  have e1 : x_ce (x_setc h1 (x_ce h + 1) (x_so h + 6)) = x_ce h + 1 := rfl
  have e2 : x_so (x_setc h1 (x_ce h + 1) (x_so h + 6)) = x_so h + 6 := rfl
  generalize x_setc h1 (x_ce h + 1) (x_so h + 6) = g at J hT e1 e2 ⊢
  refine a_blk (N := 2000000000000) C oL_832 ?_
  refine q_istore (Nat.le_of_ble_eq_true rfl) ?_
  show x_seq _ _ _ _ ([.inr (.inr (10, 1)), .inr (.inr (7, 1)), .inr (.inr (8, 1)), .inr (.inr (21, 1)), .inl i, .inl n, w6], [], g)
  refine q_aload rfl (by decide) ?_
  refine q_scr rfl rfl rfl (k := 1) (by decide) J.2.2.2.2.2.2 hi hL ?_
  refine q_scr rfl rfl rfl (k := 2) (by decide) J.2.2.2.2.2.2 hi hL ?_
  refine q_callv rfl (by decide) (j := 1) ⟨Nat.le_refl 1, Nat.le_of_eq J.2.1.1.symm⟩ (Nat.le_of_ble_eq_true rfl) (Nat.le_of_ble_eq_true rfl) (by omega) (by omega) ?_
  refine rc_overflow (x1 := (Ls.2 (i + 1).toNatClampNeg)) (x2 := (Ls.2 (i + 2).toNatClampNeg)) J hT hv (fun o F2 hM hr => ?_)
  obtain ⟨n2, rfl, cR⟩ := hr
  show x_seq _ _ _ _ ([.inr (.inr (10, 1)), .inr (.inr (7, 1)), .inr (.inr (8, 1)), .inr (.inr (21, 1)), .inl i, .inl n, w6], [.inl n2], x_setc (mh (x_setc g 0 0) F2) (x_ce g + 0) (x_so g + 0))
  have J2 : LI Ls (x_setc (mh (x_setc g 0 0) F2) (x_ce g + 0) (x_so g + 0)) F2 := ((J.setc (a := 0) (b := 0)).rf hM).setc
  have cR : cmI (v.2 + 1) (x_setc (mh (x_setc g 0 0) F2) (x_ce g + 0) (x_so g + 0)) F2 n n2 := cR
  have e3 : x_ce (x_setc (mh (x_setc g 0 0) F2) (x_ce g + 0) (x_so g + 0)) = x_ce g + 0 := rfl
  have e4 : x_so (x_setc (mh (x_setc g 0 0) F2) (x_ce g + 0) (x_so g + 0)) = x_so g + 0 := rfl
  generalize x_setc (mh (x_setc g 0 0) F2) (x_ce g + 0) (x_so g + 0) = g2 at J2 cR e3 e4 ⊢
  refine q_istore (Nat.le_of_ble_eq_true rfl) ?_
  show x_seq _ _ _ _ ([.inr (.inr (10, 1)), .inr (.inr (7, 1)), .inr (.inr (8, 1)), .inr (.inr (21, 1)), .inl i, .inl n, .inl n2], [], g2)
  refine q_aload rfl (by decide) ?_
  refine q_callv rfl (by decide) (j := 1) ⟨Nat.le_refl 1, Nat.le_of_eq J2.2.1.1.symm⟩ (Nat.le_of_ble_eq_true rfl) (Nat.le_of_ble_eq_true rfl) (by omega) (by omega) ?_
  refine rc_thrown J2 ?_
  show x_seq _ _ _ _ ([.inr (.inr (10, 1)), .inr (.inr (7, 1)), .inr (.inr (8, 1)), .inr (.inr (21, 1)), .inl i, .inl n, .inl n2], [.inl (F2 8 0)], x_setc (x_setc g2 0 0) (x_ce g2 + 0) (x_so g2 + 0))
  have J3 : LI Ls (x_setc (x_setc g2 0 0) (x_ce g2 + 0) (x_so g2 + 0)) F2 := J2.setc
  have e5 : x_ce (x_setc (x_setc g2 0 0) (x_ce g2 + 0) (x_so g2 + 0)) = x_ce g2 + 0 := rfl
  have e6 : x_so (x_setc (x_setc g2 0 0) (x_ce g2 + 0) (x_so g2 + 0)) = x_so g2 + 0 := rfl
  have c3 : cmI (v.2 + 1) (x_setc (x_setc g2 0 0) (x_ce g2 + 0) (x_so g2 + 0)) F2 n n2 := cR
  generalize x_setc (x_setc g2 0 0) (x_ce g2 + 0) (x_so g2 + 0) = g3 at J3 e5 e6 c3 ⊢
  refine q_iload rfl ?_
  refine v_icmp_eq (fun d => ?_) (fun d => (d c3.1).elim)
  refine a_blk (N := 2000000000000) C oL_863 ?_
  refine q_iload rfl ?_
  refine v_if_ne (fun d2 => ?_) (fun d2 => ?_)
  · refine a_blk (N := 2000000000000) C oL_880 (q_goto ?_)
    obtain ⟨v9, K9, b9⟩ := c3.2.2
    exact nxt (.inl n) (.inl n2) _ _ v9 J3 K9 b9 (by omega) (by omega)
  · skip
    refine q_aload rfl (by decide) (q_iconst (q_lld ⟨Nat.le_refl 1, Nat.le_of_eq J3.2.2.2.2.1.symm⟩ J3.2.2.2.2.2.1 (q_iload rfl (q_i2l (q_lcmp ?_)))))
    rw [c3.2.1 d2, lg_same]
    refine v_if_eq (fun d3 => ?_) (fun d3 => (d3 rfl).elim)
    refine a_blk (N := 2000000000000) C oL_880 (q_goto ?_)
    obtain ⟨v9, K9, b9⟩ := c3.2.2
    exact nxt (.inl n) (.inl n2) _ _ v9 J3 K9 b9 (by omega) (by omega)
theorem law_loop (C : x_Cx n0 oa D xm_law h0 p l R s m args meth c) (hnc : va_Nc (x_en 2) (x_en 1) s) (hL : Ls.1 ≤ 3072) : ∀ (k : Nat) (i : Int32) (w5 w6 : xV) (h : xH) (F : xF) (v : vS × Nat), LI Ls h F → kP v v h → 6 * (v.2 : Int) ≤ i.toInt → 0 ≤ i.toInt → i.toInt ≤ (Ls.1 : Int) → 6 * (x_ce h : Int) ≤ 12000 + 7 * i.toInt → 6 * (x_so h : Int) ≤ 120000 + 55 * i.toInt → ((Ls.1 : Int) - i.toInt).toNat < k → x_At n0 oa D p l e R s m args below meth c xm_law h0 (x_MQ n0 oa D s args below xm_law h0 ZL) 23 ([.inr (.inr (10, 1)), .inr (.inr (7, 1)), .inr (.inr (8, 1)), .inr (.inr (21, 1)), .inl i, w5, w6], [], h) := by
  intro k
  induction k with
  | zero => intro i w5 w6 h F v _ _ _ _ _ _ _ hk; exact absurd hk (by omega)
  | succ k ih =>
    intro i w5 w6 h F v I K hw i0 i1 b1 b2 hk
    have eL : x_ln h 10 1 = Ls.1 := congrArg Prod.fst I.2.2.2.2.2.2
    have eo : (Int32.ofNat (x_ln h 10 1)).toInt = (Ls.1 : Int) := by rw [eL]; exact Int32.toInt_ofNat_of_lt (by omega)
    refine a_blk (N := 2000000000000) C oL_23 ?_
    refine q_iload rfl (q_aload rfl (by decide) ⟨rfl, rfl, ?_⟩)
    show x_seq _ _ _ _ (_, [.inl (Int32.ofNat (x_ln h 10 1)), .inl i], h)
    refine v_iconst (k := 6) rfl (fun v1 e1 => v_isub (by omega) (fun v2 e2 => v_icmp_gt (fun d => ?_) (fun d => ?_)))
    · refine a_blk (N := 2000000000000) C oL_889 ?_
      exact q_iconst (q_zret (Or.inr rfl) rfl)
    · refine q_scr0 rfl rfl ⟨i0, by rw [eL]; omega⟩ (q_iconst (q_bin ?_))
      have nxt : ∀ (w5 w6 : xV) (h' : xH) (F' : xF) (v' : vS × Nat), LI Ls h' F' → kP v' v' h' → v'.2 ≤ v.2 + 1 → x_ce h' ≤ x_ce h + 7 → x_so h' ≤ x_so h + 55 → x_At n0 oa D p l e R s m args below meth c xm_law h0 (x_MQ n0 oa D s args below xm_law h0 ZL) 883 ([.inr (.inr (10, 1)), .inr (.inr (7, 1)), .inr (.inr (8, 1)), .inr (.inr (21, 1)), .inl i, w5, w6], [], h') := by
        intro w5 w6 h' F' v' I' K' hw' c1 c2
        refine a_blk (N := 2000000000000) C oL_883 ?_
        refine v_iinc (k := 6) rfl rfl (by omega) (by omega) (fun i2 e3 => q_goto ?_)
        exact ih i2 w5 w6 h' F' v' I' K' (by omega) (by omega) (by omega) (by omega) (by omega) (by omega)
      have cE : x_ce h ≤ 600000 := by omega
      have cS : x_so h ≤ 7000000 := by omega
      generalize x_vi h 10 1 i.toNatClampNeg &&& 15 = sw9
      refine ⟨fun k9 a9 hk9 hx9 => ?_, fun hx9 => ?_⟩
      · have hlt9 := (List.getElem?_eq_some_iff.mp hk9).1
        rcases (show k9 = 0 ∨ k9 = 1 ∨ k9 = 2 ∨ k9 = 3 ∨ k9 = 4 ∨ k9 = 5 ∨ k9 = 6 ∨ k9 = 7 ∨ k9 = 8 ∨ k9 = 9 ∨ k9 = 10 ∨ k9 = 11 ∨ k9 = 12 ∨ k9 = 13 ∨ k9 = 14 ∨ k9 = 15 by simp at hlt9; omega) with rfl | rfl | rfl | rfl | rfl | rfl | rfl | rfl | rfl | rfl | rfl | rfl | rfl | rfl | rfl | rfl
        · cases hk9
          exact lk_trunk (h := h) (v := v) C hnc I K (by omega) ⟨i0, by omega⟩ hL cE cS nxt
        · cases hk9
          exact lk_route (h := h) (v := v) C hnc I K (by omega) ⟨i0, by omega⟩ hL cE cS nxt
        · cases hk9
          exact lk_hunt (h := h) (v := v) C hnc I K (by omega) ⟨i0, by omega⟩ hL cE cS nxt
        · cases hk9
          exact lk_lift (h := h) (v := v) C hnc I K (by omega) ⟨i0, by omega⟩ hL cE cS nxt
        · cases hk9
          exact lk_hang (h := h) (v := v) C hnc I K (by omega) ⟨i0, by omega⟩ hL cE cS nxt
        · cases hk9
          exact lk_dial (h := h) (v := v) C hnc I K (by omega) ⟨i0, by omega⟩ hL cE cS nxt
        · cases hk9
          exact lk_tick (h := h) (v := v) C hnc I K (by omega) ⟨i0, by omega⟩ hL cE cS nxt
        · cases hk9
          exact lk_out (h := h) (v := v) C hnc I K (by omega) ⟨i0, by omega⟩ hL cE cS nxt
        · cases hk9
          exact lk_hold (h := h) (v := v) C hnc I K (by omega) ⟨i0, by omega⟩ hL cE cS nxt
        · cases hk9
          exact lk_tone (h := h) (v := v) C hnc I K (by omega) ⟨i0, by omega⟩ hL cE cS nxt
        · cases hk9
          exact lk_rings (h := h) (v := v) C hnc I K (by omega) ⟨i0, by omega⟩ hL cE cS nxt
        · cases hk9
          exact lk_talks (h := h) (v := v) C hnc I K (by omega) ⟨i0, by omega⟩ hL cE cS nxt
        · cases hk9
          exact lk_meter (h := h) (v := v) C hnc I K (by omega) ⟨i0, by omega⟩ hL cE cS nxt
        · cases hk9
          exact lk_seized (h := h) (v := v) C hnc I K (by omega) ⟨i0, by omega⟩ hL cE cS nxt
        · cases hk9
          exact lk_idle (h := h) (v := v) C hnc I K (by omega) ⟨i0, by omega⟩ hL cE cS nxt
        · cases hk9
          exact lk_overflow (h := h) (v := v) C hnc I K (by omega) ⟨i0, by omega⟩ hL cE cS nxt
      · exact nxt w5 w6 h F v I K (by omega) (by omega) (by omega)
end XLL
