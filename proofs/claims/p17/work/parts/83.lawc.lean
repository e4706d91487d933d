/-! THE LAW'S CALLERS AND THE REFERENCE, with the simulation (printed by gen_law4.py) -/
abbrev fI : Int32 → Int64 := fun n => n.toInt64
abbrev fB : Int32 → Int64 := fun n => if n = 0 then 0 else 1
def CQ (h : xH) : Prop := x_cn h 5 = 90 + x_cn h 4 ∧ x_cn h 20 = x_cn h 5
def VQ (v : vS) : Prop := v.2.2.2 5 = 90 + v.2.2.2 4 ∧ v.2.2.2 20 = v.2.2.2 5
def kP (v w : vS × Nat) (h : xH) : Prop := CQ h ∧ CR v.1 h ∧ ∃ F, MR F h ∧ Sim ((F 8 1).toInt + 1) w.1 F ∧ FB w.2 F
def KO (f : Int32 → Int64) (oo : xO) (k : Int32) (g : xH) : Prop := (∃ e : Nat, oo = .inr e ∧ k = if e = 1 then 1 else 2) ∨ ∃ w, oo = .inl w ∧ k = 0 ∧ ∀ n, w = some (.inl n) → x_lg g = f n
def cz (f : Int32 → Int64) (v1 : vS) (oo : xO) (g : xH) (k : Int32) (v : vS × Nat) : Prop := CQ g ∧ CR v1 g ∧ KO f oo k g ∧ VQ v.1 ∧ ∃ F, MR F g ∧ Sim ((F 8 1).toInt + 1) v.1 F ∧ FB v.2 F
def cmI (m : Nat) (g2 : xH) (F2 : xF) (k n2 : Int32) : Prop := (F2 8 0).toInt = k.toInt ∧ (k.toInt = 0 → x_lg g2 = n2.toInt64) ∧ ∃ v' : vS × Nat, kP v' v' g2 ∧ v'.2 ≤ m
def cmB (m : Nat) (g2 : xH) (F2 : xF) (k n2 : Int32) : Prop := (F2 8 0).toInt = k.toInt ∧ (k.toInt = 0 → x_lg g2 = (if n2 = 0 then 0 else 1)) ∧ ∃ v' : vS × Nat, kP v' v' g2 ∧ v'.2 ≤ m
def ZT (Q : xH → Int32 → Prop) (Ls : Nat × (Nat → Int32)) (F : xF) : xO → xH → Prop := fun o g => ∃ k : Int32, o = .inl (some (.inl k)) ∧ LI Ls g F ∧ Q g k
section XKO
variable {f : Int32 → Int64} {oo o : xO} {k n2 : Int32} {g h : xH} {t F : xF} {v v1 : vS}
theorem KO.thr (K : KO f oo k g) (A : AG oo o t) : (t 8 0).toInt = k.toInt := by
  rcases K with ⟨e, h1, h2⟩ | ⟨w, h1, h2, -⟩ <;> rcases A with ⟨e', a1, a2, a3, a4⟩ | ⟨w', a1, a2, a3⟩
  · have ee : e = e' := Sum.inr.inj (h1.symm.trans a1)
    subst ee
    rw [a2, h2]
    rcases (show e = 1 ∨ e = 2 by omega) with rfl | rfl <;> rfl
  · cases h1.symm.trans a1
  · cases h1.symm.trans a1
  · rw [a2, h2]
theorem KO.val (K : KO f oo k g) (A : AG oo (.inl (some (.inl n2))) t) (hk : k.toInt = 0) : x_lg g = f n2 := by
  rcases K with ⟨e, h1, h2⟩ | ⟨w, h1, h2, h3⟩
  · rw [h2] at hk
    by_cases z : e = 1
    · rw [if_pos z] at hk; exact absurd hk (by decide)
    · rw [if_neg z] at hk; exact absurd hk (by decide)
  · rcases A with ⟨e', a1, a2, a3, a4⟩ | ⟨w', a1, a2, a3⟩
    · cases h1.symm.trans a1
    · refine h3 n2 ?_
      have e1 := Sum.inl.inj (h1.symm.trans a1)
      have e2 := Sum.inl.inj a3
      rw [e1, ← e2]
theorem MR.mq (C : MR F h) (e : x_mq g = x_mq h) : MR F g := by
  have m8 := x_mq_at e (K := 8) rfl
  refine ⟨m8.2.2.2.trans C.1, fun k K n hm => ?_, fun k => ?_, fun K i h1 h2 => ?_⟩
  · have hK := msl_K hm
    have q := x_mq_at e (xm_kr hK)
    obtain ⟨c1, c2, c3⟩ := C.2.1 k K n hm
    exact ⟨(congrFun (congrFun m8.2.1 k) 1).trans c1, q.2.2.2.trans c2, (congrFun q.2.2.1 1).trans c3⟩
  · exact (congrFun (congrFun m8.1 k) 1).trans (C.2.2.1 k)
  · have q := x_mq_at e (xm_kr ⟨h1, h2⟩)
    exact (congrFun (congrFun q.1 1) i).trans (C.2.2.2 K i h1 h2)
theorem CR.cg (C : CR v h) (e : ∀ K, ck K → x_cn g K = x_cn h K ∧ x_ln g K = x_ln h K ∧ x_vi g K = x_vi h K ∧ x_vr g K = x_vr h K) : CR v g := by
  have k5 : ck 5 := by unfold ck; omega
  have k20 : ck 20 := by unfold ck; omega
  have lv : ∀ K j, ck K → x_live g K j → x_live h K j := fun K j hk l => ⟨l.1, by rw [← (e K hk).1]; exact l.2⟩
  have ci : ∀ K, cri K = true → ck K := fun K hk => by
    simp only [cri, Bool.and_eq_true, Bool.not_eq_true', beq_eq_false_iff_ne, Nat.ble_eq] at hk
    unfold ck
    omega
  have cr : ∀ K, crr K = true → ck K := fun K hk => by
    simp only [crr, Bool.and_eq_true, Bool.not_eq_true', beq_eq_false_iff_ne, Nat.ble_eq] at hk
    unfold ck
    omega
  refine ⟨⟨fun K hk => (e K hk).1.trans (C.1.1 K hk), fun K k j hk => ?_, fun K k j hk => ?_, fun K L j hm l => ?_, fun r l => ?_, C.1.2.2.2.2.2⟩, fun r l => ?_⟩
  · rw [(e K (ci K hk)).2.2.1]
    exact C.1.2.1 K k j hk
  · rw [(e K (cr K hk)).2.2.2]
    exact C.1.2.2.1 K k j hk
  · have q := lnl_k hm
    have hk : ck K := by unfold ck; omega
    rw [(e K hk).2.1]
    exact C.1.2.2.2.1 K L j hm (lv K j hk l)
  · rw [(e 20 k20).2.1]
    exact C.1.2.2.2.2.1 r (lv 5 r k5 l)
  · unfold RWL
    rw [(e 5 k5).2.2.1, (e 20 k20).2.2.1]
    exact C.2 r (lv 5 r k5 l)
theorem CR.mh (C : CR v h) : CR v (mh h F) := C.cg (fun K hk => ⟨rfl, rfl, mh_vi hk.2.1 (by have := hk.1; omega), rfl⟩)
theorem CQ.pj (q : CQ h) (e : x_pj g = x_pj h) : CQ g := by
  have c : x_cn g = x_cn h := congrArg (fun p : xP => p.1) e
  unfold CQ at q ⊢
  rw [c]
  exact q
theorem CQ.vq (q : CQ h) (C : CR v h) : VQ v := by
  unfold CQ at q
  rw [C.1.cn (by unfold ck; omega), C.1.cn (by unfold ck; omega), C.1.cn (by unfold ck; omega)] at q
  exact q
theorem CQ.of (C : CR v h) (q : VQ v) : CQ h := by
  unfold CQ
  rw [C.1.cn (by unfold ck; omega), C.1.cn (by unfold ck; omega), C.1.cn (by unfold ck; omega)]
  exact q
theorem VQ.trunk {x y : Int32} (q : VQ v) : VQ (vtrunk v x y) := by
  unfold vtrunk
  split
  · exact q
  · exact q
theorem vrt2_c {m : Nat} {y u q : Int32} : (vrt2 v m y u q).2.2.2 = v.2.2.2 := by
  unfold vrt2
  split <;> rfl
theorem vadr_c {j m : Nat} : (vadr v j m).2.2.2 = v.2.2.2 := by
  unfold vadr
  split <;> rfl
theorem VQ.route {x p y u q : Int32} (h : VQ v) : VQ (vroute v x p y u q) := by
  unfold vroute
  split
  · split
    · split
      · unfold VQ vrtn
        rw [vrt2_c, vadr_c]
        unfold VQ at h
        show v.2.2.2 5 + 1 = 90 + (v.2.2.2 4 + 1) ∧ v.2.2.2 5 + 1 = v.2.2.2 5 + 1
        omega
      · exact h
    · split
      · unfold VQ
        rw [vrt2_c]
        exact h
      · exact h
  · exact h
end XKO
section XCM
variable {n0 : Nat} {oa : Nat → Nat → Nat} {D : (Nat → ClassId) × (Nat → Nat → Nat) × (Nat → ClassId)} {Ls : Nat × (Nat → Int32)} {h : xH} {F : xF} {v : vS × Nat} {x1 x2 x3 x4 x5 k : Int32} {Z : xO → xH → Prop}
abbrev cz_trunk (g : xH) (x1 x2 k : Int32) (v : vS × Nat) : Prop := cz fI (vtrunk v.1 x1 x2) (otrunk v.1 x1 x2) g k v
theorem lc_trunk (I : LI Ls h F) (K : kP v v h) : x_ConW n0 oa D wm_trunk hh_trunk [.inr (.inr (7, 1)), .inl x1, .inl x2, .inr (.inr (21, 1))] (x_setc h 0 0) (ZT (fun g k => cz_trunk g x1 x2 k v) Ls F) := by
  obtain ⟨KQ, KC, F0, KM, KS, KB⟩ := K
  refine cw_trunk rfl rfl I.l7 ((tv47 (c := x_pj h) I.vi I.g7 (fun o g hp => hp)).en (e47) (cr_rs.1 _ _ 0 0 KC)) (fun v9 h1 hz => ?_) (fun k h1 hz => ?_)
  · obtain ⟨hz, t9, C9, ho, rfl⟩ := hz
    rcases hz with ⟨⟨hC, hm⟩, n, hn⟩ | ⟨⟨hC, hm⟩, k', hk⟩
    · have J := I.mq hC hm
      have M9 := KM.mq (g := h1) hm
      have Q9 : CQ h1 := CQ.of C9 (KQ.vq KC).trunk
      exact ⟨J.2.2.2.2.1, J.2.2.2.2.2.1, n, Sum.inl.inj hn, fun a b => ⟨0, rfl, J.setc.putl, Q9, C9, Or.inr ⟨some (.inl n), ho.symm.trans hn, rfl, fun n' e' => by cases e'; rfl⟩, KQ.vq KC, F0, M9, KS, KB⟩⟩
    · cases hk
  · obtain ⟨hz, t9, C9, ho, rfl⟩ := hz
    rcases hz with ⟨-, n, hn⟩ | ⟨⟨hC, hm⟩, k', hk⟩
    · cases hn
    · have J := I.mq hC (x_mq_of hm)
      have M9 := KM.mq (g := h1) (x_mq_of hm)
      have Q9 : CQ h1 := KQ.pj hm
      exact fun a b => ⟨_, rfl, J.setc, Q9, C9, Or.inl ⟨k, ho.symm, rfl⟩, KQ.vq KC, F0, M9, KS, KB⟩
theorem rc_trunk (I : LI Ls h F) (hT : cz_trunk h x1 x2 k v) (hv : v.2 ≤ 600) (hZ : ∀ o F', MX 72 F' → (∃ n2 : Int32, o = .inl (some (.inl n2)) ∧ cmI (v.2 + 1) (mh (x_setc h 0 0) F') F' k n2) → Z o (mh (x_setc h 0 0) F')) : xC 2000000000000 94 [.inr (.inr (8, 1)), .inl x1, .inl x2] (x_setc h 0 0) Z := by
  obtain ⟨KQ, KC, KK, VV, F0, KM, KS, KB⟩ := hT
  have e := (I.setc (a := 0) (b := 0)).2.2.2.1
  have H := tv94 (Z := fun o g => ∃ F', g = mh (x_setc h 0 0) F' ∧ MX 72 F' ∧ (∃ v : Int32, o = .inl (some (.inl v)))) (x1 := x1) (x2 := x2) I.2.1 I.2.2.1 (fun o F' hp => ⟨F', rfl, hp.1, hp.2⟩)
  rw [e] at H
  refine (H.en (s94 KS KB hv) (mr_rs.1 _ _ 0 0 KM)).mono (by decide) (fun o g hz => ?_)
  obtain ⟨⟨F', rfl, hM, hr⟩, t9, C9, S9, A9, B9⟩ := hz
  have K9 : kP (vtrunk v.1 x1 x2, v.2 + 1) (vtrunk v.1 x1 x2, v.2 + 1) (mh (x_setc h 0 0) F') := ⟨KQ, CR.mh (cr_rs.1 _ _ 0 0 KC), t9, C9, S9, B9⟩
  have T9 : (F' 8 0).toInt = k.toInt := by rw [← C9.eq.1 0]; exact KK.thr A9
  obtain ⟨n2, rfl⟩ := hr
  exact hZ _ F' hM ⟨n2, rfl, T9, fun hk => KK.val A9 hk, _, K9, Nat.le_refl _⟩
abbrev cz_route (g : xH) (x1 x2 x3 x4 x5 k : Int32) (v : vS × Nat) : Prop := cz fI (vroute v.1 x1 x2 x3 x4 x5) (oroute v.1 x1 x2 x3 x4 x5) g k v
theorem lc_route (I : LI Ls h F) (K : kP v v h) : x_ConW n0 oa D wm_route hh_route [.inr (.inr (7, 1)), .inl x1, .inl x2, .inl x3, .inl x4, .inl x5, .inr (.inr (21, 1))] (x_setc h 0 0) (ZT (fun g k => cz_route g x1 x2 x3 x4 x5 k v) Ls F) := by
  obtain ⟨KQ, KC, F0, KM, KS, KB⟩ := K
  have q9 := KQ.vq KC
  refine cw_route rfl rfl I.l7 ((tv49 (c := x_pj h) I.vi I.g7 (fun o g hp => hp)).en (e49 q9.1 q9.2) (cr_rs.1 _ _ 0 0 KC)) (fun v9 h1 hz => ?_) (fun k h1 hz => ?_)
  · obtain ⟨hz, t9, C9, ho, rfl⟩ := hz
    rcases hz with ⟨⟨hC, hm⟩, n, hn⟩ | ⟨⟨hC, hm⟩, k', hk⟩
    · have J := I.mq hC hm
      have M9 := KM.mq (g := h1) hm
      have Q9 : CQ h1 := CQ.of C9 q9.route
      exact ⟨J.2.2.2.2.1, J.2.2.2.2.2.1, n, Sum.inl.inj hn, fun a b => ⟨0, rfl, J.setc.putl, Q9, C9, Or.inr ⟨some (.inl n), ho.symm.trans hn, rfl, fun n' e' => by cases e'; rfl⟩, KQ.vq KC, F0, M9, KS, KB⟩⟩
    · cases hk
  · obtain ⟨hz, t9, C9, ho, rfl⟩ := hz
    rcases hz with ⟨-, n, hn⟩ | ⟨⟨hC, hm⟩, k', hk⟩
    · cases hn
    · have J := I.mq hC (x_mq_of hm)
      have M9 := KM.mq (g := h1) (x_mq_of hm)
      have Q9 : CQ h1 := KQ.pj hm
      exact fun a b => ⟨_, rfl, J.setc, Q9, C9, Or.inl ⟨k, ho.symm, rfl⟩, KQ.vq KC, F0, M9, KS, KB⟩
theorem rc_route (I : LI Ls h F) (hT : cz_route h x1 x2 x3 x4 x5 k v) (hv : v.2 ≤ 600) (hZ : ∀ o F', MX 72 F' → (∃ n2 : Int32, o = .inl (some (.inl n2)) ∧ cmI (v.2 + 1) (mh (x_setc h 0 0) F') F' k n2) → Z o (mh (x_setc h 0 0) F')) : xC 2000000000000 97 [.inr (.inr (8, 1)), .inl x1, .inl x2, .inl x3, .inl x4, .inl x5] (x_setc h 0 0) Z := by
  obtain ⟨KQ, KC, KK, VV, F0, KM, KS, KB⟩ := hT
  have e := (I.setc (a := 0) (b := 0)).2.2.2.1
  have H := tv97 (Z := fun o g => ∃ F', g = mh (x_setc h 0 0) F' ∧ MX 72 F' ∧ (∃ v : Int32, o = .inl (some (.inl v)))) (x1 := x1) (x2 := x2) (x3 := x3) (x4 := x4) (x5 := x5) I.2.1 I.2.2.1 (fun o F' hp => ⟨F', rfl, hp.1, hp.2⟩)
  rw [e] at H
  refine (H.en (s97 KS KB hv VV.1) (mr_rs.1 _ _ 0 0 KM)).mono (by decide) (fun o g hz => ?_)
  obtain ⟨⟨F', rfl, hM, hr⟩, t9, C9, S9, A9, B9⟩ := hz
  have K9 : kP (vroute v.1 x1 x2 x3 x4 x5, v.2 + 1) (vroute v.1 x1 x2 x3 x4 x5, v.2 + 1) (mh (x_setc h 0 0) F') := ⟨KQ, CR.mh (cr_rs.1 _ _ 0 0 KC), t9, C9, S9, B9⟩
  have T9 : (F' 8 0).toInt = k.toInt := by rw [← C9.eq.1 0]; exact KK.thr A9
  obtain ⟨n2, rfl⟩ := hr
  exact hZ _ F' hM ⟨n2, rfl, T9, fun hk => KK.val A9 hk, _, K9, Nat.le_refl _⟩
abbrev cz_hunt (g : xH) (x1 x2 x3 k : Int32) (v : vS × Nat) : Prop := cz fI (vhunt v.1 x1 x2 x3) (ohunt v.1 x1 x2 x3) g k v
theorem lc_hunt (I : LI Ls h F) (K : kP v v h) : x_ConW n0 oa D wm_hunt hh_hunt [.inr (.inr (7, 1)), .inl x1, .inl x2, .inl x3, .inr (.inr (21, 1))] (x_setc h 0 0) (ZT (fun g k => cz_hunt g x1 x2 x3 k v) Ls F) := by
  obtain ⟨KQ, KC, F0, KM, KS, KB⟩ := K
  refine cw_hunt rfl rfl I.l7 ((tv50 (c := x_pj h) I.vi I.g7 (fun o g hp => hp)).en (e50) (cr_rs.1 _ _ 0 0 KC)) (fun v9 h1 hz => ?_) (fun k h1 hz => ?_)
  · obtain ⟨hz, t9, C9, ho, rfl⟩ := hz
    rcases hz with ⟨⟨hC, hm⟩, n, hn⟩ | ⟨⟨hC, hm⟩, k', hk⟩
    · have J := I.mq hC (x_mq_of hm)
      have M9 := KM.mq (g := h1) (x_mq_of hm)
      have Q9 : CQ h1 := KQ.pj hm
      exact ⟨J.2.2.2.2.1, J.2.2.2.2.2.1, n, Sum.inl.inj hn, fun a b => ⟨0, rfl, J.setc.putl, Q9, C9, Or.inr ⟨some (.inl n), ho.symm.trans hn, rfl, fun n' e' => by cases e'; rfl⟩, KQ.vq KC, F0, M9, KS, KB⟩⟩
    · cases hk
  · obtain ⟨hz, t9, C9, ho, rfl⟩ := hz
    rcases hz with ⟨-, n, hn⟩ | ⟨⟨hC, hm⟩, k', hk⟩
    · cases hn
    · have J := I.mq hC (x_mq_of hm)
      have M9 := KM.mq (g := h1) (x_mq_of hm)
      have Q9 : CQ h1 := KQ.pj hm
      exact fun a b => ⟨_, rfl, J.setc, Q9, C9, Or.inl ⟨k, ho.symm, rfl⟩, KQ.vq KC, F0, M9, KS, KB⟩
theorem rc_hunt (I : LI Ls h F) (hT : cz_hunt h x1 x2 x3 k v) (hv : v.2 ≤ 600) (hZ : ∀ o F', MX 72 F' → (∃ n2 : Int32, o = .inl (some (.inl n2)) ∧ cmI (v.2 + 1) (mh (x_setc h 0 0) F') F' k n2) → Z o (mh (x_setc h 0 0) F')) : xC 2000000000000 98 [.inr (.inr (8, 1)), .inl x1, .inl x2, .inl x3] (x_setc h 0 0) Z := by
  obtain ⟨KQ, KC, KK, VV, F0, KM, KS, KB⟩ := hT
  have e := (I.setc (a := 0) (b := 0)).2.2.2.1
  have H := tv98 (Z := fun o g => ∃ F', g = mh (x_setc h 0 0) F' ∧ MX 72 F' ∧ (∃ v : Int32, o = .inl (some (.inl v)))) (x1 := x1) (x2 := x2) (x3 := x3) I.2.1 I.2.2.1 (fun o F' hp => ⟨F', rfl, hp.1, hp.2⟩)
  rw [e] at H
  refine (H.en (s98 KS KB hv) (mr_rs.1 _ _ 0 0 KM)).mono (by decide) (fun o g hz => ?_)
  obtain ⟨⟨F', rfl, hM, hr⟩, t9, C9, S9, A9, B9⟩ := hz
  have K9 : kP (vhunt v.1 x1 x2 x3, v.2 + 1) (vhunt v.1 x1 x2 x3, v.2 + 1) (mh (x_setc h 0 0) F') := ⟨KQ, CR.mh (cr_rs.1 _ _ 0 0 KC), t9, C9, S9, B9⟩
  have T9 : (F' 8 0).toInt = k.toInt := by rw [← C9.eq.1 0]; exact KK.thr A9
  obtain ⟨n2, rfl⟩ := hr
  exact hZ _ F' hM ⟨n2, rfl, T9, fun hk => KK.val A9 hk, _, K9, Nat.le_refl _⟩
abbrev cz_lift (g : xH) (x1 x2 k : Int32) (v : vS × Nat) : Prop := cz fI (vlift v.1 x1 x2) (olift v.1 x1 x2) g k v
theorem lc_lift (I : LI Ls h F) (K : kP v v h) : x_ConW n0 oa D wm_lift hh_lift [.inr (.inr (7, 1)), .inl x1, .inl x2] (x_setc h 0 0) (ZT (fun g k => cz_lift g x1 x2 k v) Ls F) := by
  obtain ⟨KQ, KC, F0, KM, KS, KB⟩ := K
  refine cw_lift rfl rfl I.l7 ((tv58 (c := x_pj h) I.vi I.g7 (fun o g hp => hp)).en (e58) (cr_rs.1 _ _ 0 0 KC)) (fun v9 h1 hz => ?_) (fun k h1 hz => ?_)
  · obtain ⟨hz, t9, C9, ho, rfl⟩ := hz
    rcases hz with ⟨⟨hC, hm⟩, hn⟩ | ⟨⟨hC, hm⟩, k', hk⟩
    · have J := I.mq hC (x_mq_of hm)
      have M9 := KM.mq (g := h1) (x_mq_of hm)
      have Q9 : CQ h1 := KQ.pj hm
      exact ⟨Sum.inl.inj hn, fun a b => ⟨0, rfl, J.setc, Q9, C9, Or.inr ⟨none, ho.symm.trans hn, rfl, fun n' e' => by cases e'⟩, KQ.vq KC, F0, M9, KS, KB⟩⟩
    · cases hk
  · obtain ⟨hz, t9, C9, ho, rfl⟩ := hz
    rcases hz with ⟨-, hn⟩ | ⟨⟨hC, hm⟩, k', hk⟩
    · cases hn
    · have J := I.mq hC (x_mq_of hm)
      have M9 := KM.mq (g := h1) (x_mq_of hm)
      have Q9 : CQ h1 := KQ.pj hm
      exact fun a b => ⟨_, rfl, J.setc, Q9, C9, Or.inl ⟨k, ho.symm, rfl⟩, KQ.vq KC, F0, M9, KS, KB⟩
theorem rc_lift (I : LI Ls h F) (hT : cz_lift h x1 x2 k v) (hv : v.2 ≤ 600) (hZ : ∀ o F', MX 72 F' → (o = .inl none ∧ (F' 8 0).toInt = k.toInt ∧ ∃ v' : vS × Nat, kP v' v' (mh (x_setc h 0 0) F') ∧ v'.2 ≤ v.2 + 1) → Z o (mh (x_setc h 0 0) F')) : xC 2000000000000 110 [.inr (.inr (8, 1)), .inl x1, .inl x2] (x_setc h 0 0) Z := by
  obtain ⟨KQ, KC, KK, VV, F0, KM, KS, KB⟩ := hT
  have e := (I.setc (a := 0) (b := 0)).2.2.2.1
  have H := tv110 (Z := fun o g => ∃ F', g = mh (x_setc h 0 0) F' ∧ MX 72 F' ∧ o = .inl none) (x1 := x1) (x2 := x2) I.2.1 I.2.2.1 (fun o F' hp => ⟨F', rfl, hp.1, hp.2⟩)
  rw [e] at H
  refine (H.en (s110 KS KB hv) (mr_rs.1 _ _ 0 0 KM)).mono (by decide) (fun o g hz => ?_)
  obtain ⟨⟨F', rfl, hM, hr⟩, t9, C9, S9, A9, B9⟩ := hz
  have K9 : kP (vlift v.1 x1 x2, v.2 + 1) (vlift v.1 x1 x2, v.2 + 1) (mh (x_setc h 0 0) F') := ⟨KQ, CR.mh (cr_rs.1 _ _ 0 0 KC), t9, C9, S9, B9⟩
  have T9 : (F' 8 0).toInt = k.toInt := by rw [← C9.eq.1 0]; exact KK.thr A9
  subst hr
  exact hZ _ F' hM ⟨rfl, T9, _, K9, Nat.le_refl _⟩
abbrev cz_hang (g : xH) (x1 x2 k : Int32) (v : vS × Nat) : Prop := cz fI (vhang v.1 x1 x2) (ohang v.1 x1 x2) g k v
theorem lc_hang (I : LI Ls h F) (K : kP v v h) : x_ConW n0 oa D wm_hang hh_hang [.inr (.inr (7, 1)), .inl x1, .inl x2] (x_setc h 0 0) (ZT (fun g k => cz_hang g x1 x2 k v) Ls F) := by
  obtain ⟨KQ, KC, F0, KM, KS, KB⟩ := K
  refine cw_hang rfl rfl I.l7 ((tv60 (c := x_pj h) I.vi I.g7 (fun o g hp => hp)).en (e60) (cr_rs.1 _ _ 0 0 KC)) (fun v9 h1 hz => ?_) (fun k h1 hz => ?_)
  · obtain ⟨hz, t9, C9, ho, rfl⟩ := hz
    rcases hz with ⟨⟨hC, hm⟩, hn⟩ | ⟨⟨hC, hm⟩, k', hk⟩
    · have J := I.mq hC (x_mq_of hm)
      have M9 := KM.mq (g := h1) (x_mq_of hm)
      have Q9 : CQ h1 := KQ.pj hm
      exact ⟨Sum.inl.inj hn, fun a b => ⟨0, rfl, J.setc, Q9, C9, Or.inr ⟨none, ho.symm.trans hn, rfl, fun n' e' => by cases e'⟩, KQ.vq KC, F0, M9, KS, KB⟩⟩
    · cases hk
  · obtain ⟨hz, t9, C9, ho, rfl⟩ := hz
    rcases hz with ⟨-, hn⟩ | ⟨⟨hC, hm⟩, k', hk⟩
    · cases hn
    · have J := I.mq hC (x_mq_of hm)
      have M9 := KM.mq (g := h1) (x_mq_of hm)
      have Q9 : CQ h1 := KQ.pj hm
      exact fun a b => ⟨_, rfl, J.setc, Q9, C9, Or.inl ⟨k, ho.symm, rfl⟩, KQ.vq KC, F0, M9, KS, KB⟩
theorem rc_hang (I : LI Ls h F) (hT : cz_hang h x1 x2 k v) (hv : v.2 ≤ 600) (hZ : ∀ o F', MX 72 F' → (o = .inl none ∧ (F' 8 0).toInt = k.toInt ∧ ∃ v' : vS × Nat, kP v' v' (mh (x_setc h 0 0) F') ∧ v'.2 ≤ v.2 + 1) → Z o (mh (x_setc h 0 0) F')) : xC 2000000000000 111 [.inr (.inr (8, 1)), .inl x1, .inl x2] (x_setc h 0 0) Z := by
  obtain ⟨KQ, KC, KK, VV, F0, KM, KS, KB⟩ := hT
  have e := (I.setc (a := 0) (b := 0)).2.2.2.1
  have H := tv111 (Z := fun o g => ∃ F', g = mh (x_setc h 0 0) F' ∧ MX 72 F' ∧ o = .inl none) (x1 := x1) (x2 := x2) I.2.1 I.2.2.1 (fun o F' hp => ⟨F', rfl, hp.1, hp.2⟩)
  rw [e] at H
  refine (H.en (s111 KS KB hv) (mr_rs.1 _ _ 0 0 KM)).mono (by decide) (fun o g hz => ?_)
  obtain ⟨⟨F', rfl, hM, hr⟩, t9, C9, S9, A9, B9⟩ := hz
  have K9 : kP (vhang v.1 x1 x2, v.2 + 1) (vhang v.1 x1 x2, v.2 + 1) (mh (x_setc h 0 0) F') := ⟨KQ, CR.mh (cr_rs.1 _ _ 0 0 KC), t9, C9, S9, B9⟩
  have T9 : (F' 8 0).toInt = k.toInt := by rw [← C9.eq.1 0]; exact KK.thr A9
  subst hr
  exact hZ _ F' hM ⟨rfl, T9, _, K9, Nat.le_refl _⟩
abbrev cz_dial (g : xH) (x1 x2 x3 k : Int32) (v : vS × Nat) : Prop := cz fB (vdial v.1 x1 x2 x3) (odial v.1 x1 x2 x3) g k v
theorem lc_dial (I : LI Ls h F) (K : kP v v h) : x_ConW n0 oa D wm_dial hh_dial [.inr (.inr (7, 1)), .inl x1, .inl x2, .inl x3, .inr (.inr (21, 1))] (x_setc h 0 0) (ZT (fun g k => cz_dial g x1 x2 x3 k v) Ls F) := by
  obtain ⟨KQ, KC, F0, KM, KS, KB⟩ := K
  refine cw_dial rfl rfl I.l7 ((tv63 (c := x_pj h) I.vi I.g7 (fun o g hp => hp)).en (e63) (cr_rs.1 _ _ 0 0 KC)) (fun v9 h1 hz => ?_) (fun k h1 hz => ?_)
  · obtain ⟨hz, t9, C9, ho, rfl⟩ := hz
    rcases hz with ⟨⟨hC, hm⟩, n, hn, -⟩ | ⟨⟨hC, hm⟩, k', hk⟩
    · have J := I.mq hC (x_mq_of hm)
      have M9 := KM.mq (g := h1) (x_mq_of hm)
      have Q9 : CQ h1 := KQ.pj hm
      exact ⟨J.2.2.2.2.1, J.2.2.2.2.2.1, n, Sum.inl.inj hn, fun a b => ⟨0, rfl, J.setc.putl, Q9, C9, Or.inr ⟨some (.inl n), ho.symm.trans hn, rfl, fun n' e' => by cases e'; rfl⟩, KQ.vq KC, F0, M9, KS, KB⟩⟩
    · cases hk
  · obtain ⟨hz, t9, C9, ho, rfl⟩ := hz
    rcases hz with ⟨-, n, hn, -⟩ | ⟨⟨hC, hm⟩, k', hk⟩
    · cases hn
    · have J := I.mq hC (x_mq_of hm)
      have M9 := KM.mq (g := h1) (x_mq_of hm)
      have Q9 : CQ h1 := KQ.pj hm
      exact fun a b => ⟨_, rfl, J.setc, Q9, C9, Or.inl ⟨k, ho.symm, rfl⟩, KQ.vq KC, F0, M9, KS, KB⟩
theorem rc_dial (I : LI Ls h F) (hT : cz_dial h x1 x2 x3 k v) (hv : v.2 ≤ 600) (hZ : ∀ o F', MX 72 F' → (∃ n2 : Int32, o = .inl (some (.inl n2)) ∧ cmB (v.2 + 1) (mh (x_setc h 0 0) F') F' k n2) → Z o (mh (x_setc h 0 0) F')) : xC 2000000000000 115 [.inr (.inr (8, 1)), .inl x1, .inl x2, .inl x3] (x_setc h 0 0) Z := by
  obtain ⟨KQ, KC, KK, VV, F0, KM, KS, KB⟩ := hT
  have e := (I.setc (a := 0) (b := 0)).2.2.2.1
  have H := tv115 (Z := fun o g => ∃ F', g = mh (x_setc h 0 0) F' ∧ MX 72 F' ∧ (∃ v : Int32, o = .inl (some (.inl v)) ∧ (0 ≤ v.toInt ∧ v.toInt ≤ 1))) (x1 := x1) (x2 := x2) (x3 := x3) I.2.1 I.2.2.1 (fun o F' hp => ⟨F', rfl, hp.1, hp.2⟩)
  rw [e] at H
  refine (H.en (s115 KS KB hv) (mr_rs.1 _ _ 0 0 KM)).mono (by decide) (fun o g hz => ?_)
  obtain ⟨⟨F', rfl, hM, hr⟩, t9, C9, S9, A9, B9⟩ := hz
  have K9 : kP (vdial v.1 x1 x2 x3, v.2 + 1) (vdial v.1 x1 x2 x3, v.2 + 1) (mh (x_setc h 0 0) F') := ⟨KQ, CR.mh (cr_rs.1 _ _ 0 0 KC), t9, C9, S9, B9⟩
  have T9 : (F' 8 0).toInt = k.toInt := by rw [← C9.eq.1 0]; exact KK.thr A9
  obtain ⟨n2, rfl, -⟩ := hr
  exact hZ _ F' hM ⟨n2, rfl, T9, fun hk => KK.val A9 hk, _, K9, Nat.le_refl _⟩
abbrev cz_tick (g : xH) (x1 k : Int32) (v : vS × Nat) : Prop := cz fI (vtick v.1 x1) (otick x1) g k v
theorem lc_tick (I : LI Ls h F) (K : kP v v h) : x_ConW n0 oa D wm_tick hh_tick [.inr (.inr (7, 1)), .inl x1] (x_setc h 0 0) (ZT (fun g k => cz_tick g x1 k v) Ls F) := by
  obtain ⟨KQ, KC, F0, KM, KS, KB⟩ := K
  refine cw_tick rfl rfl I.l7 ((tw78 (c := x_pj h) I.vi I.g7 (fun o g hp => hp)).en (e78) (cr_rs.1 _ _ 0 0 KC)) (fun v9 h1 hz => ?_) (fun k h1 hz => ?_)
  · obtain ⟨hz, t9, C9, ho, rfl⟩ := hz
    rcases hz with ⟨⟨hC, hm⟩, hn, -⟩ | ⟨⟨hC, hm⟩, hk, -⟩
    · have J := I.mq hC (x_mq_of hm)
      have M9 := KM.mq (g := h1) (x_mq_of hm)
      have Q9 : CQ h1 := KQ.pj hm
      exact ⟨Sum.inl.inj hn, fun a b => ⟨0, rfl, J.setc, Q9, C9, Or.inr ⟨none, ho.symm.trans hn, rfl, fun n' e' => by cases e'⟩, KQ.vq KC, F0, M9, KS, KB⟩⟩
    · cases hk
  · obtain ⟨hz, t9, C9, ho, rfl⟩ := hz
    rcases hz with ⟨-, hn, -⟩ | ⟨⟨hC, hm⟩, hk, -⟩
    · cases hn
    · have J := I.mq hC (x_mq_of hm)
      have M9 := KM.mq (g := h1) (x_mq_of hm)
      have Q9 : CQ h1 := KQ.pj hm
      exact ⟨Sum.inr.inj hk, fun a b => ⟨1, rfl, J.setc, Q9, C9, Or.inl ⟨k, ho.symm, by rw [Sum.inr.inj hk]; rfl⟩, KQ.vq KC, F0, M9, KS, KB⟩⟩
theorem rc_tick (I : LI Ls h F) (hT : cz_tick h x1 k v) (hv : v.2 ≤ 600) (hZ : ∀ o F', MX 72 F' → (o = .inl none ∧ (F' 8 0).toInt = k.toInt ∧ ∃ v' : vS × Nat, kP v' v' (mh (x_setc h 0 0) F') ∧ v'.2 ≤ v.2 + 1) → Z o (mh (x_setc h 0 0) F')) : xC 2000000000000 129 [.inr (.inr (8, 1)), .inl x1] (x_setc h 0 0) Z := by
  obtain ⟨KQ, KC, KK, VV, F0, KM, KS, KB⟩ := hT
  have e := (I.setc (a := 0) (b := 0)).2.2.2.1
  have H := tv129 (Z := fun o g => ∃ F', g = mh (x_setc h 0 0) F' ∧ MX 72 F' ∧ o = .inl none) (x1 := x1) I.2.1 I.2.2.1 (fun o F' hp => ⟨F', rfl, hp.1.1, hp.2⟩)
  rw [e] at H
  refine (H.en (s129 KS KB hv) (mr_rs.1 _ _ 0 0 KM)).mono (by decide) (fun o g hz => ?_)
  obtain ⟨⟨F', rfl, hM, hr⟩, t9, C9, S9, A9, B9⟩ := hz
  have K9 : kP (vtick v.1 x1, v.2 + 1) (vtick v.1 x1, v.2 + 1) (mh (x_setc h 0 0) F') := ⟨KQ, CR.mh (cr_rs.1 _ _ 0 0 KC), t9, C9, S9, B9⟩
  have T9 : (F' 8 0).toInt = k.toInt := by rw [← C9.eq.1 0]; exact KK.thr A9
  subst hr
  exact hZ _ F' hM ⟨rfl, T9, _, K9, Nat.le_refl _⟩
abbrev cz_out (g : xH) (x1 x2 k : Int32) (v : vS × Nat) : Prop := cz fB (vout v.1 x1 x2) (oout v.1 x1) g k v
theorem lc_out (I : LI Ls h F) (K : kP v v h) (g2 : 0 ≤ x2.toInt ∧ x2.toInt ≤ 1) : x_ConW n0 oa D wm_out hh_out [.inr (.inr (7, 1)), .inl x1, .inl x2, .inr (.inr (21, 1))] (x_setc h 0 0) (ZT (fun g k => cz_out g x1 x2 k v) Ls F) := by
  obtain ⟨KQ, KC, F0, KM, KS, KB⟩ := K
  refine cw_out rfl rfl I.l7 ((tw79 (c := x_pj h) I.vi I.g7 g2 (fun o g hp => hp)).en (e79) (cr_rs.1 _ _ 0 0 KC)) (fun v9 h1 hz => ?_) (fun k h1 hz => ?_)
  · obtain ⟨hz, t9, C9, ho, rfl⟩ := hz
    rcases hz with ⟨⟨hC, hm⟩, n, hn, -⟩ | ⟨⟨hC, hm⟩, hk⟩
    · have J := I.mq hC (x_mq_of hm)
      have M9 := KM.mq (g := h1) (x_mq_of hm)
      have Q9 : CQ h1 := KQ.pj hm
      exact ⟨J.2.2.2.2.1, J.2.2.2.2.2.1, n, Sum.inl.inj hn, fun a b => ⟨0, rfl, J.setc.putl, Q9, C9, Or.inr ⟨some (.inl n), ho.symm.trans hn, rfl, fun n' e' => by cases e'; rfl⟩, KQ.vq KC, F0, M9, KS, KB⟩⟩
    · cases hk
  · obtain ⟨hz, t9, C9, ho, rfl⟩ := hz
    rcases hz with ⟨-, n, hn, -⟩ | ⟨⟨hC, hm⟩, hk⟩
    · cases hn
    · have J := I.mq hC (x_mq_of hm)
      have M9 := KM.mq (g := h1) (x_mq_of hm)
      have Q9 : CQ h1 := KQ.pj hm
      exact ⟨Sum.inr.inj hk, fun a b => ⟨1, rfl, J.setc, Q9, C9, Or.inl ⟨k, ho.symm, by rw [Sum.inr.inj hk]; rfl⟩, KQ.vq KC, F0, M9, KS, KB⟩⟩
theorem rc_out (I : LI Ls h F) (g2 : 0 ≤ x2.toInt ∧ x2.toInt ≤ 1) (hT : cz_out h x1 x2 k v) (hv : v.2 ≤ 600) (hZ : ∀ o F', MX 72 F' → (∃ n2 : Int32, o = .inl (some (.inl n2)) ∧ cmB (v.2 + 1) (mh (x_setc h 0 0) F') F' k n2) → Z o (mh (x_setc h 0 0) F')) : xC 2000000000000 130 [.inr (.inr (8, 1)), .inl x1, .inl x2] (x_setc h 0 0) Z := by
  obtain ⟨KQ, KC, KK, VV, F0, KM, KS, KB⟩ := hT
  have e := (I.setc (a := 0) (b := 0)).2.2.2.1
  have H := tv130 (Z := fun o g => ∃ F', g = mh (x_setc h 0 0) F' ∧ MX 72 F' ∧ (∃ v : Int32, o = .inl (some (.inl v)) ∧ (0 ≤ v.toInt ∧ v.toInt ≤ 1))) (x1 := x1) (x2 := x2) I.2.1 g2 I.2.2.1 (fun o F' hp => ⟨F', rfl, hp.1, hp.2⟩)
  rw [e] at H
  refine (H.en (s130 KS KB hv) (mr_rs.1 _ _ 0 0 KM)).mono (by decide) (fun o g hz => ?_)
  obtain ⟨⟨F', rfl, hM, hr⟩, t9, C9, S9, A9, B9⟩ := hz
  have K9 : kP (vout v.1 x1 x2, v.2 + 1) (vout v.1 x1 x2, v.2 + 1) (mh (x_setc h 0 0) F') := ⟨KQ, CR.mh (cr_rs.1 _ _ 0 0 KC), t9, C9, S9, B9⟩
  have T9 : (F' 8 0).toInt = k.toInt := by rw [← C9.eq.1 0]; exact KK.thr A9
  obtain ⟨n2, rfl, -⟩ := hr
  exact hZ _ F' hM ⟨n2, rfl, T9, fun hk => KK.val A9 hk, _, K9, Nat.le_refl _⟩
abbrev cz_hold (g : xH) (x1 x2 x3 k : Int32) (v : vS × Nat) : Prop := cz fB (vhold v.1 x1 x2 x3) (ohold v.1 x1 x2) g k v
theorem lc_hold (I : LI Ls h F) (K : kP v v h) (g3 : 0 ≤ x3.toInt ∧ x3.toInt ≤ 1) : x_ConW n0 oa D wm_hold hh_hold [.inr (.inr (7, 1)), .inl x1, .inl x2, .inl x3, .inr (.inr (21, 1))] (x_setc h 0 0) (ZT (fun g k => cz_hold g x1 x2 x3 k v) Ls F) := by
  obtain ⟨KQ, KC, F0, KM, KS, KB⟩ := K
  refine cw_hold rfl rfl I.l7 ((tw80 (c := x_pj h) I.vi I.g7 g3 (fun o g hp => hp)).en (e80) (cr_rs.1 _ _ 0 0 KC)) (fun v9 h1 hz => ?_) (fun k h1 hz => ?_)
  · obtain ⟨hz, t9, C9, ho, rfl⟩ := hz
    rcases hz with ⟨⟨hC, hm⟩, n, hn, -⟩ | ⟨⟨hC, hm⟩, hk⟩
    · have J := I.mq hC (x_mq_of hm)
      have M9 := KM.mq (g := h1) (x_mq_of hm)
      have Q9 : CQ h1 := KQ.pj hm
      exact ⟨J.2.2.2.2.1, J.2.2.2.2.2.1, n, Sum.inl.inj hn, fun a b => ⟨0, rfl, J.setc.putl, Q9, C9, Or.inr ⟨some (.inl n), ho.symm.trans hn, rfl, fun n' e' => by cases e'; rfl⟩, KQ.vq KC, F0, M9, KS, KB⟩⟩
    · cases hk
  · obtain ⟨hz, t9, C9, ho, rfl⟩ := hz
    rcases hz with ⟨-, n, hn, -⟩ | ⟨⟨hC, hm⟩, hk⟩
    · cases hn
    · have J := I.mq hC (x_mq_of hm)
      have M9 := KM.mq (g := h1) (x_mq_of hm)
      have Q9 : CQ h1 := KQ.pj hm
      exact ⟨Sum.inr.inj hk, fun a b => ⟨1, rfl, J.setc, Q9, C9, Or.inl ⟨k, ho.symm, by rw [Sum.inr.inj hk]; rfl⟩, KQ.vq KC, F0, M9, KS, KB⟩⟩
theorem rc_hold (I : LI Ls h F) (g3 : 0 ≤ x3.toInt ∧ x3.toInt ≤ 1) (hT : cz_hold h x1 x2 x3 k v) (hv : v.2 ≤ 600) (hZ : ∀ o F', MX 72 F' → (∃ n2 : Int32, o = .inl (some (.inl n2)) ∧ cmB (v.2 + 1) (mh (x_setc h 0 0) F') F' k n2) → Z o (mh (x_setc h 0 0) F')) : xC 2000000000000 131 [.inr (.inr (8, 1)), .inl x1, .inl x2, .inl x3] (x_setc h 0 0) Z := by
  obtain ⟨KQ, KC, KK, VV, F0, KM, KS, KB⟩ := hT
  have e := (I.setc (a := 0) (b := 0)).2.2.2.1
  have H := tv131 (Z := fun o g => ∃ F', g = mh (x_setc h 0 0) F' ∧ MX 72 F' ∧ (∃ v : Int32, o = .inl (some (.inl v)) ∧ (0 ≤ v.toInt ∧ v.toInt ≤ 1))) (x1 := x1) (x2 := x2) (x3 := x3) I.2.1 g3 I.2.2.1 (fun o F' hp => ⟨F', rfl, hp.1, hp.2⟩)
  rw [e] at H
  refine (H.en (s131 KS KB hv) (mr_rs.1 _ _ 0 0 KM)).mono (by decide) (fun o g hz => ?_)
  obtain ⟨⟨F', rfl, hM, hr⟩, t9, C9, S9, A9, B9⟩ := hz
  have K9 : kP (vhold v.1 x1 x2 x3, v.2 + 1) (vhold v.1 x1 x2 x3, v.2 + 1) (mh (x_setc h 0 0) F') := ⟨KQ, CR.mh (cr_rs.1 _ _ 0 0 KC), t9, C9, S9, B9⟩
  have T9 : (F' 8 0).toInt = k.toInt := by rw [← C9.eq.1 0]; exact KK.thr A9
  obtain ⟨n2, rfl, -⟩ := hr
  exact hZ _ F' hM ⟨n2, rfl, T9, fun hk => KK.val A9 hk, _, K9, Nat.le_refl _⟩
abbrev cz_tone (g : xH) (x1 x2 k : Int32) (v : vS × Nat) : Prop := cz fI (v.1) (otone v.1 x1 x2) g k v
theorem lc_tone (I : LI Ls h F) (K : kP v v h) : x_ConW n0 oa D wm_tone hh_tone [.inr (.inr (7, 1)), .inl x1, .inl x2, .inr (.inr (21, 1))] (x_setc h 0 0) (ZT (fun g k => cz_tone g x1 x2 k v) Ls F) := by
  obtain ⟨KQ, KC, F0, KM, KS, KB⟩ := K
  refine cw_tone rfl rfl I.l7 ((tw81 (c := x_pj h) I.vi I.g7 (fun o g hp => hp)).en (e81) (cr_rs.1 _ _ 0 0 KC)) (fun v9 h1 hz => ?_) (fun k h1 hz => ?_)
  · obtain ⟨hz, t9, C9, ho, rfl⟩ := hz
    rcases hz with ⟨⟨hC, hm⟩, n, hn⟩ | ⟨⟨hC, hm⟩, hk⟩
    · have J := I.mq hC (x_mq_of hm)
      have M9 := KM.mq (g := h1) (x_mq_of hm)
      have Q9 : CQ h1 := KQ.pj hm
      exact ⟨J.2.2.2.2.1, J.2.2.2.2.2.1, n, Sum.inl.inj hn, fun a b => ⟨0, rfl, J.setc.putl, Q9, C9, Or.inr ⟨some (.inl n), ho.symm.trans hn, rfl, fun n' e' => by cases e'; rfl⟩, KQ.vq KC, F0, M9, KS, KB⟩⟩
    · cases hk
  · obtain ⟨hz, t9, C9, ho, rfl⟩ := hz
    rcases hz with ⟨-, n, hn⟩ | ⟨⟨hC, hm⟩, hk⟩
    · cases hn
    · have J := I.mq hC (x_mq_of hm)
      have M9 := KM.mq (g := h1) (x_mq_of hm)
      have Q9 : CQ h1 := KQ.pj hm
      exact ⟨Sum.inr.inj hk, fun a b => ⟨1, rfl, J.setc, Q9, C9, Or.inl ⟨k, ho.symm, by rw [Sum.inr.inj hk]; rfl⟩, KQ.vq KC, F0, M9, KS, KB⟩⟩
theorem rc_tone (I : LI Ls h F) (hT : cz_tone h x1 x2 k v) (hv : v.2 ≤ 600) (hZ : ∀ o F', MX 72 F' → (∃ n2 : Int32, o = .inl (some (.inl n2)) ∧ cmI (v.2 + 1) (mh (x_setc h 0 0) F') F' k n2) → Z o (mh (x_setc h 0 0) F')) : xC 2000000000000 132 [.inr (.inr (8, 1)), .inl x1, .inl x2] (x_setc h 0 0) Z := by
  obtain ⟨KQ, KC, KK, VV, F0, KM, KS, KB⟩ := hT
  have e := (I.setc (a := 0) (b := 0)).2.2.2.1
  have H := tv132 (Z := fun o g => ∃ F', g = mh (x_setc h 0 0) F' ∧ MX 72 F' ∧ (∃ v : Int32, o = .inl (some (.inl v)))) (x1 := x1) (x2 := x2) I.2.1 I.2.2.1 (fun o F' hp => ⟨F', rfl, hp.1, hp.2⟩)
  rw [e] at H
  refine (H.en (s132 KS KB hv) (mr_rs.1 _ _ 0 0 KM)).mono (by decide) (fun o g hz => ?_)
  obtain ⟨⟨F', rfl, hM, hr⟩, t9, C9, S9, A9, B9⟩ := hz
  have K9 : kP (v.1, v.2 + 1) (v.1, v.2 + 1) (mh (x_setc h 0 0) F') := ⟨KQ, CR.mh (cr_rs.1 _ _ 0 0 KC), t9, C9, S9, B9⟩
  have T9 : (F' 8 0).toInt = k.toInt := by rw [← C9.eq.1 0]; exact KK.thr A9
  obtain ⟨n2, rfl⟩ := hr
  exact hZ _ F' hM ⟨n2, rfl, T9, fun hk => KK.val A9 hk, _, K9, Nat.le_refl _⟩
abbrev cz_rings (g : xH) (x1 x2 k : Int32) (v : vS × Nat) : Prop := cz fB (v.1) (orings v.1 x1 x2) g k v
theorem lc_rings (I : LI Ls h F) (K : kP v v h) : x_ConW n0 oa D wm_rings hh_rings [.inr (.inr (7, 1)), .inl x1, .inl x2, .inr (.inr (21, 1))] (x_setc h 0 0) (ZT (fun g k => cz_rings g x1 x2 k v) Ls F) := by
  obtain ⟨KQ, KC, F0, KM, KS, KB⟩ := K
  refine cw_rings rfl rfl I.l7 ((tw82 (c := x_pj h) I.vi I.g7 (fun o g hp => hp)).en (e82) (cr_rs.1 _ _ 0 0 KC)) (fun v9 h1 hz => ?_) (fun k h1 hz => ?_)
  · obtain ⟨hz, t9, C9, ho, rfl⟩ := hz
    rcases hz with ⟨⟨hC, hm⟩, n, hn, -⟩ | ⟨⟨hC, hm⟩, hk⟩
    · have J := I.mq hC (x_mq_of hm)
      have M9 := KM.mq (g := h1) (x_mq_of hm)
      have Q9 : CQ h1 := KQ.pj hm
      exact ⟨J.2.2.2.2.1, J.2.2.2.2.2.1, n, Sum.inl.inj hn, fun a b => ⟨0, rfl, J.setc.putl, Q9, C9, Or.inr ⟨some (.inl n), ho.symm.trans hn, rfl, fun n' e' => by cases e'; rfl⟩, KQ.vq KC, F0, M9, KS, KB⟩⟩
    · cases hk
  · obtain ⟨hz, t9, C9, ho, rfl⟩ := hz
    rcases hz with ⟨-, n, hn, -⟩ | ⟨⟨hC, hm⟩, hk⟩
    · cases hn
    · have J := I.mq hC (x_mq_of hm)
      have M9 := KM.mq (g := h1) (x_mq_of hm)
      have Q9 : CQ h1 := KQ.pj hm
      exact ⟨Sum.inr.inj hk, fun a b => ⟨1, rfl, J.setc, Q9, C9, Or.inl ⟨k, ho.symm, by rw [Sum.inr.inj hk]; rfl⟩, KQ.vq KC, F0, M9, KS, KB⟩⟩
theorem rc_rings (I : LI Ls h F) (hT : cz_rings h x1 x2 k v) (hv : v.2 ≤ 600) (hZ : ∀ o F', MX 72 F' → (∃ n2 : Int32, o = .inl (some (.inl n2)) ∧ cmB (v.2 + 1) (mh (x_setc h 0 0) F') F' k n2) → Z o (mh (x_setc h 0 0) F')) : xC 2000000000000 133 [.inr (.inr (8, 1)), .inl x1, .inl x2] (x_setc h 0 0) Z := by
  obtain ⟨KQ, KC, KK, VV, F0, KM, KS, KB⟩ := hT
  have e := (I.setc (a := 0) (b := 0)).2.2.2.1
  have H := tv133 (Z := fun o g => ∃ F', g = mh (x_setc h 0 0) F' ∧ MX 72 F' ∧ (∃ v : Int32, o = .inl (some (.inl v)) ∧ (0 ≤ v.toInt ∧ v.toInt ≤ 1))) (x1 := x1) (x2 := x2) I.2.1 I.2.2.1 (fun o F' hp => ⟨F', rfl, hp.1, hp.2⟩)
  rw [e] at H
  refine (H.en (s133 KS KB hv) (mr_rs.1 _ _ 0 0 KM)).mono (by decide) (fun o g hz => ?_)
  obtain ⟨⟨F', rfl, hM, hr⟩, t9, C9, S9, A9, B9⟩ := hz
  have K9 : kP (v.1, v.2 + 1) (v.1, v.2 + 1) (mh (x_setc h 0 0) F') := ⟨KQ, CR.mh (cr_rs.1 _ _ 0 0 KC), t9, C9, S9, B9⟩
  have T9 : (F' 8 0).toInt = k.toInt := by rw [← C9.eq.1 0]; exact KK.thr A9
  obtain ⟨n2, rfl, -⟩ := hr
  exact hZ _ F' hM ⟨n2, rfl, T9, fun hk => KK.val A9 hk, _, K9, Nat.le_refl _⟩
abbrev cz_talks (g : xH) (x1 x2 k : Int32) (v : vS × Nat) : Prop := cz fI (v.1) (otalks v.1 x1 x2) g k v
theorem lc_talks (I : LI Ls h F) (K : kP v v h) : x_ConW n0 oa D wm_talks hh_talks [.inr (.inr (7, 1)), .inl x1, .inl x2, .inr (.inr (21, 1))] (x_setc h 0 0) (ZT (fun g k => cz_talks g x1 x2 k v) Ls F) := by
  obtain ⟨KQ, KC, F0, KM, KS, KB⟩ := K
  refine cw_talks rfl rfl I.l7 ((tw83 (c := x_pj h) I.vi I.g7 (fun o g hp => hp)).en (e83) (cr_rs.1 _ _ 0 0 KC)) (fun v9 h1 hz => ?_) (fun k h1 hz => ?_)
  · obtain ⟨hz, t9, C9, ho, rfl⟩ := hz
    rcases hz with ⟨⟨hC, hm⟩, n, hn⟩ | ⟨⟨hC, hm⟩, hk⟩
    · have J := I.mq hC (x_mq_of hm)
      have M9 := KM.mq (g := h1) (x_mq_of hm)
      have Q9 : CQ h1 := KQ.pj hm
      exact ⟨J.2.2.2.2.1, J.2.2.2.2.2.1, n, Sum.inl.inj hn, fun a b => ⟨0, rfl, J.setc.putl, Q9, C9, Or.inr ⟨some (.inl n), ho.symm.trans hn, rfl, fun n' e' => by cases e'; rfl⟩, KQ.vq KC, F0, M9, KS, KB⟩⟩
    · cases hk
  · obtain ⟨hz, t9, C9, ho, rfl⟩ := hz
    rcases hz with ⟨-, n, hn⟩ | ⟨⟨hC, hm⟩, hk⟩
    · cases hn
    · have J := I.mq hC (x_mq_of hm)
      have M9 := KM.mq (g := h1) (x_mq_of hm)
      have Q9 : CQ h1 := KQ.pj hm
      exact ⟨Sum.inr.inj hk, fun a b => ⟨1, rfl, J.setc, Q9, C9, Or.inl ⟨k, ho.symm, by rw [Sum.inr.inj hk]; rfl⟩, KQ.vq KC, F0, M9, KS, KB⟩⟩
theorem rc_talks (I : LI Ls h F) (hT : cz_talks h x1 x2 k v) (hv : v.2 ≤ 600) (hZ : ∀ o F', MX 72 F' → (∃ n2 : Int32, o = .inl (some (.inl n2)) ∧ cmI (v.2 + 1) (mh (x_setc h 0 0) F') F' k n2) → Z o (mh (x_setc h 0 0) F')) : xC 2000000000000 134 [.inr (.inr (8, 1)), .inl x1, .inl x2] (x_setc h 0 0) Z := by
  obtain ⟨KQ, KC, KK, VV, F0, KM, KS, KB⟩ := hT
  have e := (I.setc (a := 0) (b := 0)).2.2.2.1
  have H := tv134 (Z := fun o g => ∃ F', g = mh (x_setc h 0 0) F' ∧ MX 72 F' ∧ (∃ v : Int32, o = .inl (some (.inl v)))) (x1 := x1) (x2 := x2) I.2.1 I.2.2.1 (fun o F' hp => ⟨F', rfl, hp.1, hp.2⟩)
  rw [e] at H
  refine (H.en (s134 KS KB hv) (mr_rs.1 _ _ 0 0 KM)).mono (by decide) (fun o g hz => ?_)
  obtain ⟨⟨F', rfl, hM, hr⟩, t9, C9, S9, A9, B9⟩ := hz
  have K9 : kP (v.1, v.2 + 1) (v.1, v.2 + 1) (mh (x_setc h 0 0) F') := ⟨KQ, CR.mh (cr_rs.1 _ _ 0 0 KC), t9, C9, S9, B9⟩
  have T9 : (F' 8 0).toInt = k.toInt := by rw [← C9.eq.1 0]; exact KK.thr A9
  obtain ⟨n2, rfl⟩ := hr
  exact hZ _ F' hM ⟨n2, rfl, T9, fun hk => KK.val A9 hk, _, K9, Nat.le_refl _⟩
abbrev cz_meter (g : xH) (x1 x2 k : Int32) (v : vS × Nat) : Prop := cz fI (v.1) (ometer v.1 x1 x2) g k v
theorem lc_meter (I : LI Ls h F) (K : kP v v h) : x_ConW n0 oa D wm_meter hh_meter [.inr (.inr (7, 1)), .inl x1, .inl x2, .inr (.inr (21, 1))] (x_setc h 0 0) (ZT (fun g k => cz_meter g x1 x2 k v) Ls F) := by
  obtain ⟨KQ, KC, F0, KM, KS, KB⟩ := K
  refine cw_meter rfl rfl I.l7 ((tw84 (c := x_pj h) I.vi I.g7 (fun o g hp => hp)).en (e84) (cr_rs.1 _ _ 0 0 KC)) (fun v9 h1 hz => ?_) (fun k h1 hz => ?_)
  · obtain ⟨hz, t9, C9, ho, rfl⟩ := hz
    rcases hz with ⟨⟨hC, hm⟩, n, hn⟩ | ⟨⟨hC, hm⟩, hk⟩
    · have J := I.mq hC (x_mq_of hm)
      have M9 := KM.mq (g := h1) (x_mq_of hm)
      have Q9 : CQ h1 := KQ.pj hm
      exact ⟨J.2.2.2.2.1, J.2.2.2.2.2.1, n, Sum.inl.inj hn, fun a b => ⟨0, rfl, J.setc.putl, Q9, C9, Or.inr ⟨some (.inl n), ho.symm.trans hn, rfl, fun n' e' => by cases e'; rfl⟩, KQ.vq KC, F0, M9, KS, KB⟩⟩
    · cases hk
  · obtain ⟨hz, t9, C9, ho, rfl⟩ := hz
    rcases hz with ⟨-, n, hn⟩ | ⟨⟨hC, hm⟩, hk⟩
    · cases hn
    · have J := I.mq hC (x_mq_of hm)
      have M9 := KM.mq (g := h1) (x_mq_of hm)
      have Q9 : CQ h1 := KQ.pj hm
      exact ⟨Sum.inr.inj hk, fun a b => ⟨1, rfl, J.setc, Q9, C9, Or.inl ⟨k, ho.symm, by rw [Sum.inr.inj hk]; rfl⟩, KQ.vq KC, F0, M9, KS, KB⟩⟩
theorem rc_meter (I : LI Ls h F) (hT : cz_meter h x1 x2 k v) (hv : v.2 ≤ 600) (hZ : ∀ o F', MX 72 F' → (∃ n2 : Int32, o = .inl (some (.inl n2)) ∧ cmI (v.2 + 1) (mh (x_setc h 0 0) F') F' k n2) → Z o (mh (x_setc h 0 0) F')) : xC 2000000000000 135 [.inr (.inr (8, 1)), .inl x1, .inl x2] (x_setc h 0 0) Z := by
  obtain ⟨KQ, KC, KK, VV, F0, KM, KS, KB⟩ := hT
  have e := (I.setc (a := 0) (b := 0)).2.2.2.1
  have H := tv135 (Z := fun o g => ∃ F', g = mh (x_setc h 0 0) F' ∧ MX 72 F' ∧ (∃ v : Int32, o = .inl (some (.inl v)))) (x1 := x1) (x2 := x2) I.2.1 I.2.2.1 (fun o F' hp => ⟨F', rfl, hp.1, hp.2⟩)
  rw [e] at H
  refine (H.en (s135 KS KB hv) (mr_rs.1 _ _ 0 0 KM)).mono (by decide) (fun o g hz => ?_)
  obtain ⟨⟨F', rfl, hM, hr⟩, t9, C9, S9, A9, B9⟩ := hz
  have K9 : kP (v.1, v.2 + 1) (v.1, v.2 + 1) (mh (x_setc h 0 0) F') := ⟨KQ, CR.mh (cr_rs.1 _ _ 0 0 KC), t9, C9, S9, B9⟩
  have T9 : (F' 8 0).toInt = k.toInt := by rw [← C9.eq.1 0]; exact KK.thr A9
  obtain ⟨n2, rfl⟩ := hr
  exact hZ _ F' hM ⟨n2, rfl, T9, fun hk => KK.val A9 hk, _, K9, Nat.le_refl _⟩
abbrev cz_seized (g : xH) (x1 x2 x3 k : Int32) (v : vS × Nat) : Prop := CQ g ∧ CR v.1 g ∧ ∃ F, MR F g ∧ Sim ((F 8 1).toInt + 1) v.1 F ∧ FB v.2 F
theorem lc_seized (I : LI Ls h F) (K : kP v v h) : x_ConW n0 oa D wm_seized hh_seized [.inr (.inr (7, 1)), .inl x1, .inl x2, .inl x3, .inr (.inr (21, 1))] (x_setc h 0 0) (ZT (fun g k => cz_seized g x1 x2 x3 k v) Ls F) := by
  obtain ⟨KQ, KC, F0, KM, KS, KB⟩ := K
  refine cw_seized rfl rfl I.l7 ((tw85 (c := x_pj h) I.vi I.g7 (fun o g hp => hp)).en (e85) (cr_rs.1 _ _ 0 0 KC)) (fun v9 h1 hz => ?_) (fun k h1 hz => ?_)
  · obtain ⟨hz, t9, C9, rfl⟩ := hz
    rcases hz with ⟨⟨hC, hm⟩, n, hn⟩ | ⟨⟨hC, hm⟩, hk⟩
    · have J := I.mq hC (x_mq_of hm)
      have M9 := KM.mq (g := h1) (x_mq_of hm)
      have Q9 : CQ h1 := KQ.pj hm
      exact ⟨J.2.2.2.2.1, J.2.2.2.2.2.1, n, Sum.inl.inj hn, fun a b => ⟨0, rfl, J.setc.putl, Q9, C9, F0, M9, KS, KB⟩⟩
    · cases hk
  · obtain ⟨hz, t9, C9, rfl⟩ := hz
    rcases hz with ⟨-, n, hn⟩ | ⟨⟨hC, hm⟩, hk⟩
    · cases hn
    · have J := I.mq hC (x_mq_of hm)
      have M9 := KM.mq (g := h1) (x_mq_of hm)
      have Q9 : CQ h1 := KQ.pj hm
      exact ⟨Sum.inr.inj hk, fun a b => ⟨1, rfl, J.setc, Q9, C9, F0, M9, KS, KB⟩⟩
theorem rc_seized (I : LI Ls h F) (hT : cz_seized h x1 x2 x3 k v) (hv : v.2 ≤ 600) (hZ : ∀ o F', MX 72 F' → (∃ n2 : Int32, o = .inl (some (.inl n2)) ∧ ∃ v' : vS × Nat, kP v' v' (mh (x_setc h 0 0) F') ∧ v'.2 ≤ v.2 + 1) → Z o (mh (x_setc h 0 0) F')) : xC 2000000000000 136 [.inr (.inr (8, 1)), .inl x1, .inl x2, .inl x3] (x_setc h 0 0) Z := by
  obtain ⟨KQ, KC, F0, KM, KS, KB⟩ := hT
  have e := (I.setc (a := 0) (b := 0)).2.2.2.1
  have H := tv136 (Z := fun o g => ∃ F', g = mh (x_setc h 0 0) F' ∧ MX 72 F' ∧ (∃ v : Int32, o = .inl (some (.inl v)))) (x1 := x1) (x2 := x2) (x3 := x3) I.2.1 I.2.2.1 (fun o F' hp => ⟨F', rfl, hp.1, hp.2⟩)
  rw [e] at H
  refine (H.en (s136 KS KB hv) (mr_rs.1 _ _ 0 0 KM)).mono (by decide) (fun o g hz => ?_)
  obtain ⟨⟨F', rfl, hM, hr⟩, t9, C9, S9, B9⟩ := hz
  have K9 : kP (v.1, v.2 + 1) (v.1, v.2 + 1) (mh (x_setc h 0 0) F') := ⟨KQ, CR.mh (cr_rs.1 _ _ 0 0 KC), t9, C9, S9, B9⟩
  obtain ⟨n2, rfl⟩ := hr
  exact hZ _ F' hM ⟨n2, rfl, _, K9, Nat.le_refl _⟩
abbrev cz_idle (g : xH) (x1 x2 k : Int32) (v : vS × Nat) : Prop := cz fI (v.1) (oidle v.1 x1 x2) g k v
theorem lc_idle (I : LI Ls h F) (K : kP v v h) : x_ConW n0 oa D wm_idle hh_idle [.inr (.inr (7, 1)), .inl x1, .inl x2, .inr (.inr (21, 1))] (x_setc h 0 0) (ZT (fun g k => cz_idle g x1 x2 k v) Ls F) := by
  obtain ⟨KQ, KC, F0, KM, KS, KB⟩ := K
  refine cw_idle rfl rfl I.l7 ((tw87 (c := x_pj h) I.vi I.g7 (fun o g hp => hp)).en (e87) (cr_rs.1 _ _ 0 0 KC)) (fun v9 h1 hz => ?_) (fun k h1 hz => ?_)
  · obtain ⟨hz, t9, C9, ho, rfl⟩ := hz
    rcases hz with ⟨⟨hC, hm⟩, n, hn⟩ | ⟨⟨hC, hm⟩, hk⟩
    · have J := I.mq hC (x_mq_of hm)
      have M9 := KM.mq (g := h1) (x_mq_of hm)
      have Q9 : CQ h1 := KQ.pj hm
      exact ⟨J.2.2.2.2.1, J.2.2.2.2.2.1, n, Sum.inl.inj hn, fun a b => ⟨0, rfl, J.setc.putl, Q9, C9, Or.inr ⟨some (.inl n), ho.symm.trans hn, rfl, fun n' e' => by cases e'; rfl⟩, KQ.vq KC, F0, M9, KS, KB⟩⟩
    · cases hk
  · obtain ⟨hz, t9, C9, ho, rfl⟩ := hz
    rcases hz with ⟨-, n, hn⟩ | ⟨⟨hC, hm⟩, hk⟩
    · cases hn
    · have J := I.mq hC (x_mq_of hm)
      have M9 := KM.mq (g := h1) (x_mq_of hm)
      have Q9 : CQ h1 := KQ.pj hm
      exact ⟨Sum.inr.inj hk, fun a b => ⟨1, rfl, J.setc, Q9, C9, Or.inl ⟨k, ho.symm, by rw [Sum.inr.inj hk]; rfl⟩, KQ.vq KC, F0, M9, KS, KB⟩⟩
theorem rc_idle (I : LI Ls h F) (hT : cz_idle h x1 x2 k v) (hv : v.2 ≤ 600) (hZ : ∀ o F', MX 72 F' → (∃ n2 : Int32, o = .inl (some (.inl n2)) ∧ cmI (v.2 + 1) (mh (x_setc h 0 0) F') F' k n2) → Z o (mh (x_setc h 0 0) F')) : xC 2000000000000 137 [.inr (.inr (8, 1)), .inl x1, .inl x2] (x_setc h 0 0) Z := by
  obtain ⟨KQ, KC, KK, VV, F0, KM, KS, KB⟩ := hT
  have e := (I.setc (a := 0) (b := 0)).2.2.2.1
  have H := tv137 (Z := fun o g => ∃ F', g = mh (x_setc h 0 0) F' ∧ MX 72 F' ∧ (∃ v : Int32, o = .inl (some (.inl v)))) (x1 := x1) (x2 := x2) I.2.1 I.2.2.1 (fun o F' hp => ⟨F', rfl, hp.1, hp.2⟩)
  rw [e] at H
  refine (H.en (s137 KS KB hv) (mr_rs.1 _ _ 0 0 KM)).mono (by decide) (fun o g hz => ?_)
  obtain ⟨⟨F', rfl, hM, hr⟩, t9, C9, S9, A9, B9⟩ := hz
  have K9 : kP (v.1, v.2 + 1) (v.1, v.2 + 1) (mh (x_setc h 0 0) F') := ⟨KQ, CR.mh (cr_rs.1 _ _ 0 0 KC), t9, C9, S9, B9⟩
  have T9 : (F' 8 0).toInt = k.toInt := by rw [← C9.eq.1 0]; exact KK.thr A9
  obtain ⟨n2, rfl⟩ := hr
  exact hZ _ F' hM ⟨n2, rfl, T9, fun hk => KK.val A9 hk, _, K9, Nat.le_refl _⟩
abbrev cz_overflow (g : xH) (x1 x2 k : Int32) (v : vS × Nat) : Prop := cz fI (v.1) (ooverflow v.1 x1 x2) g k v
theorem lc_overflow (I : LI Ls h F) (K : kP v v h) : x_ConW n0 oa D wm_overflow hh_overflow [.inr (.inr (7, 1)), .inl x1, .inl x2, .inr (.inr (21, 1))] (x_setc h 0 0) (ZT (fun g k => cz_overflow g x1 x2 k v) Ls F) := by
  obtain ⟨KQ, KC, F0, KM, KS, KB⟩ := K
  refine cw_overflow rfl rfl I.l7 ((tw88 (c := x_pj h) I.vi I.g7 (fun o g hp => hp)).en (e88) (cr_rs.1 _ _ 0 0 KC)) (fun v9 h1 hz => ?_) (fun k h1 hz => ?_)
  · obtain ⟨hz, t9, C9, ho, rfl⟩ := hz
    rcases hz with ⟨⟨hC, hm⟩, n, hn⟩ | ⟨⟨hC, hm⟩, hk⟩
    · have J := I.mq hC (x_mq_of hm)
      have M9 := KM.mq (g := h1) (x_mq_of hm)
      have Q9 : CQ h1 := KQ.pj hm
      exact ⟨J.2.2.2.2.1, J.2.2.2.2.2.1, n, Sum.inl.inj hn, fun a b => ⟨0, rfl, J.setc.putl, Q9, C9, Or.inr ⟨some (.inl n), ho.symm.trans hn, rfl, fun n' e' => by cases e'; rfl⟩, KQ.vq KC, F0, M9, KS, KB⟩⟩
    · cases hk
  · obtain ⟨hz, t9, C9, ho, rfl⟩ := hz
    rcases hz with ⟨-, n, hn⟩ | ⟨⟨hC, hm⟩, hk⟩
    · cases hn
    · have J := I.mq hC (x_mq_of hm)
      have M9 := KM.mq (g := h1) (x_mq_of hm)
      have Q9 : CQ h1 := KQ.pj hm
      exact ⟨Sum.inr.inj hk, fun a b => ⟨1, rfl, J.setc, Q9, C9, Or.inl ⟨k, ho.symm, by rw [Sum.inr.inj hk]; rfl⟩, KQ.vq KC, F0, M9, KS, KB⟩⟩
theorem rc_overflow (I : LI Ls h F) (hT : cz_overflow h x1 x2 k v) (hv : v.2 ≤ 600) (hZ : ∀ o F', MX 72 F' → (∃ n2 : Int32, o = .inl (some (.inl n2)) ∧ cmI (v.2 + 1) (mh (x_setc h 0 0) F') F' k n2) → Z o (mh (x_setc h 0 0) F')) : xC 2000000000000 138 [.inr (.inr (8, 1)), .inl x1, .inl x2] (x_setc h 0 0) Z := by
  obtain ⟨KQ, KC, KK, VV, F0, KM, KS, KB⟩ := hT
  have e := (I.setc (a := 0) (b := 0)).2.2.2.1
  have H := tv138 (Z := fun o g => ∃ F', g = mh (x_setc h 0 0) F' ∧ MX 72 F' ∧ (∃ v : Int32, o = .inl (some (.inl v)))) (x1 := x1) (x2 := x2) I.2.1 I.2.2.1 (fun o F' hp => ⟨F', rfl, hp.1, hp.2⟩)
  rw [e] at H
  refine (H.en (s138 KS KB hv) (mr_rs.1 _ _ 0 0 KM)).mono (by decide) (fun o g hz => ?_)
  obtain ⟨⟨F', rfl, hM, hr⟩, t9, C9, S9, A9, B9⟩ := hz
  have K9 : kP (v.1, v.2 + 1) (v.1, v.2 + 1) (mh (x_setc h 0 0) F') := ⟨KQ, CR.mh (cr_rs.1 _ _ 0 0 KC), t9, C9, S9, B9⟩
  have T9 : (F' 8 0).toInt = k.toInt := by rw [← C9.eq.1 0]; exact KK.thr A9
  obtain ⟨n2, rfl⟩ := hr
  exact hZ _ F' hM ⟨n2, rfl, T9, fun hk => KK.val A9 hk, _, K9, Nat.le_refl _⟩
end XCM
theorem rc_thrown {Ls : Nat × (Nat → Int32)} {h : xH} {F : xF} {Z : xO → xH → Prop} (I : LI Ls h F) (hZ : Z (.inl (some (.inl (F 8 0)))) (x_setc h 0 0)) : xC 2000000000000 90 [.inr (.inr (8, 1))] (x_setc h 0 0) Z := by
  have e := (I.setc (a := 0) (b := 0)).2.2.2.1
  rw [← e]
  refine (tv90 I.2.1 (fun o F' hp => ?_)).up (by decide)
  obtain ⟨rfl, v, rfl, rfl⟩ := hp
  rw [e]
  exact hZ
