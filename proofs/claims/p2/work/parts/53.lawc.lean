/-! THE LAW'S CALLERS AND THE REFERENCE UNDER THE LAW'S INVARIANT (printed by gen_law2.py) -/
def ZV (Ls : Nat × (Nat → Int32)) (F : xF) (v : Int32) : xO → xH → Prop := fun o g => (∃ n : Int32, o = .inl (some (.inl n))) ∧ LI Ls g F ∧ kP v v g
theorem lc_route {n0 : Nat} {oa : Nat → Nat → Nat} {D : (Nat → ClassId) × (Nat → Nat → Nat) × (Nat → ClassId)} {Ls : Nat × (Nat → Int32)} {h : xH} {F : xF} {v : Int32} {x1 x2 x3 x4 x5 : Int32} (I : LI Ls h F) (K : kP v v h) : x_ConW n0 oa D wm_route hh_route [.inr (.inr (7, 1)), .inl x1, .inl x2, .inl x3, .inl x4, .inl x5, .inr (.inr (21, 1))] (x_setc h 0 0) (ZV Ls F v) := by
  refine cw_route rfl rfl I.l7 ((tv49 (c := x_pj h) I.vi I.g7 (fun o g hp => hp)).kp (v := v) (w := v) rfl K) (fun v h1 hz => ?_) (fun k h1 hz => ?_)
  · obtain ⟨hz, K9⟩ := hz
    rcases hz with ⟨⟨hC, hm⟩, n, hn⟩ | ⟨⟨hC, hm⟩, k', hk⟩
    · have J := I.mq hC hm
      exact ⟨J.2.2.2.2.1, J.2.2.2.2.2.1, n, Sum.inl.inj hn, fun a b => ⟨⟨_, rfl⟩, J.setc.putl, K9⟩⟩
    · cases hk
  · obtain ⟨hz, K9⟩ := hz
    rcases hz with ⟨-, n, hn⟩ | ⟨⟨hC, hm⟩, k', hk⟩
    · cases hn
    · have J := I.mq hC (x_mq_of hm)
      exact fun a b => ⟨⟨_, rfl⟩, J.setc, K9⟩
theorem rc_route {Ls : Nat × (Nat → Int32)} {h : xH} {F : xF} {Z : xO → xH → Prop} {v : Int32} {x1 x2 x3 x4 x5 : Int32} (I : LI Ls h F) (K : kP v v h) (hZ : ∀ o F', MX 72 F' → kP v v (mh (x_setc h 0 0) F') → (∃ v : Int32, o = .inl (some (.inl v))) → Z o (mh (x_setc h 0 0) F')) : xC 2000000000000 97 [.inr (.inr (8, 1)), .inl x1, .inl x2, .inl x3, .inl x4, .inl x5] (x_setc h 0 0) Z := by
  have e := (I.setc (a := 0) (b := 0)).2.2.2.1
  rw [← e]
  refine ((tv97 (Z := fun o g => ∃ F', g = mh (x_setc h 0 0) F' ∧ MX 72 F' ∧ (∃ v : Int32, o = .inl (some (.inl v)))) I.2.1 I.2.2.1 (fun o F' hp => ⟨F', rfl, hp.1, hp.2⟩)).kp (v := v) (w := v) rfl (by rw [e]; exact K)).mono (by decide) (fun o g hz => ?_)
  obtain ⟨⟨F', rfl, hM, hr⟩, K9⟩ := hz
  exact hZ o F' hM K9 hr
theorem lc_hunt {n0 : Nat} {oa : Nat → Nat → Nat} {D : (Nat → ClassId) × (Nat → Nat → Nat) × (Nat → ClassId)} {Ls : Nat × (Nat → Int32)} {h : xH} {F : xF} {v : Int32} {x1 x2 x3 : Int32} (I : LI Ls h F) (K : kP v v h) : x_ConW n0 oa D wm_hunt hh_hunt [.inr (.inr (7, 1)), .inl x1, .inl x2, .inl x3, .inr (.inr (21, 1))] (x_setc h 0 0) (ZV Ls F v) := by
  refine cw_hunt rfl rfl I.l7 ((tv50 (c := x_pj h) I.vi I.g7 (fun o g hp => hp)).kp (v := v) (w := v) rfl K) (fun v h1 hz => ?_) (fun k h1 hz => ?_)
  · obtain ⟨hz, K9⟩ := hz
    rcases hz with ⟨⟨hC, hm⟩, n, hn⟩ | ⟨⟨hC, hm⟩, k', hk⟩
    · have J := I.mq hC (x_mq_of hm)
      exact ⟨J.2.2.2.2.1, J.2.2.2.2.2.1, n, Sum.inl.inj hn, fun a b => ⟨⟨_, rfl⟩, J.setc.putl, K9⟩⟩
    · cases hk
  · obtain ⟨hz, K9⟩ := hz
    rcases hz with ⟨-, n, hn⟩ | ⟨⟨hC, hm⟩, k', hk⟩
    · cases hn
    · have J := I.mq hC (x_mq_of hm)
      exact fun a b => ⟨⟨_, rfl⟩, J.setc, K9⟩
theorem rc_hunt {Ls : Nat × (Nat → Int32)} {h : xH} {F : xF} {Z : xO → xH → Prop} {v : Int32} {x1 x2 x3 : Int32} (I : LI Ls h F) (K : kP v v h) (hZ : ∀ o F', MX 72 F' → kP v v (mh (x_setc h 0 0) F') → (∃ v : Int32, o = .inl (some (.inl v))) → Z o (mh (x_setc h 0 0) F')) : xC 2000000000000 98 [.inr (.inr (8, 1)), .inl x1, .inl x2, .inl x3] (x_setc h 0 0) Z := by
  have e := (I.setc (a := 0) (b := 0)).2.2.2.1
  rw [← e]
  refine ((tv98 (Z := fun o g => ∃ F', g = mh (x_setc h 0 0) F' ∧ MX 72 F' ∧ (∃ v : Int32, o = .inl (some (.inl v)))) I.2.1 I.2.2.1 (fun o F' hp => ⟨F', rfl, hp.1, hp.2⟩)).kp (v := v) (w := v) rfl (by rw [e]; exact K)).mono (by decide) (fun o g hz => ?_)
  obtain ⟨⟨F', rfl, hM, hr⟩, K9⟩ := hz
  exact hZ o F' hM K9 hr
theorem lc_lift {n0 : Nat} {oa : Nat → Nat → Nat} {D : (Nat → ClassId) × (Nat → Nat → Nat) × (Nat → ClassId)} {Ls : Nat × (Nat → Int32)} {h : xH} {F : xF} {v : Int32} {x1 x2 : Int32} (I : LI Ls h F) (K : kP v v h) : x_ConW n0 oa D wm_lift hh_lift [.inr (.inr (7, 1)), .inl x1, .inl x2] (x_setc h 0 0) (ZV Ls F v) := by
  refine cw_lift rfl rfl I.l7 ((tv58 (c := x_pj h) I.vi I.g7 (fun o g hp => hp)).kp (v := v) (w := v) rfl K) (fun v h1 hz => ?_) (fun k h1 hz => ?_)
  · obtain ⟨hz, K9⟩ := hz
    rcases hz with ⟨⟨hC, hm⟩, hn⟩ | ⟨⟨hC, hm⟩, k', hk⟩
    · have J := I.mq hC (x_mq_of hm)
      exact ⟨Sum.inl.inj hn, fun a b => ⟨⟨_, rfl⟩, J.setc, K9⟩⟩
    · cases hk
  · obtain ⟨hz, K9⟩ := hz
    rcases hz with ⟨-, hn⟩ | ⟨⟨hC, hm⟩, k', hk⟩
    · cases hn
    · have J := I.mq hC (x_mq_of hm)
      exact fun a b => ⟨⟨_, rfl⟩, J.setc, K9⟩
theorem rc_lift {Ls : Nat × (Nat → Int32)} {h : xH} {F : xF} {Z : xO → xH → Prop} {v : Int32} {x1 x2 : Int32} (I : LI Ls h F) (K : kP v v h) (hZ : ∀ o F', MX 72 F' → kP v v (mh (x_setc h 0 0) F') → o = .inl none → Z o (mh (x_setc h 0 0) F')) : xC 2000000000000 110 [.inr (.inr (8, 1)), .inl x1, .inl x2] (x_setc h 0 0) Z := by
  have e := (I.setc (a := 0) (b := 0)).2.2.2.1
  rw [← e]
  refine ((tv110 (Z := fun o g => ∃ F', g = mh (x_setc h 0 0) F' ∧ MX 72 F' ∧ o = .inl none) I.2.1 I.2.2.1 (fun o F' hp => ⟨F', rfl, hp.1, hp.2⟩)).kp (v := v) (w := v) rfl (by rw [e]; exact K)).mono (by decide) (fun o g hz => ?_)
  obtain ⟨⟨F', rfl, hM, hr⟩, K9⟩ := hz
  exact hZ o F' hM K9 hr
theorem lc_hang {n0 : Nat} {oa : Nat → Nat → Nat} {D : (Nat → ClassId) × (Nat → Nat → Nat) × (Nat → ClassId)} {Ls : Nat × (Nat → Int32)} {h : xH} {F : xF} {v : Int32} {x1 x2 : Int32} (I : LI Ls h F) (K : kP v v h) : x_ConW n0 oa D wm_hang hh_hang [.inr (.inr (7, 1)), .inl x1, .inl x2] (x_setc h 0 0) (ZV Ls F v) := by
  refine cw_hang rfl rfl I.l7 ((tv60 (c := x_pj h) I.vi I.g7 (fun o g hp => hp)).kp (v := v) (w := v) rfl K) (fun v h1 hz => ?_) (fun k h1 hz => ?_)
  · obtain ⟨hz, K9⟩ := hz
    rcases hz with ⟨⟨hC, hm⟩, hn⟩ | ⟨⟨hC, hm⟩, k', hk⟩
    · have J := I.mq hC (x_mq_of hm)
      exact ⟨Sum.inl.inj hn, fun a b => ⟨⟨_, rfl⟩, J.setc, K9⟩⟩
    · cases hk
  · obtain ⟨hz, K9⟩ := hz
    rcases hz with ⟨-, hn⟩ | ⟨⟨hC, hm⟩, k', hk⟩
    · cases hn
    · have J := I.mq hC (x_mq_of hm)
      exact fun a b => ⟨⟨_, rfl⟩, J.setc, K9⟩
theorem rc_hang {Ls : Nat × (Nat → Int32)} {h : xH} {F : xF} {Z : xO → xH → Prop} {v : Int32} {x1 x2 : Int32} (I : LI Ls h F) (K : kP v v h) (hZ : ∀ o F', MX 72 F' → kP v v (mh (x_setc h 0 0) F') → o = .inl none → Z o (mh (x_setc h 0 0) F')) : xC 2000000000000 111 [.inr (.inr (8, 1)), .inl x1, .inl x2] (x_setc h 0 0) Z := by
  have e := (I.setc (a := 0) (b := 0)).2.2.2.1
  rw [← e]
  refine ((tv111 (Z := fun o g => ∃ F', g = mh (x_setc h 0 0) F' ∧ MX 72 F' ∧ o = .inl none) I.2.1 I.2.2.1 (fun o F' hp => ⟨F', rfl, hp.1, hp.2⟩)).kp (v := v) (w := v) rfl (by rw [e]; exact K)).mono (by decide) (fun o g hz => ?_)
  obtain ⟨⟨F', rfl, hM, hr⟩, K9⟩ := hz
  exact hZ o F' hM K9 hr
theorem lc_dial {n0 : Nat} {oa : Nat → Nat → Nat} {D : (Nat → ClassId) × (Nat → Nat → Nat) × (Nat → ClassId)} {Ls : Nat × (Nat → Int32)} {h : xH} {F : xF} {v : Int32} {x1 x2 x3 : Int32} (I : LI Ls h F) (K : kP v v h) : x_ConW n0 oa D wm_dial hh_dial [.inr (.inr (7, 1)), .inl x1, .inl x2, .inl x3, .inr (.inr (21, 1))] (x_setc h 0 0) (ZV Ls F v) := by
  refine cw_dial rfl rfl I.l7 ((tv63 (c := x_pj h) I.vi I.g7 (fun o g hp => hp)).kp (v := v) (w := v) rfl K) (fun v h1 hz => ?_) (fun k h1 hz => ?_)
  · obtain ⟨hz, K9⟩ := hz
    rcases hz with ⟨⟨hC, hm⟩, n, hn, -⟩ | ⟨⟨hC, hm⟩, k', hk⟩
    · have J := I.mq hC (x_mq_of hm)
      exact ⟨J.2.2.2.2.1, J.2.2.2.2.2.1, n, Sum.inl.inj hn, fun a b => ⟨⟨_, rfl⟩, J.setc.putl, K9⟩⟩
    · cases hk
  · obtain ⟨hz, K9⟩ := hz
    rcases hz with ⟨-, n, hn, -⟩ | ⟨⟨hC, hm⟩, k', hk⟩
    · cases hn
    · have J := I.mq hC (x_mq_of hm)
      exact fun a b => ⟨⟨_, rfl⟩, J.setc, K9⟩
theorem rc_dial {Ls : Nat × (Nat → Int32)} {h : xH} {F : xF} {Z : xO → xH → Prop} {v : Int32} {x1 x2 x3 : Int32} (I : LI Ls h F) (K : kP v v h) (hZ : ∀ o F', MX 72 F' → kP v v (mh (x_setc h 0 0) F') → (∃ v : Int32, o = .inl (some (.inl v)) ∧ (0 ≤ v.toInt ∧ v.toInt ≤ 1)) → Z o (mh (x_setc h 0 0) F')) : xC 2000000000000 115 [.inr (.inr (8, 1)), .inl x1, .inl x2, .inl x3] (x_setc h 0 0) Z := by
  have e := (I.setc (a := 0) (b := 0)).2.2.2.1
  rw [← e]
  refine ((tv115 (Z := fun o g => ∃ F', g = mh (x_setc h 0 0) F' ∧ MX 72 F' ∧ (∃ v : Int32, o = .inl (some (.inl v)) ∧ (0 ≤ v.toInt ∧ v.toInt ≤ 1))) I.2.1 I.2.2.1 (fun o F' hp => ⟨F', rfl, hp.1, hp.2⟩)).kp (v := v) (w := v) rfl (by rw [e]; exact K)).mono (by decide) (fun o g hz => ?_)
  obtain ⟨⟨F', rfl, hM, hr⟩, K9⟩ := hz
  exact hZ o F' hM K9 hr
theorem lc_tick {n0 : Nat} {oa : Nat → Nat → Nat} {D : (Nat → ClassId) × (Nat → Nat → Nat) × (Nat → ClassId)} {Ls : Nat × (Nat → Int32)} {h : xH} {F : xF} {v : Int32} {x1 : Int32} (I : LI Ls h F) (K : kP v v h) : x_ConW n0 oa D wm_tick hh_tick [.inr (.inr (7, 1)), .inl x1] (x_setc h 0 0) (ZV Ls F v) := by
  refine cw_tick rfl rfl I.l7 ((tw78 (c := x_pj h) I.vi I.g7 (fun o g hp => hp)).kp (v := v) (w := v) rfl K) (fun v h1 hz => ?_) (fun k h1 hz => ?_)
  · obtain ⟨hz, K9⟩ := hz
    rcases hz with ⟨⟨hC, hm⟩, hn, -⟩ | ⟨⟨hC, hm⟩, hk, -⟩
    · have J := I.mq hC (x_mq_of hm)
      exact ⟨Sum.inl.inj hn, fun a b => ⟨⟨_, rfl⟩, J.setc, K9⟩⟩
    · cases hk
  · obtain ⟨hz, K9⟩ := hz
    rcases hz with ⟨-, hn, -⟩ | ⟨⟨hC, hm⟩, hk, -⟩
    · cases hn
    · have J := I.mq hC (x_mq_of hm)
      exact ⟨Sum.inr.inj hk, fun a b => ⟨⟨_, rfl⟩, J.setc, K9⟩⟩
theorem rc_tick {Ls : Nat × (Nat → Int32)} {h : xH} {F : xF} {Z : xO → xH → Prop} {v : Int32} {x1 : Int32} (I : LI Ls h F) (K : kP v v h) (hZ : ∀ o F', MX 72 F' → kP v v (mh (x_setc h 0 0) F') → o = .inl none → Z o (mh (x_setc h 0 0) F')) : xC 2000000000000 129 [.inr (.inr (8, 1)), .inl x1] (x_setc h 0 0) Z := by
  have e := (I.setc (a := 0) (b := 0)).2.2.2.1
  rw [← e]
  refine ((tv129 (Z := fun o g => ∃ F', g = mh (x_setc h 0 0) F' ∧ MX 72 F' ∧ o = .inl none) I.2.1 I.2.2.1 (fun o F' hp => ⟨F', rfl, hp.1.1, hp.2⟩)).kp (v := v) (w := v) rfl (by rw [e]; exact K)).mono (by decide) (fun o g hz => ?_)
  obtain ⟨⟨F', rfl, hM, hr⟩, K9⟩ := hz
  exact hZ o F' hM K9 hr
theorem lc_out {n0 : Nat} {oa : Nat → Nat → Nat} {D : (Nat → ClassId) × (Nat → Nat → Nat) × (Nat → ClassId)} {Ls : Nat × (Nat → Int32)} {h : xH} {F : xF} {v : Int32} {x1 x2 : Int32} (I : LI Ls h F) (K : kP v v h) (g2 : 0 ≤ x2.toInt ∧ x2.toInt ≤ 1) : x_ConW n0 oa D wm_out hh_out [.inr (.inr (7, 1)), .inl x1, .inl x2, .inr (.inr (21, 1))] (x_setc h 0 0) (ZV Ls F v) := by
  refine cw_out rfl rfl I.l7 ((tw79 (c := x_pj h) I.vi I.g7 g2 (fun o g hp => hp)).kp (v := v) (w := v) rfl K) (fun v h1 hz => ?_) (fun k h1 hz => ?_)
  · obtain ⟨hz, K9⟩ := hz
    rcases hz with ⟨⟨hC, hm⟩, n, hn, -⟩ | ⟨⟨hC, hm⟩, hk⟩
    · have J := I.mq hC (x_mq_of hm)
      exact ⟨J.2.2.2.2.1, J.2.2.2.2.2.1, n, Sum.inl.inj hn, fun a b => ⟨⟨_, rfl⟩, J.setc.putl, K9⟩⟩
    · cases hk
  · obtain ⟨hz, K9⟩ := hz
    rcases hz with ⟨-, n, hn, -⟩ | ⟨⟨hC, hm⟩, hk⟩
    · cases hn
    · have J := I.mq hC (x_mq_of hm)
      exact ⟨Sum.inr.inj hk, fun a b => ⟨⟨_, rfl⟩, J.setc, K9⟩⟩
theorem rc_out {Ls : Nat × (Nat → Int32)} {h : xH} {F : xF} {Z : xO → xH → Prop} {v : Int32} {x1 x2 : Int32} (I : LI Ls h F) (K : kP v v h) (g2 : 0 ≤ x2.toInt ∧ x2.toInt ≤ 1) (hZ : ∀ o F', MX 72 F' → kP v v (mh (x_setc h 0 0) F') → (∃ v : Int32, o = .inl (some (.inl v)) ∧ (0 ≤ v.toInt ∧ v.toInt ≤ 1)) → Z o (mh (x_setc h 0 0) F')) : xC 2000000000000 130 [.inr (.inr (8, 1)), .inl x1, .inl x2] (x_setc h 0 0) Z := by
  have e := (I.setc (a := 0) (b := 0)).2.2.2.1
  rw [← e]
  refine ((tv130 (Z := fun o g => ∃ F', g = mh (x_setc h 0 0) F' ∧ MX 72 F' ∧ (∃ v : Int32, o = .inl (some (.inl v)) ∧ (0 ≤ v.toInt ∧ v.toInt ≤ 1))) I.2.1 g2 I.2.2.1 (fun o F' hp => ⟨F', rfl, hp.1, hp.2⟩)).kp (v := v) (w := v) rfl (by rw [e]; exact K)).mono (by decide) (fun o g hz => ?_)
  obtain ⟨⟨F', rfl, hM, hr⟩, K9⟩ := hz
  exact hZ o F' hM K9 hr
theorem lc_hold {n0 : Nat} {oa : Nat → Nat → Nat} {D : (Nat → ClassId) × (Nat → Nat → Nat) × (Nat → ClassId)} {Ls : Nat × (Nat → Int32)} {h : xH} {F : xF} {v : Int32} {x1 x2 x3 : Int32} (I : LI Ls h F) (K : kP v v h) (g3 : 0 ≤ x3.toInt ∧ x3.toInt ≤ 1) : x_ConW n0 oa D wm_hold hh_hold [.inr (.inr (7, 1)), .inl x1, .inl x2, .inl x3, .inr (.inr (21, 1))] (x_setc h 0 0) (ZV Ls F v) := by
  refine cw_hold rfl rfl I.l7 ((tw80 (c := x_pj h) I.vi I.g7 g3 (fun o g hp => hp)).kp (v := v) (w := v) rfl K) (fun v h1 hz => ?_) (fun k h1 hz => ?_)
  · obtain ⟨hz, K9⟩ := hz
    rcases hz with ⟨⟨hC, hm⟩, n, hn, -⟩ | ⟨⟨hC, hm⟩, hk⟩
    · have J := I.mq hC (x_mq_of hm)
      exact ⟨J.2.2.2.2.1, J.2.2.2.2.2.1, n, Sum.inl.inj hn, fun a b => ⟨⟨_, rfl⟩, J.setc.putl, K9⟩⟩
    · cases hk
  · obtain ⟨hz, K9⟩ := hz
    rcases hz with ⟨-, n, hn, -⟩ | ⟨⟨hC, hm⟩, hk⟩
    · cases hn
    · have J := I.mq hC (x_mq_of hm)
      exact ⟨Sum.inr.inj hk, fun a b => ⟨⟨_, rfl⟩, J.setc, K9⟩⟩
theorem rc_hold {Ls : Nat × (Nat → Int32)} {h : xH} {F : xF} {Z : xO → xH → Prop} {v : Int32} {x1 x2 x3 : Int32} (I : LI Ls h F) (K : kP v v h) (g3 : 0 ≤ x3.toInt ∧ x3.toInt ≤ 1) (hZ : ∀ o F', MX 72 F' → kP v v (mh (x_setc h 0 0) F') → (∃ v : Int32, o = .inl (some (.inl v)) ∧ (0 ≤ v.toInt ∧ v.toInt ≤ 1)) → Z o (mh (x_setc h 0 0) F')) : xC 2000000000000 131 [.inr (.inr (8, 1)), .inl x1, .inl x2, .inl x3] (x_setc h 0 0) Z := by
  have e := (I.setc (a := 0) (b := 0)).2.2.2.1
  rw [← e]
  refine ((tv131 (Z := fun o g => ∃ F', g = mh (x_setc h 0 0) F' ∧ MX 72 F' ∧ (∃ v : Int32, o = .inl (some (.inl v)) ∧ (0 ≤ v.toInt ∧ v.toInt ≤ 1))) I.2.1 g3 I.2.2.1 (fun o F' hp => ⟨F', rfl, hp.1, hp.2⟩)).kp (v := v) (w := v) rfl (by rw [e]; exact K)).mono (by decide) (fun o g hz => ?_)
  obtain ⟨⟨F', rfl, hM, hr⟩, K9⟩ := hz
  exact hZ o F' hM K9 hr
theorem lc_tone {n0 : Nat} {oa : Nat → Nat → Nat} {D : (Nat → ClassId) × (Nat → Nat → Nat) × (Nat → ClassId)} {Ls : Nat × (Nat → Int32)} {h : xH} {F : xF} {v : Int32} {x1 x2 : Int32} (I : LI Ls h F) (K : kP v v h) : x_ConW n0 oa D wm_tone hh_tone [.inr (.inr (7, 1)), .inl x1, .inl x2, .inr (.inr (21, 1))] (x_setc h 0 0) (ZV Ls F v) := by
  refine cw_tone rfl rfl I.l7 ((tw81 (c := x_pj h) I.vi I.g7 (fun o g hp => hp)).kp (v := v) (w := v) rfl K) (fun v h1 hz => ?_) (fun k h1 hz => ?_)
  · obtain ⟨hz, K9⟩ := hz
    rcases hz with ⟨⟨hC, hm⟩, n, hn⟩ | ⟨⟨hC, hm⟩, hk⟩
    · have J := I.mq hC (x_mq_of hm)
      exact ⟨J.2.2.2.2.1, J.2.2.2.2.2.1, n, Sum.inl.inj hn, fun a b => ⟨⟨_, rfl⟩, J.setc.putl, K9⟩⟩
    · cases hk
  · obtain ⟨hz, K9⟩ := hz
    rcases hz with ⟨-, n, hn⟩ | ⟨⟨hC, hm⟩, hk⟩
    · cases hn
    · have J := I.mq hC (x_mq_of hm)
      exact ⟨Sum.inr.inj hk, fun a b => ⟨⟨_, rfl⟩, J.setc, K9⟩⟩
theorem rc_tone {Ls : Nat × (Nat → Int32)} {h : xH} {F : xF} {Z : xO → xH → Prop} {v : Int32} {x1 x2 : Int32} (I : LI Ls h F) (K : kP v v h) (hZ : ∀ o F', MX 72 F' → kP v v (mh (x_setc h 0 0) F') → (∃ v : Int32, o = .inl (some (.inl v))) → Z o (mh (x_setc h 0 0) F')) : xC 2000000000000 132 [.inr (.inr (8, 1)), .inl x1, .inl x2] (x_setc h 0 0) Z := by
  have e := (I.setc (a := 0) (b := 0)).2.2.2.1
  rw [← e]
  refine ((tv132 (Z := fun o g => ∃ F', g = mh (x_setc h 0 0) F' ∧ MX 72 F' ∧ (∃ v : Int32, o = .inl (some (.inl v)))) I.2.1 I.2.2.1 (fun o F' hp => ⟨F', rfl, hp.1, hp.2⟩)).kp (v := v) (w := v) rfl (by rw [e]; exact K)).mono (by decide) (fun o g hz => ?_)
  obtain ⟨⟨F', rfl, hM, hr⟩, K9⟩ := hz
  exact hZ o F' hM K9 hr
theorem lc_rings {n0 : Nat} {oa : Nat → Nat → Nat} {D : (Nat → ClassId) × (Nat → Nat → Nat) × (Nat → ClassId)} {Ls : Nat × (Nat → Int32)} {h : xH} {F : xF} {v : Int32} {x1 x2 : Int32} (I : LI Ls h F) (K : kP v v h) : x_ConW n0 oa D wm_rings hh_rings [.inr (.inr (7, 1)), .inl x1, .inl x2, .inr (.inr (21, 1))] (x_setc h 0 0) (ZV Ls F v) := by
  refine cw_rings rfl rfl I.l7 ((tw82 (c := x_pj h) I.vi I.g7 (fun o g hp => hp)).kp (v := v) (w := v) rfl K) (fun v h1 hz => ?_) (fun k h1 hz => ?_)
  · obtain ⟨hz, K9⟩ := hz
    rcases hz with ⟨⟨hC, hm⟩, n, hn, -⟩ | ⟨⟨hC, hm⟩, hk⟩
    · have J := I.mq hC (x_mq_of hm)
      exact ⟨J.2.2.2.2.1, J.2.2.2.2.2.1, n, Sum.inl.inj hn, fun a b => ⟨⟨_, rfl⟩, J.setc.putl, K9⟩⟩
    · cases hk
  · obtain ⟨hz, K9⟩ := hz
    rcases hz with ⟨-, n, hn, -⟩ | ⟨⟨hC, hm⟩, hk⟩
    · cases hn
    · have J := I.mq hC (x_mq_of hm)
      exact ⟨Sum.inr.inj hk, fun a b => ⟨⟨_, rfl⟩, J.setc, K9⟩⟩
theorem rc_rings {Ls : Nat × (Nat → Int32)} {h : xH} {F : xF} {Z : xO → xH → Prop} {v : Int32} {x1 x2 : Int32} (I : LI Ls h F) (K : kP v v h) (hZ : ∀ o F', MX 72 F' → kP v v (mh (x_setc h 0 0) F') → (∃ v : Int32, o = .inl (some (.inl v)) ∧ (0 ≤ v.toInt ∧ v.toInt ≤ 1)) → Z o (mh (x_setc h 0 0) F')) : xC 2000000000000 133 [.inr (.inr (8, 1)), .inl x1, .inl x2] (x_setc h 0 0) Z := by
  have e := (I.setc (a := 0) (b := 0)).2.2.2.1
  rw [← e]
  refine ((tv133 (Z := fun o g => ∃ F', g = mh (x_setc h 0 0) F' ∧ MX 72 F' ∧ (∃ v : Int32, o = .inl (some (.inl v)) ∧ (0 ≤ v.toInt ∧ v.toInt ≤ 1))) I.2.1 I.2.2.1 (fun o F' hp => ⟨F', rfl, hp.1, hp.2⟩)).kp (v := v) (w := v) rfl (by rw [e]; exact K)).mono (by decide) (fun o g hz => ?_)
  obtain ⟨⟨F', rfl, hM, hr⟩, K9⟩ := hz
  exact hZ o F' hM K9 hr
theorem lc_talks {n0 : Nat} {oa : Nat → Nat → Nat} {D : (Nat → ClassId) × (Nat → Nat → Nat) × (Nat → ClassId)} {Ls : Nat × (Nat → Int32)} {h : xH} {F : xF} {v : Int32} {x1 x2 : Int32} (I : LI Ls h F) (K : kP v v h) : x_ConW n0 oa D wm_talks hh_talks [.inr (.inr (7, 1)), .inl x1, .inl x2, .inr (.inr (21, 1))] (x_setc h 0 0) (ZV Ls F v) := by
  refine cw_talks rfl rfl I.l7 ((tw83 (c := x_pj h) I.vi I.g7 (fun o g hp => hp)).kp (v := v) (w := v) rfl K) (fun v h1 hz => ?_) (fun k h1 hz => ?_)
  · obtain ⟨hz, K9⟩ := hz
    rcases hz with ⟨⟨hC, hm⟩, n, hn⟩ | ⟨⟨hC, hm⟩, hk⟩
    · have J := I.mq hC (x_mq_of hm)
      exact ⟨J.2.2.2.2.1, J.2.2.2.2.2.1, n, Sum.inl.inj hn, fun a b => ⟨⟨_, rfl⟩, J.setc.putl, K9⟩⟩
    · cases hk
  · obtain ⟨hz, K9⟩ := hz
    rcases hz with ⟨-, n, hn⟩ | ⟨⟨hC, hm⟩, hk⟩
    · cases hn
    · have J := I.mq hC (x_mq_of hm)
      exact ⟨Sum.inr.inj hk, fun a b => ⟨⟨_, rfl⟩, J.setc, K9⟩⟩
theorem rc_talks {Ls : Nat × (Nat → Int32)} {h : xH} {F : xF} {Z : xO → xH → Prop} {v : Int32} {x1 x2 : Int32} (I : LI Ls h F) (K : kP v v h) (hZ : ∀ o F', MX 72 F' → kP v v (mh (x_setc h 0 0) F') → (∃ v : Int32, o = .inl (some (.inl v))) → Z o (mh (x_setc h 0 0) F')) : xC 2000000000000 134 [.inr (.inr (8, 1)), .inl x1, .inl x2] (x_setc h 0 0) Z := by
  have e := (I.setc (a := 0) (b := 0)).2.2.2.1
  rw [← e]
  refine ((tv134 (Z := fun o g => ∃ F', g = mh (x_setc h 0 0) F' ∧ MX 72 F' ∧ (∃ v : Int32, o = .inl (some (.inl v)))) I.2.1 I.2.2.1 (fun o F' hp => ⟨F', rfl, hp.1, hp.2⟩)).kp (v := v) (w := v) rfl (by rw [e]; exact K)).mono (by decide) (fun o g hz => ?_)
  obtain ⟨⟨F', rfl, hM, hr⟩, K9⟩ := hz
  exact hZ o F' hM K9 hr
theorem lc_meter {n0 : Nat} {oa : Nat → Nat → Nat} {D : (Nat → ClassId) × (Nat → Nat → Nat) × (Nat → ClassId)} {Ls : Nat × (Nat → Int32)} {h : xH} {F : xF} {v : Int32} {x1 x2 : Int32} (I : LI Ls h F) (K : kP v v h) : x_ConW n0 oa D wm_meter hh_meter [.inr (.inr (7, 1)), .inl x1, .inl x2, .inr (.inr (21, 1))] (x_setc h 0 0) (ZV Ls F v) := by
  refine cw_meter rfl rfl I.l7 ((tw84 (c := x_pj h) I.vi I.g7 (fun o g hp => hp)).kp (v := v) (w := v) rfl K) (fun v h1 hz => ?_) (fun k h1 hz => ?_)
  · obtain ⟨hz, K9⟩ := hz
    rcases hz with ⟨⟨hC, hm⟩, n, hn⟩ | ⟨⟨hC, hm⟩, hk⟩
    · have J := I.mq hC (x_mq_of hm)
      exact ⟨J.2.2.2.2.1, J.2.2.2.2.2.1, n, Sum.inl.inj hn, fun a b => ⟨⟨_, rfl⟩, J.setc.putl, K9⟩⟩
    · cases hk
  · obtain ⟨hz, K9⟩ := hz
    rcases hz with ⟨-, n, hn⟩ | ⟨⟨hC, hm⟩, hk⟩
    · cases hn
    · have J := I.mq hC (x_mq_of hm)
      exact ⟨Sum.inr.inj hk, fun a b => ⟨⟨_, rfl⟩, J.setc, K9⟩⟩
theorem rc_meter {Ls : Nat × (Nat → Int32)} {h : xH} {F : xF} {Z : xO → xH → Prop} {v : Int32} {x1 x2 : Int32} (I : LI Ls h F) (K : kP v v h) (hZ : ∀ o F', MX 72 F' → kP v v (mh (x_setc h 0 0) F') → (∃ v : Int32, o = .inl (some (.inl v))) → Z o (mh (x_setc h 0 0) F')) : xC 2000000000000 135 [.inr (.inr (8, 1)), .inl x1, .inl x2] (x_setc h 0 0) Z := by
  have e := (I.setc (a := 0) (b := 0)).2.2.2.1
  rw [← e]
  refine ((tv135 (Z := fun o g => ∃ F', g = mh (x_setc h 0 0) F' ∧ MX 72 F' ∧ (∃ v : Int32, o = .inl (some (.inl v)))) I.2.1 I.2.2.1 (fun o F' hp => ⟨F', rfl, hp.1, hp.2⟩)).kp (v := v) (w := v) rfl (by rw [e]; exact K)).mono (by decide) (fun o g hz => ?_)
  obtain ⟨⟨F', rfl, hM, hr⟩, K9⟩ := hz
  exact hZ o F' hM K9 hr
theorem lc_seized {n0 : Nat} {oa : Nat → Nat → Nat} {D : (Nat → ClassId) × (Nat → Nat → Nat) × (Nat → ClassId)} {Ls : Nat × (Nat → Int32)} {h : xH} {F : xF} {v : Int32} {x1 x2 x3 : Int32} (I : LI Ls h F) (K : kP v v h) : x_ConW n0 oa D wm_seized hh_seized [.inr (.inr (7, 1)), .inl x1, .inl x2, .inl x3, .inr (.inr (21, 1))] (x_setc h 0 0) (ZV Ls F v) := by
  refine cw_seized rfl rfl I.l7 ((tw85 (c := x_pj h) I.vi I.g7 (fun o g hp => hp)).kp (v := v) (w := v) rfl K) (fun v h1 hz => ?_) (fun k h1 hz => ?_)
  · obtain ⟨hz, K9⟩ := hz
    rcases hz with ⟨⟨hC, hm⟩, n, hn⟩ | ⟨⟨hC, hm⟩, hk⟩
    · have J := I.mq hC (x_mq_of hm)
      exact ⟨J.2.2.2.2.1, J.2.2.2.2.2.1, n, Sum.inl.inj hn, fun a b => ⟨⟨_, rfl⟩, J.setc.putl, K9⟩⟩
    · cases hk
  · obtain ⟨hz, K9⟩ := hz
    rcases hz with ⟨-, n, hn⟩ | ⟨⟨hC, hm⟩, hk⟩
    · cases hn
    · have J := I.mq hC (x_mq_of hm)
      exact ⟨Sum.inr.inj hk, fun a b => ⟨⟨_, rfl⟩, J.setc, K9⟩⟩
theorem rc_seized {Ls : Nat × (Nat → Int32)} {h : xH} {F : xF} {Z : xO → xH → Prop} {v : Int32} {x1 x2 x3 : Int32} (I : LI Ls h F) (K : kP v v h) (hZ : ∀ o F', MX 72 F' → kP v v (mh (x_setc h 0 0) F') → (∃ v : Int32, o = .inl (some (.inl v))) → Z o (mh (x_setc h 0 0) F')) : xC 2000000000000 136 [.inr (.inr (8, 1)), .inl x1, .inl x2, .inl x3] (x_setc h 0 0) Z := by
  have e := (I.setc (a := 0) (b := 0)).2.2.2.1
  rw [← e]
  refine ((tv136 (Z := fun o g => ∃ F', g = mh (x_setc h 0 0) F' ∧ MX 72 F' ∧ (∃ v : Int32, o = .inl (some (.inl v)))) I.2.1 I.2.2.1 (fun o F' hp => ⟨F', rfl, hp.1, hp.2⟩)).kp (v := v) (w := v) rfl (by rw [e]; exact K)).mono (by decide) (fun o g hz => ?_)
  obtain ⟨⟨F', rfl, hM, hr⟩, K9⟩ := hz
  exact hZ o F' hM K9 hr
theorem lc_idle {n0 : Nat} {oa : Nat → Nat → Nat} {D : (Nat → ClassId) × (Nat → Nat → Nat) × (Nat → ClassId)} {Ls : Nat × (Nat → Int32)} {h : xH} {F : xF} {v : Int32} {x1 x2 : Int32} (I : LI Ls h F) (K : kP v v h) : x_ConW n0 oa D wm_idle hh_idle [.inr (.inr (7, 1)), .inl x1, .inl x2, .inr (.inr (21, 1))] (x_setc h 0 0) (ZV Ls F v) := by
  refine cw_idle rfl rfl I.l7 ((tw87 (c := x_pj h) I.vi I.g7 (fun o g hp => hp)).kp (v := v) (w := v) rfl K) (fun v h1 hz => ?_) (fun k h1 hz => ?_)
  · obtain ⟨hz, K9⟩ := hz
    rcases hz with ⟨⟨hC, hm⟩, n, hn⟩ | ⟨⟨hC, hm⟩, hk⟩
    · have J := I.mq hC (x_mq_of hm)
      exact ⟨J.2.2.2.2.1, J.2.2.2.2.2.1, n, Sum.inl.inj hn, fun a b => ⟨⟨_, rfl⟩, J.setc.putl, K9⟩⟩
    · cases hk
  · obtain ⟨hz, K9⟩ := hz
    rcases hz with ⟨-, n, hn⟩ | ⟨⟨hC, hm⟩, hk⟩
    · cases hn
    · have J := I.mq hC (x_mq_of hm)
      exact ⟨Sum.inr.inj hk, fun a b => ⟨⟨_, rfl⟩, J.setc, K9⟩⟩
theorem rc_idle {Ls : Nat × (Nat → Int32)} {h : xH} {F : xF} {Z : xO → xH → Prop} {v : Int32} {x1 x2 : Int32} (I : LI Ls h F) (K : kP v v h) (hZ : ∀ o F', MX 72 F' → kP v v (mh (x_setc h 0 0) F') → (∃ v : Int32, o = .inl (some (.inl v))) → Z o (mh (x_setc h 0 0) F')) : xC 2000000000000 137 [.inr (.inr (8, 1)), .inl x1, .inl x2] (x_setc h 0 0) Z := by
  have e := (I.setc (a := 0) (b := 0)).2.2.2.1
  rw [← e]
  refine ((tv137 (Z := fun o g => ∃ F', g = mh (x_setc h 0 0) F' ∧ MX 72 F' ∧ (∃ v : Int32, o = .inl (some (.inl v)))) I.2.1 I.2.2.1 (fun o F' hp => ⟨F', rfl, hp.1, hp.2⟩)).kp (v := v) (w := v) rfl (by rw [e]; exact K)).mono (by decide) (fun o g hz => ?_)
  obtain ⟨⟨F', rfl, hM, hr⟩, K9⟩ := hz
  exact hZ o F' hM K9 hr
theorem lc_overflow {n0 : Nat} {oa : Nat → Nat → Nat} {D : (Nat → ClassId) × (Nat → Nat → Nat) × (Nat → ClassId)} {Ls : Nat × (Nat → Int32)} {h : xH} {F : xF} {v : Int32} {x1 x2 : Int32} (I : LI Ls h F) (K : kP v v h) : x_ConW n0 oa D wm_overflow hh_overflow [.inr (.inr (7, 1)), .inl x1, .inl x2, .inr (.inr (21, 1))] (x_setc h 0 0) (ZV Ls F v) := by
  refine cw_overflow rfl rfl I.l7 ((tw88 (c := x_pj h) I.vi I.g7 (fun o g hp => hp)).kp (v := v) (w := v) rfl K) (fun v h1 hz => ?_) (fun k h1 hz => ?_)
  · obtain ⟨hz, K9⟩ := hz
    rcases hz with ⟨⟨hC, hm⟩, n, hn⟩ | ⟨⟨hC, hm⟩, hk⟩
    · have J := I.mq hC (x_mq_of hm)
      exact ⟨J.2.2.2.2.1, J.2.2.2.2.2.1, n, Sum.inl.inj hn, fun a b => ⟨⟨_, rfl⟩, J.setc.putl, K9⟩⟩
    · cases hk
  · obtain ⟨hz, K9⟩ := hz
    rcases hz with ⟨-, n, hn⟩ | ⟨⟨hC, hm⟩, hk⟩
    · cases hn
    · have J := I.mq hC (x_mq_of hm)
      exact ⟨Sum.inr.inj hk, fun a b => ⟨⟨_, rfl⟩, J.setc, K9⟩⟩
theorem rc_overflow {Ls : Nat × (Nat → Int32)} {h : xH} {F : xF} {Z : xO → xH → Prop} {v : Int32} {x1 x2 : Int32} (I : LI Ls h F) (K : kP v v h) (hZ : ∀ o F', MX 72 F' → kP v v (mh (x_setc h 0 0) F') → (∃ v : Int32, o = .inl (some (.inl v))) → Z o (mh (x_setc h 0 0) F')) : xC 2000000000000 138 [.inr (.inr (8, 1)), .inl x1, .inl x2] (x_setc h 0 0) Z := by
  have e := (I.setc (a := 0) (b := 0)).2.2.2.1
  rw [← e]
  refine ((tv138 (Z := fun o g => ∃ F', g = mh (x_setc h 0 0) F' ∧ MX 72 F' ∧ (∃ v : Int32, o = .inl (some (.inl v)))) I.2.1 I.2.2.1 (fun o F' hp => ⟨F', rfl, hp.1, hp.2⟩)).kp (v := v) (w := v) rfl (by rw [e]; exact K)).mono (by decide) (fun o g hz => ?_)
  obtain ⟨⟨F', rfl, hM, hr⟩, K9⟩ := hz
  exact hZ o F' hM K9 hr
theorem rc_thrown {Ls : Nat × (Nat → Int32)} {h : xH} {F : xF} {Z : xO → xH → Prop} (I : LI Ls h F) (hZ : Z (.inl (some (.inl (F 8 0)))) (x_setc h 0 0)) : xC 2000000000000 90 [.inr (.inr (8, 1))] (x_setc h 0 0) Z := by
  have e := (I.setc (a := 0) (b := 0)).2.2.2.1
  rw [← e]
  refine (tv90 I.2.1 (fun o F' hp => ?_)).up (by decide)
  obtain ⟨rfl, v, rfl, rfl⟩ := hp
  rw [e]
  exact hZ
/-- good offices -/
def cmA (x1 x2 : Int32) : Prop := (0 ≤ x1.toInt ∧ x1.toInt ≤ 2) ∧ (0 ≤ x2.toInt ∧ x2.toInt ≤ 2) ∧ x1.toInt ≠ x2.toInt
/-- behind the class's trunk: k came back, there were v trunks -/
def cmZ (g : xH) (x1 x2 k v : Int32) : Prop := x_vi g 8 20 1 = v ∧ ((cmA x1 x2 ∧ v.toInt ≤ 15 ∧ k.toInt = 0 ∧ (x_vi g 7 4 1).toInt = v.toInt + 1 ∧ ∃ a : Int32, x_lg g = a.toInt64 ∧ a.toInt = v.toInt) ∨ (¬ cmA x1 x2 ∧ k.toInt = 1 ∧ x_vi g 7 4 1 = v) ∨ (cmA x1 x2 ∧ ¬ v.toInt ≤ 15 ∧ k.toInt = 2 ∧ x_vi g 7 4 1 = v))
/-- behind the reference's, in the heap g2, with the answer b -/
def cmR (g g2 : xH) (F2 : xF) (x1 x2 b : Int32) : Prop := x_vi g2 7 4 1 = x_vi g 7 4 1 ∧ x_lg g2 = x_lg g ∧ ((cmA x1 x2 ∧ (x_vi g 8 20 1).toInt ≤ 15 ∧ (F2 8 0).toInt = 0 ∧ (x_vi g2 8 20 1).toInt = (x_vi g 8 20 1).toInt + 1 ∧ b.toInt = (x_vi g 8 20 1).toInt) ∨ (¬ cmA x1 x2 ∧ (F2 8 0).toInt = 1 ∧ x_vi g2 8 20 1 = x_vi g 8 20 1) ∨ (cmA x1 x2 ∧ ¬ (x_vi g 8 20 1).toInt ≤ 15 ∧ (F2 8 0).toInt = 2 ∧ x_vi g2 8 20 1 = x_vi g 8 20 1))
section XCM
variable {g g2 : xH} {F2 : xF} {x1 x2 k v b : Int32}
theorem cmR.thr {a' b' : Nat} (c : cmR g g2 F2 x1 x2 b) : cmR g (x_setc (x_setc g2 0 0) a' b') F2 x1 x2 b := c
theorem cm_thr (z : cmZ g x1 x2 k v) (r : cmR g g2 F2 x1 x2 b) : (F2 8 0).toInt = k.toInt := by
  obtain ⟨z1, z2⟩ := z
  obtain ⟨-, -, r2⟩ := r
  rw [z1] at r2
  rcases z2 with ⟨za, zb, zc, -⟩ | ⟨za, zc, -⟩ | ⟨za, zb, zc, -⟩ <;> rcases r2 with ⟨ra, rb, rc, -⟩ | ⟨ra, rc, -⟩ | ⟨ra, rb, rc, -⟩ <;> first | (rw [rc, zc]; done) | exact absurd za ra | exact absurd ra za | omega
theorem cm_lg (z : cmZ g x1 x2 k v) (r : cmR g g2 F2 x1 x2 b) (hk : k.toInt = 0) : x_lg g2 = b.toInt64 := by
  obtain ⟨z1, z2⟩ := z
  obtain ⟨-, rl, r2⟩ := r
  rw [z1] at r2
  rcases z2 with ⟨za, zb, zc, zd, a, ze, zf⟩ | ⟨za, zc, -⟩ | ⟨za, zb, zc, -⟩
  · rcases r2 with ⟨ra, rb, rc, rd, re⟩ | ⟨ra, rc, -⟩ | ⟨ra, rb, rc, -⟩
    · rw [rl, ze, show a = b from i32_eq.mpr (by omega)]
    · exact absurd za ra
    · omega
  · omega
  · omega
theorem cm_end (z : cmZ g x1 x2 k v) (r : cmR g g2 F2 x1 x2 b) : ∃ v', kP v' v' g2 := by
  obtain ⟨z1, z2⟩ := z
  obtain ⟨r1, -, r2⟩ := r
  rw [z1] at r2
  refine ⟨x_vi g2 7 4 1, rfl, ?_⟩
  rw [r1]
  rcases z2 with ⟨za, zb, zc, zd, -⟩ | ⟨za, zc, zd⟩ | ⟨za, zb, zc, zd⟩
  · rcases r2 with ⟨ra, rb, rc, rd, -⟩ | ⟨ra, rc, -⟩ | ⟨ra, rb, rc, -⟩
    · exact i32_eq.mpr (by omega)
    · exact absurd za ra
    · omega
  · rcases r2 with ⟨ra, rb, rc, rd, -⟩ | ⟨ra, rc, rd⟩ | ⟨ra, rb, rc, rd⟩
    · exact absurd ra za
    · rw [rd, zd]
    · exact absurd ra za
  · rcases r2 with ⟨ra, rb, rc, rd, -⟩ | ⟨ra, rc, rd⟩ | ⟨ra, rb, rc, rd⟩
    · omega
    · exact absurd za ra
    · rw [rd, zd]
end XCM
def ZT (Ls : Nat × (Nat → Int32)) (F : xF) (v x1 x2 : Int32) : xO → xH → Prop := fun o g => ∃ k : Int32, o = .inl (some (.inl k)) ∧ LI Ls g F ∧ cmZ g x1 x2 k v
theorem lc_trunk {n0 : Nat} {oa : Nat → Nat → Nat} {D : (Nat → ClassId) × (Nat → Nat → Nat) × (Nat → ClassId)} {Ls : Nat × (Nat → Int32)} {h : xH} {F : xF} {v : Int32} {x1 x2 : Int32} (I : LI Ls h F) (K : kP v v h) : x_ConW n0 oa D wm_trunk hh_trunk [.inr (.inr (7, 1)), .inl x1, .inl x2, .inr (.inr (21, 1))] (x_setc h 0 0) (ZT Ls F v x1 x2) := by
  refine cw_trunk rfl rfl I.l7 (tx47 (c := x_pj h) I.vi I.g7 (fun o g hp => hp)) (fun v9 h1 hz => ?_) (fun k h1 hz => ?_)
  · rcases hz with ⟨⟨hC, hm⟩, n, hn, e1, e2, hA, e3⟩ | ⟨-, hk, -⟩ | ⟨-, hk, -⟩
    · have J := I.mq hC hm
      have m8 : x_vi h1 8 = x_vi h 8 := (x_mq_at hm (K := 8) rfl).1
      have e1 : n.toInt = (x_vi h 7 4 1).toInt := e1
      have e2 : (x_vi h1 7 4 1).toInt = (x_vi h 7 4 1).toInt + 1 := e2
      have e3 : (x_vi h 7 4 1).toInt ≤ 15 := e3
      rw [K.1] at e1 e2 e3
      exact ⟨J.2.2.2.2.1, J.2.2.2.2.2.1, n, Sum.inl.inj hn, fun a b => ⟨0, rfl, J.setc.putl, (congrFun (congrFun m8 20) 1).trans K.2, Or.inl ⟨hA, e3, rfl, e2, n, rfl, e1⟩⟩⟩
    · cases hk
    · cases hk
  · rcases hz with ⟨-, n, hn, -⟩ | ⟨⟨hC, hm⟩, hk, hvi, hA⟩ | ⟨⟨hC, hm⟩, hk, hvi, hA, e3⟩
    · cases hn
    · have J := I.mq hC (x_mq_of hm)
      have hk := Sum.inr.inj hk
      subst hk
      have hvi : x_vi h1 = x_vi h := hvi
      exact fun a b => ⟨1, rfl, J.setc, (congrFun (congrFun (congrFun hvi 8) 20) 1).trans K.2, Or.inr (Or.inl ⟨hA, rfl, (congrFun (congrFun (congrFun hvi 7) 4) 1).trans K.1⟩)⟩
    · have J := I.mq hC (x_mq_of hm)
      have hk := Sum.inr.inj hk
      subst hk
      have hvi : x_vi h1 = x_vi h := hvi
      have e3 : ¬ (x_vi h 7 4 1).toInt ≤ 15 := e3
      rw [K.1] at e3
      exact fun a b => ⟨2, rfl, J.setc, (congrFun (congrFun (congrFun hvi 8) 20) 1).trans K.2, Or.inr (Or.inr ⟨hA, e3, rfl, (congrFun (congrFun (congrFun hvi 7) 4) 1).trans K.1⟩)⟩
theorem rc_trunk {Ls : Nat × (Nat → Int32)} {h : xH} {F : xF} {Z : xO → xH → Prop} {x1 x2 : Int32} (I : LI Ls h F) (hZ : ∀ o F', MX 72 F' → (∃ n2 : Int32, o = .inl (some (.inl n2)) ∧ cmR h (mh (x_setc h 0 0) F') F' x1 x2 n2) → Z o (mh (x_setc h 0 0) F')) : xC 2000000000000 94 [.inr (.inr (8, 1)), .inl x1, .inl x2] (x_setc h 0 0) Z := by
  have e := (I.setc (a := 0) (b := 0)).2.2.2.1
  have f8 : F 8 20 = x_vi h 8 20 1 := (mh_fix.mp I.2.2.2.1).1 20
  rw [← e]
  refine (tx94 I.2.1 I.2.2.1 (fun o F' hp => hZ o F' hp.1 ?_)).up (by decide)
  obtain ⟨-, n2, rfl, hd⟩ := hp
  rw [f8] at hd
  refine ⟨n2, rfl, congrFun (congrFun (mh_vi (K := 7) (h := x_setc h 0 0) (F := F') (by decide) (by decide)) 4) 1, rfl, ?_⟩
  rcases hd with ⟨a1, a2, a3, a4, a5⟩ | ⟨a1, a3, a4⟩ | ⟨a1, a2, a3, a4⟩
  · exact Or.inl ⟨a1, a2, a3, a4, a5⟩
  · exact Or.inr (Or.inl ⟨a1, a3, i32_eq.mpr a4⟩)
  · exact Or.inr (Or.inr ⟨a1, a2, a3, i32_eq.mpr a4⟩)
