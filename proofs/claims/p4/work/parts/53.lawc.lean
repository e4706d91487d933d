/-! THE LAW'S CALLERS AND THE REFERENCE UNDER THE LAW'S INVARIANT (printed by gen_law2.py) -/
def ZV (Ls : Nat × (Nat → Int32)) (F : xF) (v : (Nat → Int32) × (Nat → Nat → Int32)) : xO → xH → Prop := fun o g => (∃ n : Int32, o = .inl (some (.inl n))) ∧ LI Ls g F ∧ kP v v g
theorem lc_trunk {n0 : Nat} {oa : Nat → Nat → Nat} {D : (Nat → ClassId) × (Nat → Nat → Nat) × (Nat → ClassId)} {Ls : Nat × (Nat → Int32)} {h : xH} {F : xF} {v : (Nat → Int32) × (Nat → Nat → Int32)} {x1 x2 : Int32} (I : LI Ls h F) (K : kP v v h) : x_ConW n0 oa D wm_trunk hh_trunk [.inr (.inr (7, 1)), .inl x1, .inl x2, .inr (.inr (21, 1))] (x_setc h 0 0) (ZV Ls F v) := by
  refine cw_trunk rfl rfl I.l7 ((tv47 (c := x_pj h) I.vi I.g7 (fun o g hp => hp)).kp (v := v) (w := v) rfl K) (fun v h1 hz => ?_) (fun k h1 hz => ?_)
  · obtain ⟨hz, K9⟩ := hz
    rcases hz with ⟨⟨hC, hm⟩, n, hn⟩ | ⟨⟨hC, hm⟩, k', hk⟩
    · have J := I.mq hC hm
      exact ⟨J.2.2.2.2.1, J.2.2.2.2.2.1, n, Sum.inl.inj hn, fun a b => ⟨⟨_, rfl⟩, J.setc.putl, K9⟩⟩
    · cases hk
  · obtain ⟨hz, K9⟩ := hz
    rcases hz with ⟨-, n, hn⟩ | ⟨⟨hC, hm⟩, k', hk⟩
    · cases hn
    · have J := I.mq hC (x_mq_of hm)
      exact fun a b => ⟨⟨_, rfl⟩, J.setc, K9⟩
theorem rc_trunk {Ls : Nat × (Nat → Int32)} {h : xH} {F : xF} {Z : xO → xH → Prop} {v : (Nat → Int32) × (Nat → Nat → Int32)} {x1 x2 : Int32} (I : LI Ls h F) (K : kP v v h) (hZ : ∀ o F', MX 72 F' → kP v v (mh (x_setc h 0 0) F') → (∃ v : Int32, o = .inl (some (.inl v))) → Z o (mh (x_setc h 0 0) F')) : xC 2000000000000 94 [.inr (.inr (8, 1)), .inl x1, .inl x2] (x_setc h 0 0) Z := by
  have e := (I.setc (a := 0) (b := 0)).2.2.2.1
  rw [← e]
  refine ((tv94 (Z := fun o g => ∃ F', g = mh (x_setc h 0 0) F' ∧ MX 72 F' ∧ (∃ v : Int32, o = .inl (some (.inl v)))) I.2.1 I.2.2.1 (fun o F' hp => ⟨F', rfl, hp.1, hp.2⟩)).kp (v := v) (w := v) rfl (by rw [e]; exact K)).mono (by decide) (fun o g hz => ?_)
  obtain ⟨⟨F', rfl, hM, hr⟩, K9⟩ := hz
  exact hZ o F' hM K9 hr
theorem lc_route {n0 : Nat} {oa : Nat → Nat → Nat} {D : (Nat → ClassId) × (Nat → Nat → Nat) × (Nat → ClassId)} {Ls : Nat × (Nat → Int32)} {h : xH} {F : xF} {v : (Nat → Int32) × (Nat → Nat → Int32)} {x1 x2 x3 x4 x5 : Int32} (I : LI Ls h F) (K : kP v v h) : x_ConW n0 oa D wm_route hh_route [.inr (.inr (7, 1)), .inl x1, .inl x2, .inl x3, .inl x4, .inl x5, .inr (.inr (21, 1))] (x_setc h 0 0) (ZV Ls F v) := by
  refine cw_route rfl rfl I.l7 ((tv49 (c := x_pj h) I.vi I.g7 (fun o g hp => hp)).kp (v := v) (w := v) rfl K) (fun v h1 hz => ?_) (fun k h1 hz => ?_)
  · obtain ⟨hz, K9⟩ := hz
    rcases hz with ⟨⟨hC, hm⟩, n, hn⟩ | ⟨⟨hC, hm⟩, k', hk⟩
    · have J := I.mq hC hm
      exact ⟨J.2.2.2.2.1, J.2.2.2.2.2.1, n, Sum.inl.inj hn, fun a b => ⟨⟨_, rfl⟩, J.setc.putl, K9⟩⟩
    · cases hk
  · obtain ⟨hz, K9⟩ := hz
    rcases hz with ⟨-, n, hn⟩ | ⟨⟨hC, hm⟩, k', hk⟩
    · cases hn
    · have J := I.mq hC (x_mq_of hm)
      exact fun a b => ⟨⟨_, rfl⟩, J.setc, K9⟩
theorem rc_route {Ls : Nat × (Nat → Int32)} {h : xH} {F : xF} {Z : xO → xH → Prop} {v : (Nat → Int32) × (Nat → Nat → Int32)} {x1 x2 x3 x4 x5 : Int32} (I : LI Ls h F) (K : kP v v h) (hZ : ∀ o F', MX 72 F' → kP v v (mh (x_setc h 0 0) F') → (∃ v : Int32, o = .inl (some (.inl v))) → Z o (mh (x_setc h 0 0) F')) : xC 2000000000000 97 [.inr (.inr (8, 1)), .inl x1, .inl x2, .inl x3, .inl x4, .inl x5] (x_setc h 0 0) Z := by
  have e := (I.setc (a := 0) (b := 0)).2.2.2.1
  rw [← e]
  refine ((tv97 (Z := fun o g => ∃ F', g = mh (x_setc h 0 0) F' ∧ MX 72 F' ∧ (∃ v : Int32, o = .inl (some (.inl v)))) I.2.1 I.2.2.1 (fun o F' hp => ⟨F', rfl, hp.1, hp.2⟩)).kp (v := v) (w := v) rfl (by rw [e]; exact K)).mono (by decide) (fun o g hz => ?_)
  obtain ⟨⟨F', rfl, hM, hr⟩, K9⟩ := hz
  exact hZ o F' hM K9 hr
theorem lc_lift {n0 : Nat} {oa : Nat → Nat → Nat} {D : (Nat → ClassId) × (Nat → Nat → Nat) × (Nat → ClassId)} {Ls : Nat × (Nat → Int32)} {h : xH} {F : xF} {v : (Nat → Int32) × (Nat → Nat → Int32)} {x1 x2 : Int32} (I : LI Ls h F) (K : kP v v h) : x_ConW n0 oa D wm_lift hh_lift [.inr (.inr (7, 1)), .inl x1, .inl x2] (x_setc h 0 0) (ZV Ls F v) := by
  refine cw_lift rfl rfl I.l7 ((tv58 (c := x_pj h) I.vi I.g7 (fun o g hp => hp)).kp (v := v) (w := v) rfl K) (fun v h1 hz => ?_) (fun k h1 hz => ?_)
  · obtain ⟨hz, K9⟩ := hz
    rcases hz with ⟨⟨hC, hm⟩, hn⟩ | ⟨⟨hC, hm⟩, k', hk⟩
    · have J := I.mq hC (x_mq_of hm)
      exact ⟨Sum.inl.inj hn, fun a b => ⟨⟨_, rfl⟩, J.setc, K9⟩⟩
    · cases hk
  · obtain ⟨hz, K9⟩ := hz
    rcases hz with ⟨-, hn⟩ | ⟨⟨hC, hm⟩, k', hk⟩
    · cases hn
    · have J := I.mq hC (x_mq_of hm)
      exact fun a b => ⟨⟨_, rfl⟩, J.setc, K9⟩
theorem rc_lift {Ls : Nat × (Nat → Int32)} {h : xH} {F : xF} {Z : xO → xH → Prop} {v : (Nat → Int32) × (Nat → Nat → Int32)} {x1 x2 : Int32} (I : LI Ls h F) (K : kP v v h) (hZ : ∀ o F', MX 72 F' → kP v v (mh (x_setc h 0 0) F') → o = .inl none → Z o (mh (x_setc h 0 0) F')) : xC 2000000000000 110 [.inr (.inr (8, 1)), .inl x1, .inl x2] (x_setc h 0 0) Z := by
  have e := (I.setc (a := 0) (b := 0)).2.2.2.1
  rw [← e]
  refine ((tv110 (Z := fun o g => ∃ F', g = mh (x_setc h 0 0) F' ∧ MX 72 F' ∧ o = .inl none) I.2.1 I.2.2.1 (fun o F' hp => ⟨F', rfl, hp.1, hp.2⟩)).kp (v := v) (w := v) rfl (by rw [e]; exact K)).mono (by decide) (fun o g hz => ?_)
  obtain ⟨⟨F', rfl, hM, hr⟩, K9⟩ := hz
  exact hZ o F' hM K9 hr
theorem lc_hang {n0 : Nat} {oa : Nat → Nat → Nat} {D : (Nat → ClassId) × (Nat → Nat → Nat) × (Nat → ClassId)} {Ls : Nat × (Nat → Int32)} {h : xH} {F : xF} {v : (Nat → Int32) × (Nat → Nat → Int32)} {x1 x2 : Int32} (I : LI Ls h F) (K : kP v v h) : x_ConW n0 oa D wm_hang hh_hang [.inr (.inr (7, 1)), .inl x1, .inl x2] (x_setc h 0 0) (ZV Ls F v) := by
  refine cw_hang rfl rfl I.l7 ((tv60 (c := x_pj h) I.vi I.g7 (fun o g hp => hp)).kp (v := v) (w := v) rfl K) (fun v h1 hz => ?_) (fun k h1 hz => ?_)
  · obtain ⟨hz, K9⟩ := hz
    rcases hz with ⟨⟨hC, hm⟩, hn⟩ | ⟨⟨hC, hm⟩, k', hk⟩
    · have J := I.mq hC (x_mq_of hm)
      exact ⟨Sum.inl.inj hn, fun a b => ⟨⟨_, rfl⟩, J.setc, K9⟩⟩
    · cases hk
  · obtain ⟨hz, K9⟩ := hz
    rcases hz with ⟨-, hn⟩ | ⟨⟨hC, hm⟩, k', hk⟩
    · cases hn
    · have J := I.mq hC (x_mq_of hm)
      exact fun a b => ⟨⟨_, rfl⟩, J.setc, K9⟩
theorem rc_hang {Ls : Nat × (Nat → Int32)} {h : xH} {F : xF} {Z : xO → xH → Prop} {v : (Nat → Int32) × (Nat → Nat → Int32)} {x1 x2 : Int32} (I : LI Ls h F) (K : kP v v h) (hZ : ∀ o F', MX 72 F' → kP v v (mh (x_setc h 0 0) F') → o = .inl none → Z o (mh (x_setc h 0 0) F')) : xC 2000000000000 111 [.inr (.inr (8, 1)), .inl x1, .inl x2] (x_setc h 0 0) Z := by
  have e := (I.setc (a := 0) (b := 0)).2.2.2.1
  rw [← e]
  refine ((tv111 (Z := fun o g => ∃ F', g = mh (x_setc h 0 0) F' ∧ MX 72 F' ∧ o = .inl none) I.2.1 I.2.2.1 (fun o F' hp => ⟨F', rfl, hp.1, hp.2⟩)).kp (v := v) (w := v) rfl (by rw [e]; exact K)).mono (by decide) (fun o g hz => ?_)
  obtain ⟨⟨F', rfl, hM, hr⟩, K9⟩ := hz
  exact hZ o F' hM K9 hr
theorem lc_dial {n0 : Nat} {oa : Nat → Nat → Nat} {D : (Nat → ClassId) × (Nat → Nat → Nat) × (Nat → ClassId)} {Ls : Nat × (Nat → Int32)} {h : xH} {F : xF} {v : (Nat → Int32) × (Nat → Nat → Int32)} {x1 x2 x3 : Int32} (I : LI Ls h F) (K : kP v v h) : x_ConW n0 oa D wm_dial hh_dial [.inr (.inr (7, 1)), .inl x1, .inl x2, .inl x3, .inr (.inr (21, 1))] (x_setc h 0 0) (ZV Ls F v) := by
  refine cw_dial rfl rfl I.l7 ((tv63 (c := x_pj h) I.vi I.g7 (fun o g hp => hp)).kp (v := v) (w := v) rfl K) (fun v h1 hz => ?_) (fun k h1 hz => ?_)
  · obtain ⟨hz, K9⟩ := hz
    rcases hz with ⟨⟨hC, hm⟩, n, hn, -⟩ | ⟨⟨hC, hm⟩, k', hk⟩
    · have J := I.mq hC (x_mq_of hm)
      exact ⟨J.2.2.2.2.1, J.2.2.2.2.2.1, n, Sum.inl.inj hn, fun a b => ⟨⟨_, rfl⟩, J.setc.putl, K9⟩⟩
    · cases hk
  · obtain ⟨hz, K9⟩ := hz
    rcases hz with ⟨-, n, hn, -⟩ | ⟨⟨hC, hm⟩, k', hk⟩
    · cases hn
    · have J := I.mq hC (x_mq_of hm)
      exact fun a b => ⟨⟨_, rfl⟩, J.setc, K9⟩
theorem rc_dial {Ls : Nat × (Nat → Int32)} {h : xH} {F : xF} {Z : xO → xH → Prop} {v : (Nat → Int32) × (Nat → Nat → Int32)} {x1 x2 x3 : Int32} (I : LI Ls h F) (K : kP v v h) (hZ : ∀ o F', MX 72 F' → kP v v (mh (x_setc h 0 0) F') → (∃ v : Int32, o = .inl (some (.inl v)) ∧ (0 ≤ v.toInt ∧ v.toInt ≤ 1)) → Z o (mh (x_setc h 0 0) F')) : xC 2000000000000 115 [.inr (.inr (8, 1)), .inl x1, .inl x2, .inl x3] (x_setc h 0 0) Z := by
  have e := (I.setc (a := 0) (b := 0)).2.2.2.1
  rw [← e]
  refine ((tv115 (Z := fun o g => ∃ F', g = mh (x_setc h 0 0) F' ∧ MX 72 F' ∧ (∃ v : Int32, o = .inl (some (.inl v)) ∧ (0 ≤ v.toInt ∧ v.toInt ≤ 1))) I.2.1 I.2.2.1 (fun o F' hp => ⟨F', rfl, hp.1, hp.2⟩)).kp (v := v) (w := v) rfl (by rw [e]; exact K)).mono (by decide) (fun o g hz => ?_)
  obtain ⟨⟨F', rfl, hM, hr⟩, K9⟩ := hz
  exact hZ o F' hM K9 hr
theorem lc_tick {n0 : Nat} {oa : Nat → Nat → Nat} {D : (Nat → ClassId) × (Nat → Nat → Nat) × (Nat → ClassId)} {Ls : Nat × (Nat → Int32)} {h : xH} {F : xF} {v : (Nat → Int32) × (Nat → Nat → Int32)} {x1 : Int32} (I : LI Ls h F) (K : kP v v h) : x_ConW n0 oa D wm_tick hh_tick [.inr (.inr (7, 1)), .inl x1] (x_setc h 0 0) (ZV Ls F v) := by
  refine cw_tick rfl rfl I.l7 ((tw78 (c := x_pj h) I.vi I.g7 (fun o g hp => hp)).kp (v := v) (w := v) rfl K) (fun v h1 hz => ?_) (fun k h1 hz => ?_)
  · obtain ⟨hz, K9⟩ := hz
    rcases hz with ⟨⟨hC, hm⟩, hn, -⟩ | ⟨⟨hC, hm⟩, hk, -⟩
    · have J := I.mq hC (x_mq_of hm)
      exact ⟨Sum.inl.inj hn, fun a b => ⟨⟨_, rfl⟩, J.setc, K9⟩⟩
    · cases hk
  · obtain ⟨hz, K9⟩ := hz
    rcases hz with ⟨-, hn, -⟩ | ⟨⟨hC, hm⟩, hk, -⟩
    · cases hn
    · have J := I.mq hC (x_mq_of hm)
      exact ⟨Sum.inr.inj hk, fun a b => ⟨⟨_, rfl⟩, J.setc, K9⟩⟩
theorem rc_tick {Ls : Nat × (Nat → Int32)} {h : xH} {F : xF} {Z : xO → xH → Prop} {v : (Nat → Int32) × (Nat → Nat → Int32)} {x1 : Int32} (I : LI Ls h F) (K : kP v v h) (hZ : ∀ o F', MX 72 F' → kP v v (mh (x_setc h 0 0) F') → o = .inl none → Z o (mh (x_setc h 0 0) F')) : xC 2000000000000 129 [.inr (.inr (8, 1)), .inl x1] (x_setc h 0 0) Z := by
  have e := (I.setc (a := 0) (b := 0)).2.2.2.1
  rw [← e]
  refine ((tv129 (Z := fun o g => ∃ F', g = mh (x_setc h 0 0) F' ∧ MX 72 F' ∧ o = .inl none) I.2.1 I.2.2.1 (fun o F' hp => ⟨F', rfl, hp.1.1, hp.2⟩)).kp (v := v) (w := v) rfl (by rw [e]; exact K)).mono (by decide) (fun o g hz => ?_)
  obtain ⟨⟨F', rfl, hM, hr⟩, K9⟩ := hz
  exact hZ o F' hM K9 hr
theorem lc_out {n0 : Nat} {oa : Nat → Nat → Nat} {D : (Nat → ClassId) × (Nat → Nat → Nat) × (Nat → ClassId)} {Ls : Nat × (Nat → Int32)} {h : xH} {F : xF} {v : (Nat → Int32) × (Nat → Nat → Int32)} {x1 x2 : Int32} (I : LI Ls h F) (K : kP v v h) (g2 : 0 ≤ x2.toInt ∧ x2.toInt ≤ 1) : x_ConW n0 oa D wm_out hh_out [.inr (.inr (7, 1)), .inl x1, .inl x2, .inr (.inr (21, 1))] (x_setc h 0 0) (ZV Ls F v) := by
  refine cw_out rfl rfl I.l7 ((tw79 (c := x_pj h) I.vi I.g7 g2 (fun o g hp => hp)).kp (v := v) (w := v) rfl K) (fun v h1 hz => ?_) (fun k h1 hz => ?_)
  · obtain ⟨hz, K9⟩ := hz
    rcases hz with ⟨⟨hC, hm⟩, n, hn, -⟩ | ⟨⟨hC, hm⟩, hk⟩
    · have J := I.mq hC (x_mq_of hm)
      exact ⟨J.2.2.2.2.1, J.2.2.2.2.2.1, n, Sum.inl.inj hn, fun a b => ⟨⟨_, rfl⟩, J.setc.putl, K9⟩⟩
    · cases hk
  · obtain ⟨hz, K9⟩ := hz
    rcases hz with ⟨-, n, hn, -⟩ | ⟨⟨hC, hm⟩, hk⟩
    · cases hn
    · have J := I.mq hC (x_mq_of hm)
      exact ⟨Sum.inr.inj hk, fun a b => ⟨⟨_, rfl⟩, J.setc, K9⟩⟩
theorem rc_out {Ls : Nat × (Nat → Int32)} {h : xH} {F : xF} {Z : xO → xH → Prop} {v : (Nat → Int32) × (Nat → Nat → Int32)} {x1 x2 : Int32} (I : LI Ls h F) (K : kP v v h) (g2 : 0 ≤ x2.toInt ∧ x2.toInt ≤ 1) (hZ : ∀ o F', MX 72 F' → kP v v (mh (x_setc h 0 0) F') → (∃ v : Int32, o = .inl (some (.inl v)) ∧ (0 ≤ v.toInt ∧ v.toInt ≤ 1)) → Z o (mh (x_setc h 0 0) F')) : xC 2000000000000 130 [.inr (.inr (8, 1)), .inl x1, .inl x2] (x_setc h 0 0) Z := by
  have e := (I.setc (a := 0) (b := 0)).2.2.2.1
  rw [← e]
  refine ((tv130 (Z := fun o g => ∃ F', g = mh (x_setc h 0 0) F' ∧ MX 72 F' ∧ (∃ v : Int32, o = .inl (some (.inl v)) ∧ (0 ≤ v.toInt ∧ v.toInt ≤ 1))) I.2.1 g2 I.2.2.1 (fun o F' hp => ⟨F', rfl, hp.1, hp.2⟩)).kp (v := v) (w := v) rfl (by rw [e]; exact K)).mono (by decide) (fun o g hz => ?_)
  obtain ⟨⟨F', rfl, hM, hr⟩, K9⟩ := hz
  exact hZ o F' hM K9 hr
theorem lc_hold {n0 : Nat} {oa : Nat → Nat → Nat} {D : (Nat → ClassId) × (Nat → Nat → Nat) × (Nat → ClassId)} {Ls : Nat × (Nat → Int32)} {h : xH} {F : xF} {v : (Nat → Int32) × (Nat → Nat → Int32)} {x1 x2 x3 : Int32} (I : LI Ls h F) (K : kP v v h) (g3 : 0 ≤ x3.toInt ∧ x3.toInt ≤ 1) : x_ConW n0 oa D wm_hold hh_hold [.inr (.inr (7, 1)), .inl x1, .inl x2, .inl x3, .inr (.inr (21, 1))] (x_setc h 0 0) (ZV Ls F v) := by
  refine cw_hold rfl rfl I.l7 ((tw80 (c := x_pj h) I.vi I.g7 g3 (fun o g hp => hp)).kp (v := v) (w := v) rfl K) (fun v h1 hz => ?_) (fun k h1 hz => ?_)
  · obtain ⟨hz, K9⟩ := hz
    rcases hz with ⟨⟨hC, hm⟩, n, hn, -⟩ | ⟨⟨hC, hm⟩, hk⟩
    · have J := I.mq hC (x_mq_of hm)
      exact ⟨J.2.2.2.2.1, J.2.2.2.2.2.1, n, Sum.inl.inj hn, fun a b => ⟨⟨_, rfl⟩, J.setc.putl, K9⟩⟩
    · cases hk
  · obtain ⟨hz, K9⟩ := hz
    rcases hz with ⟨-, n, hn, -⟩ | ⟨⟨hC, hm⟩, hk⟩
    · cases hn
    · have J := I.mq hC (x_mq_of hm)
      exact ⟨Sum.inr.inj hk, fun a b => ⟨⟨_, rfl⟩, J.setc, K9⟩⟩
theorem rc_hold {Ls : Nat × (Nat → Int32)} {h : xH} {F : xF} {Z : xO → xH → Prop} {v : (Nat → Int32) × (Nat → Nat → Int32)} {x1 x2 x3 : Int32} (I : LI Ls h F) (K : kP v v h) (g3 : 0 ≤ x3.toInt ∧ x3.toInt ≤ 1) (hZ : ∀ o F', MX 72 F' → kP v v (mh (x_setc h 0 0) F') → (∃ v : Int32, o = .inl (some (.inl v)) ∧ (0 ≤ v.toInt ∧ v.toInt ≤ 1)) → Z o (mh (x_setc h 0 0) F')) : xC 2000000000000 131 [.inr (.inr (8, 1)), .inl x1, .inl x2, .inl x3] (x_setc h 0 0) Z := by
  have e := (I.setc (a := 0) (b := 0)).2.2.2.1
  rw [← e]
  refine ((tv131 (Z := fun o g => ∃ F', g = mh (x_setc h 0 0) F' ∧ MX 72 F' ∧ (∃ v : Int32, o = .inl (some (.inl v)) ∧ (0 ≤ v.toInt ∧ v.toInt ≤ 1))) I.2.1 g3 I.2.2.1 (fun o F' hp => ⟨F', rfl, hp.1, hp.2⟩)).kp (v := v) (w := v) rfl (by rw [e]; exact K)).mono (by decide) (fun o g hz => ?_)
  obtain ⟨⟨F', rfl, hM, hr⟩, K9⟩ := hz
  exact hZ o F' hM K9 hr
theorem lc_tone {n0 : Nat} {oa : Nat → Nat → Nat} {D : (Nat → ClassId) × (Nat → Nat → Nat) × (Nat → ClassId)} {Ls : Nat × (Nat → Int32)} {h : xH} {F : xF} {v : (Nat → Int32) × (Nat → Nat → Int32)} {x1 x2 : Int32} (I : LI Ls h F) (K : kP v v h) : x_ConW n0 oa D wm_tone hh_tone [.inr (.inr (7, 1)), .inl x1, .inl x2, .inr (.inr (21, 1))] (x_setc h 0 0) (ZV Ls F v) := by
  refine cw_tone rfl rfl I.l7 ((tw81 (c := x_pj h) I.vi I.g7 (fun o g hp => hp)).kp (v := v) (w := v) rfl K) (fun v h1 hz => ?_) (fun k h1 hz => ?_)
  · obtain ⟨hz, K9⟩ := hz
    rcases hz with ⟨⟨hC, hm⟩, n, hn⟩ | ⟨⟨hC, hm⟩, hk⟩
    · have J := I.mq hC (x_mq_of hm)
      exact ⟨J.2.2.2.2.1, J.2.2.2.2.2.1, n, Sum.inl.inj hn, fun a b => ⟨⟨_, rfl⟩, J.setc.putl, K9⟩⟩
    · cases hk
  · obtain ⟨hz, K9⟩ := hz
    rcases hz with ⟨-, n, hn⟩ | ⟨⟨hC, hm⟩, hk⟩
    · cases hn
    · have J := I.mq hC (x_mq_of hm)
      exact ⟨Sum.inr.inj hk, fun a b => ⟨⟨_, rfl⟩, J.setc, K9⟩⟩
theorem rc_tone {Ls : Nat × (Nat → Int32)} {h : xH} {F : xF} {Z : xO → xH → Prop} {v : (Nat → Int32) × (Nat → Nat → Int32)} {x1 x2 : Int32} (I : LI Ls h F) (K : kP v v h) (hZ : ∀ o F', MX 72 F' → kP v v (mh (x_setc h 0 0) F') → (∃ v : Int32, o = .inl (some (.inl v))) → Z o (mh (x_setc h 0 0) F')) : xC 2000000000000 132 [.inr (.inr (8, 1)), .inl x1, .inl x2] (x_setc h 0 0) Z := by
  have e := (I.setc (a := 0) (b := 0)).2.2.2.1
  rw [← e]
  refine ((tv132 (Z := fun o g => ∃ F', g = mh (x_setc h 0 0) F' ∧ MX 72 F' ∧ (∃ v : Int32, o = .inl (some (.inl v)))) I.2.1 I.2.2.1 (fun o F' hp => ⟨F', rfl, hp.1, hp.2⟩)).kp (v := v) (w := v) rfl (by rw [e]; exact K)).mono (by decide) (fun o g hz => ?_)
  obtain ⟨⟨F', rfl, hM, hr⟩, K9⟩ := hz
  exact hZ o F' hM K9 hr
theorem lc_rings {n0 : Nat} {oa : Nat → Nat → Nat} {D : (Nat → ClassId) × (Nat → Nat → Nat) × (Nat → ClassId)} {Ls : Nat × (Nat → Int32)} {h : xH} {F : xF} {v : (Nat → Int32) × (Nat → Nat → Int32)} {x1 x2 : Int32} (I : LI Ls h F) (K : kP v v h) : x_ConW n0 oa D wm_rings hh_rings [.inr (.inr (7, 1)), .inl x1, .inl x2, .inr (.inr (21, 1))] (x_setc h 0 0) (ZV Ls F v) := by
  refine cw_rings rfl rfl I.l7 ((tw82 (c := x_pj h) I.vi I.g7 (fun o g hp => hp)).kp (v := v) (w := v) rfl K) (fun v h1 hz => ?_) (fun k h1 hz => ?_)
  · obtain ⟨hz, K9⟩ := hz
    rcases hz with ⟨⟨hC, hm⟩, n, hn, -⟩ | ⟨⟨hC, hm⟩, hk⟩
    · have J := I.mq hC (x_mq_of hm)
      exact ⟨J.2.2.2.2.1, J.2.2.2.2.2.1, n, Sum.inl.inj hn, fun a b => ⟨⟨_, rfl⟩, J.setc.putl, K9⟩⟩
    · cases hk
  · obtain ⟨hz, K9⟩ := hz
    rcases hz with ⟨-, n, hn, -⟩ | ⟨⟨hC, hm⟩, hk⟩
    · cases hn
    · have J := I.mq hC (x_mq_of hm)
      exact ⟨Sum.inr.inj hk, fun a b => ⟨⟨_, rfl⟩, J.setc, K9⟩⟩
theorem rc_rings {Ls : Nat × (Nat → Int32)} {h : xH} {F : xF} {Z : xO → xH → Prop} {v : (Nat → Int32) × (Nat → Nat → Int32)} {x1 x2 : Int32} (I : LI Ls h F) (K : kP v v h) (hZ : ∀ o F', MX 72 F' → kP v v (mh (x_setc h 0 0) F') → (∃ v : Int32, o = .inl (some (.inl v)) ∧ (0 ≤ v.toInt ∧ v.toInt ≤ 1)) → Z o (mh (x_setc h 0 0) F')) : xC 2000000000000 133 [.inr (.inr (8, 1)), .inl x1, .inl x2] (x_setc h 0 0) Z := by
  have e := (I.setc (a := 0) (b := 0)).2.2.2.1
  rw [← e]
  refine ((tv133 (Z := fun o g => ∃ F', g = mh (x_setc h 0 0) F' ∧ MX 72 F' ∧ (∃ v : Int32, o = .inl (some (.inl v)) ∧ (0 ≤ v.toInt ∧ v.toInt ≤ 1))) I.2.1 I.2.2.1 (fun o F' hp => ⟨F', rfl, hp.1, hp.2⟩)).kp (v := v) (w := v) rfl (by rw [e]; exact K)).mono (by decide) (fun o g hz => ?_)
  obtain ⟨⟨F', rfl, hM, hr⟩, K9⟩ := hz
  exact hZ o F' hM K9 hr
theorem lc_talks {n0 : Nat} {oa : Nat → Nat → Nat} {D : (Nat → ClassId) × (Nat → Nat → Nat) × (Nat → ClassId)} {Ls : Nat × (Nat → Int32)} {h : xH} {F : xF} {v : (Nat → Int32) × (Nat → Nat → Int32)} {x1 x2 : Int32} (I : LI Ls h F) (K : kP v v h) : x_ConW n0 oa D wm_talks hh_talks [.inr (.inr (7, 1)), .inl x1, .inl x2, .inr (.inr (21, 1))] (x_setc h 0 0) (ZV Ls F v) := by
  refine cw_talks rfl rfl I.l7 ((tw83 (c := x_pj h) I.vi I.g7 (fun o g hp => hp)).kp (v := v) (w := v) rfl K) (fun v h1 hz => ?_) (fun k h1 hz => ?_)
  · obtain ⟨hz, K9⟩ := hz
    rcases hz with ⟨⟨hC, hm⟩, n, hn⟩ | ⟨⟨hC, hm⟩, hk⟩
    · have J := I.mq hC (x_mq_of hm)
      exact ⟨J.2.2.2.2.1, J.2.2.2.2.2.1, n, Sum.inl.inj hn, fun a b => ⟨⟨_, rfl⟩, J.setc.putl, K9⟩⟩
    · cases hk
  · obtain ⟨hz, K9⟩ := hz
    rcases hz with ⟨-, n, hn⟩ | ⟨⟨hC, hm⟩, hk⟩
    · cases hn
    · have J := I.mq hC (x_mq_of hm)
      exact ⟨Sum.inr.inj hk, fun a b => ⟨⟨_, rfl⟩, J.setc, K9⟩⟩
theorem rc_talks {Ls : Nat × (Nat → Int32)} {h : xH} {F : xF} {Z : xO → xH → Prop} {v : (Nat → Int32) × (Nat → Nat → Int32)} {x1 x2 : Int32} (I : LI Ls h F) (K : kP v v h) (hZ : ∀ o F', MX 72 F' → kP v v (mh (x_setc h 0 0) F') → (∃ v : Int32, o = .inl (some (.inl v))) → Z o (mh (x_setc h 0 0) F')) : xC 2000000000000 134 [.inr (.inr (8, 1)), .inl x1, .inl x2] (x_setc h 0 0) Z := by
  have e := (I.setc (a := 0) (b := 0)).2.2.2.1
  rw [← e]
  refine ((tv134 (Z := fun o g => ∃ F', g = mh (x_setc h 0 0) F' ∧ MX 72 F' ∧ (∃ v : Int32, o = .inl (some (.inl v)))) I.2.1 I.2.2.1 (fun o F' hp => ⟨F', rfl, hp.1, hp.2⟩)).kp (v := v) (w := v) rfl (by rw [e]; exact K)).mono (by decide) (fun o g hz => ?_)
  obtain ⟨⟨F', rfl, hM, hr⟩, K9⟩ := hz
  exact hZ o F' hM K9 hr
theorem lc_meter {n0 : Nat} {oa : Nat → Nat → Nat} {D : (Nat → ClassId) × (Nat → Nat → Nat) × (Nat → ClassId)} {Ls : Nat × (Nat → Int32)} {h : xH} {F : xF} {v : (Nat → Int32) × (Nat → Nat → Int32)} {x1 x2 : Int32} (I : LI Ls h F) (K : kP v v h) : x_ConW n0 oa D wm_meter hh_meter [.inr (.inr (7, 1)), .inl x1, .inl x2, .inr (.inr (21, 1))] (x_setc h 0 0) (ZV Ls F v) := by
  refine cw_meter rfl rfl I.l7 ((tw84 (c := x_pj h) I.vi I.g7 (fun o g hp => hp)).kp (v := v) (w := v) rfl K) (fun v h1 hz => ?_) (fun k h1 hz => ?_)
  · obtain ⟨hz, K9⟩ := hz
    rcases hz with ⟨⟨hC, hm⟩, n, hn⟩ | ⟨⟨hC, hm⟩, hk⟩
    · have J := I.mq hC (x_mq_of hm)
      exact ⟨J.2.2.2.2.1, J.2.2.2.2.2.1, n, Sum.inl.inj hn, fun a b => ⟨⟨_, rfl⟩, J.setc.putl, K9⟩⟩
    · cases hk
  · obtain ⟨hz, K9⟩ := hz
    rcases hz with ⟨-, n, hn⟩ | ⟨⟨hC, hm⟩, hk⟩
    · cases hn
    · have J := I.mq hC (x_mq_of hm)
      exact ⟨Sum.inr.inj hk, fun a b => ⟨⟨_, rfl⟩, J.setc, K9⟩⟩
theorem rc_meter {Ls : Nat × (Nat → Int32)} {h : xH} {F : xF} {Z : xO → xH → Prop} {v : (Nat → Int32) × (Nat → Nat → Int32)} {x1 x2 : Int32} (I : LI Ls h F) (K : kP v v h) (hZ : ∀ o F', MX 72 F' → kP v v (mh (x_setc h 0 0) F') → (∃ v : Int32, o = .inl (some (.inl v))) → Z o (mh (x_setc h 0 0) F')) : xC 2000000000000 135 [.inr (.inr (8, 1)), .inl x1, .inl x2] (x_setc h 0 0) Z := by
  have e := (I.setc (a := 0) (b := 0)).2.2.2.1
  rw [← e]
  refine ((tv135 (Z := fun o g => ∃ F', g = mh (x_setc h 0 0) F' ∧ MX 72 F' ∧ (∃ v : Int32, o = .inl (some (.inl v)))) I.2.1 I.2.2.1 (fun o F' hp => ⟨F', rfl, hp.1, hp.2⟩)).kp (v := v) (w := v) rfl (by rw [e]; exact K)).mono (by decide) (fun o g hz => ?_)
  obtain ⟨⟨F', rfl, hM, hr⟩, K9⟩ := hz
  exact hZ o F' hM K9 hr
theorem lc_seized {n0 : Nat} {oa : Nat → Nat → Nat} {D : (Nat → ClassId) × (Nat → Nat → Nat) × (Nat → ClassId)} {Ls : Nat × (Nat → Int32)} {h : xH} {F : xF} {v : (Nat → Int32) × (Nat → Nat → Int32)} {x1 x2 x3 : Int32} (I : LI Ls h F) (K : kP v v h) : x_ConW n0 oa D wm_seized hh_seized [.inr (.inr (7, 1)), .inl x1, .inl x2, .inl x3, .inr (.inr (21, 1))] (x_setc h 0 0) (ZV Ls F v) := by
  refine cw_seized rfl rfl I.l7 ((tw85 (c := x_pj h) I.vi I.g7 (fun o g hp => hp)).kp (v := v) (w := v) rfl K) (fun v h1 hz => ?_) (fun k h1 hz => ?_)
  · obtain ⟨hz, K9⟩ := hz
    rcases hz with ⟨⟨hC, hm⟩, n, hn⟩ | ⟨⟨hC, hm⟩, hk⟩
    · have J := I.mq hC (x_mq_of hm)
      exact ⟨J.2.2.2.2.1, J.2.2.2.2.2.1, n, Sum.inl.inj hn, fun a b => ⟨⟨_, rfl⟩, J.setc.putl, K9⟩⟩
    · cases hk
  · obtain ⟨hz, K9⟩ := hz
    rcases hz with ⟨-, n, hn⟩ | ⟨⟨hC, hm⟩, hk⟩
    · cases hn
    · have J := I.mq hC (x_mq_of hm)
      exact ⟨Sum.inr.inj hk, fun a b => ⟨⟨_, rfl⟩, J.setc, K9⟩⟩
theorem rc_seized {Ls : Nat × (Nat → Int32)} {h : xH} {F : xF} {Z : xO → xH → Prop} {v : (Nat → Int32) × (Nat → Nat → Int32)} {x1 x2 x3 : Int32} (I : LI Ls h F) (K : kP v v h) (hZ : ∀ o F', MX 72 F' → kP v v (mh (x_setc h 0 0) F') → (∃ v : Int32, o = .inl (some (.inl v))) → Z o (mh (x_setc h 0 0) F')) : xC 2000000000000 136 [.inr (.inr (8, 1)), .inl x1, .inl x2, .inl x3] (x_setc h 0 0) Z := by
  have e := (I.setc (a := 0) (b := 0)).2.2.2.1
  rw [← e]
  refine ((tv136 (Z := fun o g => ∃ F', g = mh (x_setc h 0 0) F' ∧ MX 72 F' ∧ (∃ v : Int32, o = .inl (some (.inl v)))) I.2.1 I.2.2.1 (fun o F' hp => ⟨F', rfl, hp.1, hp.2⟩)).kp (v := v) (w := v) rfl (by rw [e]; exact K)).mono (by decide) (fun o g hz => ?_)
  obtain ⟨⟨F', rfl, hM, hr⟩, K9⟩ := hz
  exact hZ o F' hM K9 hr
theorem lc_idle {n0 : Nat} {oa : Nat → Nat → Nat} {D : (Nat → ClassId) × (Nat → Nat → Nat) × (Nat → ClassId)} {Ls : Nat × (Nat → Int32)} {h : xH} {F : xF} {v : (Nat → Int32) × (Nat → Nat → Int32)} {x1 x2 : Int32} (I : LI Ls h F) (K : kP v v h) : x_ConW n0 oa D wm_idle hh_idle [.inr (.inr (7, 1)), .inl x1, .inl x2, .inr (.inr (21, 1))] (x_setc h 0 0) (ZV Ls F v) := by
  refine cw_idle rfl rfl I.l7 ((tw87 (c := x_pj h) I.vi I.g7 (fun o g hp => hp)).kp (v := v) (w := v) rfl K) (fun v h1 hz => ?_) (fun k h1 hz => ?_)
  · obtain ⟨hz, K9⟩ := hz
    rcases hz with ⟨⟨hC, hm⟩, n, hn⟩ | ⟨⟨hC, hm⟩, hk⟩
    · have J := I.mq hC (x_mq_of hm)
      exact ⟨J.2.2.2.2.1, J.2.2.2.2.2.1, n, Sum.inl.inj hn, fun a b => ⟨⟨_, rfl⟩, J.setc.putl, K9⟩⟩
    · cases hk
  · obtain ⟨hz, K9⟩ := hz
    rcases hz with ⟨-, n, hn⟩ | ⟨⟨hC, hm⟩, hk⟩
    · cases hn
    · have J := I.mq hC (x_mq_of hm)
      exact ⟨Sum.inr.inj hk, fun a b => ⟨⟨_, rfl⟩, J.setc, K9⟩⟩
theorem rc_idle {Ls : Nat × (Nat → Int32)} {h : xH} {F : xF} {Z : xO → xH → Prop} {v : (Nat → Int32) × (Nat → Nat → Int32)} {x1 x2 : Int32} (I : LI Ls h F) (K : kP v v h) (hZ : ∀ o F', MX 72 F' → kP v v (mh (x_setc h 0 0) F') → (∃ v : Int32, o = .inl (some (.inl v))) → Z o (mh (x_setc h 0 0) F')) : xC 2000000000000 137 [.inr (.inr (8, 1)), .inl x1, .inl x2] (x_setc h 0 0) Z := by
  have e := (I.setc (a := 0) (b := 0)).2.2.2.1
  rw [← e]
  refine ((tv137 (Z := fun o g => ∃ F', g = mh (x_setc h 0 0) F' ∧ MX 72 F' ∧ (∃ v : Int32, o = .inl (some (.inl v)))) I.2.1 I.2.2.1 (fun o F' hp => ⟨F', rfl, hp.1, hp.2⟩)).kp (v := v) (w := v) rfl (by rw [e]; exact K)).mono (by decide) (fun o g hz => ?_)
  obtain ⟨⟨F', rfl, hM, hr⟩, K9⟩ := hz
  exact hZ o F' hM K9 hr
theorem lc_overflow {n0 : Nat} {oa : Nat → Nat → Nat} {D : (Nat → ClassId) × (Nat → Nat → Nat) × (Nat → ClassId)} {Ls : Nat × (Nat → Int32)} {h : xH} {F : xF} {v : (Nat → Int32) × (Nat → Nat → Int32)} {x1 x2 : Int32} (I : LI Ls h F) (K : kP v v h) : x_ConW n0 oa D wm_overflow hh_overflow [.inr (.inr (7, 1)), .inl x1, .inl x2, .inr (.inr (21, 1))] (x_setc h 0 0) (ZV Ls F v) := by
  refine cw_overflow rfl rfl I.l7 ((tw88 (c := x_pj h) I.vi I.g7 (fun o g hp => hp)).kp (v := v) (w := v) rfl K) (fun v h1 hz => ?_) (fun k h1 hz => ?_)
  · obtain ⟨hz, K9⟩ := hz
    rcases hz with ⟨⟨hC, hm⟩, n, hn⟩ | ⟨⟨hC, hm⟩, hk⟩
    · have J := I.mq hC (x_mq_of hm)
      exact ⟨J.2.2.2.2.1, J.2.2.2.2.2.1, n, Sum.inl.inj hn, fun a b => ⟨⟨_, rfl⟩, J.setc.putl, K9⟩⟩
    · cases hk
  · obtain ⟨hz, K9⟩ := hz
    rcases hz with ⟨-, n, hn⟩ | ⟨⟨hC, hm⟩, hk⟩
    · cases hn
    · have J := I.mq hC (x_mq_of hm)
      exact ⟨Sum.inr.inj hk, fun a b => ⟨⟨_, rfl⟩, J.setc, K9⟩⟩
theorem rc_overflow {Ls : Nat × (Nat → Int32)} {h : xH} {F : xF} {Z : xO → xH → Prop} {v : (Nat → Int32) × (Nat → Nat → Int32)} {x1 x2 : Int32} (I : LI Ls h F) (K : kP v v h) (hZ : ∀ o F', MX 72 F' → kP v v (mh (x_setc h 0 0) F') → (∃ v : Int32, o = .inl (some (.inl v))) → Z o (mh (x_setc h 0 0) F')) : xC 2000000000000 138 [.inr (.inr (8, 1)), .inl x1, .inl x2] (x_setc h 0 0) Z := by
  have e := (I.setc (a := 0) (b := 0)).2.2.2.1
  rw [← e]
  refine ((tv138 (Z := fun o g => ∃ F', g = mh (x_setc h 0 0) F' ∧ MX 72 F' ∧ (∃ v : Int32, o = .inl (some (.inl v)))) I.2.1 I.2.2.1 (fun o F' hp => ⟨F', rfl, hp.1, hp.2⟩)).kp (v := v) (w := v) rfl (by rw [e]; exact K)).mono (by decide) (fun o g hz => ?_)
  obtain ⟨⟨F', rfl, hM, hr⟩, K9⟩ := hz
  exact hZ o F' hM K9 hr
theorem rc_thrown {Ls : Nat × (Nat → Int32)} {h : xH} {F : xF} {Z : xO → xH → Prop} (I : LI Ls h F) (hZ : Z (.inl (some (.inl (F 8 0)))) (x_setc h 0 0)) : xC 2000000000000 90 [.inr (.inr (8, 1))] (x_setc h 0 0) Z := by
  have e := (I.setc (a := 0) (b := 0)).2.2.2.1
  rw [← e]
  refine (tv90 I.2.1 (fun o F' hp => ?_)).up (by decide)
  obtain ⟨rfl, v, rfl, rfl⟩ := hp
  rw [e]
  exact hZ
theorem kR.ofF {v : (Nat → Int32) × (Nat → Nat → Int32)} {h : xH} {F : xF} (e : mh h F = h) (K : kR v h) : ∀ g, g < 12 → F 26 g = v.1 g ∧ ∀ i, i < 6 → F 27 (6 * g + i) = v.2 g i := by
  obtain ⟨q1, q2⟩ := mh_fix.mp e
  exact fun g hg => ⟨(q2 26 g (by omega)).trans (K g hg).1, fun i hi => (q2 27 (6 * g + i) (by omega)).trans ((K g hg).2 i hi)⟩
theorem kC.ofF {v : (Nat → Int32) × (Nat → Nat → Int32)} {h : xH} {F' : xF} (K : kC v h) : kC v (mh h F') := by
  obtain ⟨c1, c2, c3, c4⟩ := K
  refine ⟨c1, c2, c3, fun g hg => ⟨?_, fun i hi => ?_⟩⟩
  · rw [mh_vi (by decide) (by decide)]; exact (c4 g hg).1
  · rw [mh_vi (by decide) (by decide)]; exact (c4 g hg).2 i hi
theorem kR.toF {v : (Nat → Int32) × (Nat → Nat → Int32)} {h : xH} {F' : xF} (e : ∀ g, g < 12 → F' 26 g = v.1 g ∧ ∀ i, i < 6 → F' 27 (6 * g + i) = v.2 g i) : kR v (mh h F') := by
  intro g hg
  refine ⟨?_, fun i hi => ?_⟩
  · show (if 26 = 8 ∧ g = 1 then F' 8 1 else if (22 ≤ 26 ∧ 26 ≤ 64) ∧ 1 = 1 then F' 26 g else x_vi h 26 1 g) = v.1 g
    rw [if_neg (by omega), if_pos (by omega)]
    exact (e g hg).1
  · show (if 27 = 8 ∧ 6 * g + i = 1 then F' 8 1 else if (22 ≤ 27 ∧ 27 ≤ 64) ∧ 1 = 1 then F' 27 (6 * g + i) else x_vi h 27 1 (6 * g + i)) = v.2 g i
    rw [if_neg (by omega), if_pos (by omega)]
    exact (e g hg).2 i hi
theorem kR.rng {v : (Nat → Int32) × (Nat → Nat → Int32)} {h : xH} {F : xF} (M : MX 72 F) (e : mh h F = h) (K : kR v h) : ∀ g, g < 12 → 0 ≤ (v.1 g).toInt ∧ (v.1 g).toInt ≤ 6 := by
  intro g hg
  have q : 0 ≤ (F 26 g).toInt ∧ (F 26 g).toInt ≤ 6 := M.rg (lo := 0) (hi := 6) (by decide) _
  rw [(kR.ofF e K g hg).1] at q
  exact q
/-- both sides see the same hunts -/
theorem hs_cg {f f' : Nat → Int32} {n n' : Int} {x : Int32} (hn : n = n') (h6 : n ≤ 6) (hf : ∀ i, i < 6 → f i = f' i) : hs f n x ↔ hs f' n' x := by
  subst hn
  exact ⟨fun ⟨i, hi, e⟩ => ⟨i, hi, by rw [← hf i (by omega)]; exact e⟩, fun ⟨i, hi, e⟩ => ⟨i, hi, by rw [hf i (by omega)]; exact e⟩⟩
theorem hb_cg {v : (Nat → Int32) × (Nat → Nat → Int32)} {F : xF} {x1 x2 x3 : Int32} (f : ∀ g, g < 12 → F 26 g = v.1 g ∧ ∀ i, i < 6 → F 27 (6 * g + i) = v.2 g i) (hr : ∀ g, g < 12 → 0 ≤ (v.1 g).toInt ∧ (v.1 g).toInt ≤ 6) (hA9 : hA x1 x2 x3) : hb (wF F) x1 x2 x3 ↔ hb v x1 x2 x3 := by
  have hgi := gi_lt hA9
  have hc1 := x_clamp hA9.1.1
  have a := hA9.1.2
  have e1 : (wF F).1 (gi x1 x2) = v.1 (gi x1 x2) := (f _ hgi).1
  have e2 : inh (wF F) x1.toNatClampNeg x3 ↔ inh v x1.toNatClampNeg x3 := by
    have k : ∀ t, t < 4 → (hs ((wF F).2 (4 * x1.toNatClampNeg + t)) ((wF F).1 (4 * x1.toNatClampNeg + t)).toInt x3 ↔ hs (v.2 (4 * x1.toNatClampNeg + t)) (v.1 (4 * x1.toNatClampNeg + t)).toInt x3) := fun t ht => by
      have q := f (4 * x1.toNatClampNeg + t) (by omega)
      have q1 : (wF F).1 (4 * x1.toNatClampNeg + t) = v.1 (4 * x1.toNatClampNeg + t) := q.1
      exact hs_cg (by rw [q1]) (by rw [q1]; exact (hr _ (by omega)).2) q.2
    exact ⟨fun ⟨t, ht, q⟩ => ⟨t, ht, (k t ht).mp q⟩, fun ⟨t, ht, q⟩ => ⟨t, ht, (k t ht).mpr q⟩⟩
  unfold hb
  rw [e1, e2]
/-- behind the class's hunt: k came back -/
def cz_hunt (g : xH) (x1 x2 x3 k : Int32) (v : (Nat → Int32) × (Nat → Nat → Int32)) : Prop := (hA x1 x2 x3 ∧ ¬ hb v x1 x2 x3 ∧ k.toInt = 0 ∧ kP (uph v (gi x1 x2) x3) v g ∧ x_lg g = (v.1 (gi x1 x2) + 1).toInt64) ∨ (¬ hA x1 x2 x3 ∧ k.toInt = 1 ∧ kP v v g) ∨ (hA x1 x2 x3 ∧ hb v x1 x2 x3 ∧ k.toInt = 2 ∧ kP v v g)
/-- behind the reference's: thrown, the answer's long, both alike -/
def cmR (g2 : xH) (F2 : xF) (k b : Int32) : Prop := (F2 8 0).toInt = k.toInt ∧ (k.toInt = 0 → x_lg g2 = b.toInt64) ∧ ∃ v', kP v' v' g2
def ZT (Q : xH → Int32 → Prop) (Ls : Nat × (Nat → Int32)) (F : xF) : xO → xH → Prop := fun o g => ∃ k : Int32, o = .inl (some (.inl k)) ∧ LI Ls g F ∧ Q g k
section XCM
variable {n0 : Nat} {oa : Nat → Nat → Nat} {D : (Nat → ClassId) × (Nat → Nat → Nat) × (Nat → ClassId)} {Ls : Nat × (Nat → Int32)} {h : xH} {F : xF} {v : (Nat → Int32) × (Nat → Nat → Int32)} {x1 x2 x3 k : Int32} {Z : xO → xH → Prop}
theorem lc_hunt (I : LI Ls h F) (K : kP v v h) : x_ConW n0 oa D wm_hunt hh_hunt [.inr (.inr (7, 1)), .inl x1, .inl x2, .inl x3, .inr (.inr (21, 1))] (x_setc h 0 0) (ZT (fun g k => cz_hunt g x1 x2 x3 k v) Ls F) := by
  have hr := kR.rng I.2.2.1 I.2.2.2.1 K.2
  refine cw_hunt rfl rfl I.l7 (tx50 (c := x_pj h) (v := v) (w := v) I.vi I.g7 K hr (fun o g hp => hp)) (fun v9 h1 hz => ?_) (fun k h1 hz => ?_)
  · rcases hz with ⟨⟨hC, hm⟩, n, hn, hA9, nb, hbe, K9⟩ | ⟨-, hk, -⟩ | ⟨-, hk, -⟩
    · have J := I.mq hC (x_mq_of hm)
      exact ⟨J.2.2.2.2.1, J.2.2.2.2.2.1, n, Sum.inl.inj hn, fun a b => ⟨0, rfl, J.setc.putl, Or.inl ⟨hA9, nb, rfl, K9, by rw [← hbe]; rfl⟩⟩⟩
    · cases hk
    · cases hk
  · rcases hz with ⟨-, n, hn, -⟩ | ⟨⟨hC, hm⟩, hk, hA9, K9⟩ | ⟨⟨hC, hm⟩, hk, hA9, bb, K9⟩
    · cases hn
    · have J := I.mq hC (x_mq_of hm)
      have hk := Sum.inr.inj hk
      subst hk
      exact fun a b => ⟨1, rfl, J.setc, Or.inr (Or.inl ⟨hA9, rfl, K9⟩)⟩
    · have J := I.mq hC (x_mq_of hm)
      have hk := Sum.inr.inj hk
      subst hk
      exact fun a b => ⟨2, rfl, J.setc, Or.inr (Or.inr ⟨hA9, bb, rfl, K9⟩)⟩
theorem rc_hunt (I : LI Ls h F) (hT : cz_hunt h x1 x2 x3 k v) (hZ : ∀ o F', MX 72 F' → (∃ n2 : Int32, o = .inl (some (.inl n2)) ∧ cmR (mh (x_setc h 0 0) F') F' k n2) → Z o (mh (x_setc h 0 0) F')) : xC 2000000000000 98 [.inr (.inr (8, 1)), .inl x1, .inl x2, .inl x3] (x_setc h 0 0) Z := by
  have e := (I.setc (a := 0) (b := 0)).2.2.2.1
  have hR : kR v h := by rcases hT with ⟨-, -, -, q, -⟩ | ⟨-, -, q⟩ | ⟨-, -, -, q⟩ <;> exact q.2
  have f := kR.ofF I.2.2.2.1 hR
  have hr := kR.rng I.2.2.1 I.2.2.2.1 hR
  rw [← e]
  refine (tx98 I.2.1 I.2.2.1 (fun o F' hp => hZ o F' hp.1 ?_)).up (by decide)
  obtain ⟨-, n2, rfl, hd⟩ := hp
  refine ⟨n2, rfl, ?_⟩
  rcases hT with ⟨hA9, nb, hk, K, hlg⟩ | ⟨hA9, hk, K⟩ | ⟨hA9, bb, hk, K⟩
  · have hgi := gi_lt hA9
    rcases hd with ⟨a1, a2, a3, a4, a5, a6⟩ | ⟨a1, a3, a5, a6⟩ | ⟨a1, a2, a3, a5, a6⟩
    · rw [(f _ hgi).1] at a4 a5 a6
      refine ⟨by omega, fun _ => by rw [a4]; exact hlg, uph v (gi x1 x2) x3, kC.ofF (h := x_setc h 0 0) K.1, kR.toF (fun g hg => ⟨?_, fun i hi => ?_⟩)⟩
      · rw [a5]
        show _ = if g = gi x1 x2 then v.1 (gi x1 x2) + 1 else v.1 g
        rw [(f g hg).1]
      · rw [a6]
        show _ = if g = gi x1 x2 ∧ i = (v.1 (gi x1 x2)).toNatClampNeg then x3 else v.2 g i
        have r6 := hr _ hgi
        have n6 : ¬ 6 ≤ (v.1 (gi x1 x2)).toInt := fun q => nb (Or.inl q)
        have cl := x_clamp r6.1
        by_cases e9 : g = gi x1 x2 ∧ i = (v.1 (gi x1 x2)).toNatClampNeg
        · rw [if_pos (by omega), if_pos e9]
        · rw [if_neg (by omega), if_neg e9]
          exact (f g hg).2 i hi
    · exact absurd hA9 a1
    · exact absurd ((hb_cg f hr hA9).mp a2) nb
  · rcases hd with ⟨a1, a2, a3, a4, a5, a6⟩ | ⟨a1, a3, a5, a6⟩ | ⟨a1, a2, a3, a5, a6⟩
    · exact absurd a1 hA9
    · exact ⟨by omega, fun q => by omega, v, kC.ofF (h := x_setc h 0 0) K.1, kR.toF (fun g hg => by rw [a5, a6]; exact f g hg)⟩
    · exact absurd a1 hA9
  · rcases hd with ⟨a1, a2, a3, a4, a5, a6⟩ | ⟨a1, a3, a5, a6⟩ | ⟨a1, a2, a3, a5, a6⟩
    · exact absurd ((hb_cg f hr hA9).mpr bb) a2
    · exact absurd hA9 a1
    · exact ⟨by omega, fun q => by omega, v, kC.ofF (h := x_setc h 0 0) K.1, kR.toF (fun g hg => by rw [a5, a6]; exact f g hg)⟩
end XCM
