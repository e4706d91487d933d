/-! THE LAW'S CALLERS AND THE REFERENCE UNDER THE LAW'S INVARIANT (printed by gen_law2.py) -/
def ZV (Ls : Nat × (Nat → Int32)) (F : xF) (v : Nat → Int32) : xO → xH → Prop := fun o g => (∃ n : Int32, o = .inl (some (.inl n))) ∧ LI Ls g F ∧ kP v v g
theorem lc_trunk {n0 : Nat} {oa : Nat → Nat → Nat} {D : (Nat → ClassId) × (Nat → Nat → Nat) × (Nat → ClassId)} {Ls : Nat × (Nat → Int32)} {h : xH} {F : xF} {v : Nat → Int32} {x1 x2 : Int32} (I : LI Ls h F) (K : kP v v h) : x_ConW n0 oa D wm_trunk hh_trunk [.inr (.inr (7, 1)), .inl x1, .inl x2, .inr (.inr (21, 1))] (x_setc h 0 0) (ZV Ls F v) := by
  refine cw_trunk rfl rfl I.l7 ((tv47 (c := x_pj h) I.vi I.g7 (fun o g hp => hp)).kp (v := v) (w := v) rfl K) (fun v h1 hz => ?_) (fun k h1 hz => ?_)
  · obtain ⟨hz, K9⟩ := hz
    rcases hz with ⟨⟨hC, hm⟩, n, hn⟩ | ⟨⟨hC, hm⟩, k', hk⟩
    · have J := I.mq hC hm
      exact ⟨J.2.2.2.2.1, J.2.2.2.2.2.1, n, Sum.inl.inj hn, fun a b => ⟨⟨_, rfl⟩, J.setc.putl, K9⟩⟩
    · cases hk
  · obtain ⟨hz, K9⟩ := hz
    rcases hz with ⟨-, n, hn⟩ | ⟨⟨hC, hm⟩, k', hk⟩
    · cases hn
    · have J := I.mq hC (x_mq_of hm)
      exact fun a b => ⟨⟨_, rfl⟩, J.setc, K9⟩
theorem rc_trunk {Ls : Nat × (Nat → Int32)} {h : xH} {F : xF} {Z : xO → xH → Prop} {v : Nat → Int32} {x1 x2 : Int32} (I : LI Ls h F) (K : kP v v h) (hZ : ∀ o F', MX 72 F' → kP v v (mh (x_setc h 0 0) F') → (∃ v : Int32, o = .inl (some (.inl v))) → Z o (mh (x_setc h 0 0) F')) : xC 2000000000000 94 [.inr (.inr (8, 1)), .inl x1, .inl x2] (x_setc h 0 0) Z := by
  have e := (I.setc (a := 0) (b := 0)).2.2.2.1
  rw [← e]
  refine ((tv94 (Z := fun o g => ∃ F', g = mh (x_setc h 0 0) F' ∧ MX 72 F' ∧ (∃ v : Int32, o = .inl (some (.inl v)))) I.2.1 I.2.2.1 (fun o F' hp => ⟨F', rfl, hp.1, hp.2⟩)).kp (v := v) (w := v) rfl (by rw [e]; exact K)).mono (by decide) (fun o g hz => ?_)
  obtain ⟨⟨F', rfl, hM, hr⟩, K9⟩ := hz
  exact hZ o F' hM K9 hr
theorem lc_route {n0 : Nat} {oa : Nat → Nat → Nat} {D : (Nat → ClassId) × (Nat → Nat → Nat) × (Nat → ClassId)} {Ls : Nat × (Nat → Int32)} {h : xH} {F : xF} {v : Nat → Int32} {x1 x2 x3 x4 x5 : Int32} (I : LI Ls h F) (K : kP v v h) : x_ConW n0 oa D wm_route hh_route [.inr (.inr (7, 1)), .inl x1, .inl x2, .inl x3, .inl x4, .inl x5, .inr (.inr (21, 1))] (x_setc h 0 0) (ZV Ls F v) := by
  refine cw_route rfl rfl I.l7 ((tv49 (c := x_pj h) I.vi I.g7 (fun o g hp => hp)).kp (v := v) (w := v) rfl K) (fun v h1 hz => ?_) (fun k h1 hz => ?_)
  · obtain ⟨hz, K9⟩ := hz
    rcases hz with ⟨⟨hC, hm⟩, n, hn⟩ | ⟨⟨hC, hm⟩, k', hk⟩
    · have J := I.mq hC hm
      exact ⟨J.2.2.2.2.1, J.2.2.2.2.2.1, n, Sum.inl.inj hn, fun a b => ⟨⟨_, rfl⟩, J.setc.putl, K9⟩⟩
    · cases hk
  · obtain ⟨hz, K9⟩ := hz
    rcases hz with ⟨-, n, hn⟩ | ⟨⟨hC, hm⟩, k', hk⟩
    · cases hn
    · have J := I.mq hC (x_mq_of hm)
      exact fun a b => ⟨⟨_, rfl⟩, J.setc, K9⟩
theorem rc_route {Ls : Nat × (Nat → Int32)} {h : xH} {F : xF} {Z : xO → xH → Prop} {v : Nat → Int32} {x1 x2 x3 x4 x5 : Int32} (I : LI Ls h F) (K : kP v v h) (hZ : ∀ o F', MX 72 F' → kP v v (mh (x_setc h 0 0) F') → (∃ v : Int32, o = .inl (some (.inl v))) → Z o (mh (x_setc h 0 0) F')) : xC 2000000000000 97 [.inr (.inr (8, 1)), .inl x1, .inl x2, .inl x3, .inl x4, .inl x5] (x_setc h 0 0) Z := by
  have e := (I.setc (a := 0) (b := 0)).2.2.2.1
  rw [← e]
  refine ((tv97 (Z := fun o g => ∃ F', g = mh (x_setc h 0 0) F' ∧ MX 72 F' ∧ (∃ v : Int32, o = .inl (some (.inl v)))) I.2.1 I.2.2.1 (fun o F' hp => ⟨F', rfl, hp.1, hp.2⟩)).kp (v := v) (w := v) rfl (by rw [e]; exact K)).mono (by decide) (fun o g hz => ?_)
  obtain ⟨⟨F', rfl, hM, hr⟩, K9⟩ := hz
  exact hZ o F' hM K9 hr
theorem lc_hunt {n0 : Nat} {oa : Nat → Nat → Nat} {D : (Nat → ClassId) × (Nat → Nat → Nat) × (Nat → ClassId)} {Ls : Nat × (Nat → Int32)} {h : xH} {F : xF} {v : Nat → Int32} {x1 x2 x3 : Int32} (I : LI Ls h F) (K : kP v v h) : x_ConW n0 oa D wm_hunt hh_hunt [.inr (.inr (7, 1)), .inl x1, .inl x2, .inl x3, .inr (.inr (21, 1))] (x_setc h 0 0) (ZV Ls F v) := by
  refine cw_hunt rfl rfl I.l7 ((tv50 (c := x_pj h) I.vi I.g7 (fun o g hp => hp)).kp (v := v) (w := v) rfl K) (fun v h1 hz => ?_) (fun k h1 hz => ?_)
  · obtain ⟨hz, K9⟩ := hz
    rcases hz with ⟨⟨hC, hm⟩, n, hn⟩ | ⟨⟨hC, hm⟩, k', hk⟩
    · have J := I.mq hC (x_mq_of hm)
      exact ⟨J.2.2.2.2.1, J.2.2.2.2.2.1, n, Sum.inl.inj hn, fun a b => ⟨⟨_, rfl⟩, J.setc.putl, K9⟩⟩
    · cases hk
  · obtain ⟨hz, K9⟩ := hz
    rcases hz with ⟨-, n, hn⟩ | ⟨⟨hC, hm⟩, k', hk⟩
    · cases hn
    · have J := I.mq hC (x_mq_of hm)
      exact fun a b => ⟨⟨_, rfl⟩, J.setc, K9⟩
theorem rc_hunt {Ls : Nat × (Nat → Int32)} {h : xH} {F : xF} {Z : xO → xH → Prop} {v : Nat → Int32} {x1 x2 x3 : Int32} (I : LI Ls h F) (K : kP v v h) (hZ : ∀ o F', MX 72 F' → kP v v (mh (x_setc h 0 0) F') → (∃ v : Int32, o = .inl (some (.inl v))) → Z o (mh (x_setc h 0 0) F')) : xC 2000000000000 98 [.inr (.inr (8, 1)), .inl x1, .inl x2, .inl x3] (x_setc h 0 0) Z := by
  have e := (I.setc (a := 0) (b := 0)).2.2.2.1
  rw [← e]
  refine ((tv98 (Z := fun o g => ∃ F', g = mh (x_setc h 0 0) F' ∧ MX 72 F' ∧ (∃ v : Int32, o = .inl (some (.inl v)))) I.2.1 I.2.2.1 (fun o F' hp => ⟨F', rfl, hp.1, hp.2⟩)).kp (v := v) (w := v) rfl (by rw [e]; exact K)).mono (by decide) (fun o g hz => ?_)
  obtain ⟨⟨F', rfl, hM, hr⟩, K9⟩ := hz
  exact hZ o F' hM K9 hr
theorem lc_dial {n0 : Nat} {oa : Nat → Nat → Nat} {D : (Nat → ClassId) × (Nat → Nat → Nat) × (Nat → ClassId)} {Ls : Nat × (Nat → Int32)} {h : xH} {F : xF} {v : Nat → Int32} {x1 x2 x3 : Int32} (I : LI Ls h F) (K : kP v v h) : x_ConW n0 oa D wm_dial hh_dial [.inr (.inr (7, 1)), .inl x1, .inl x2, .inl x3, .inr (.inr (21, 1))] (x_setc h 0 0) (ZV Ls F v) := by
  refine cw_dial rfl rfl I.l7 ((tv63 (c := x_pj h) I.vi I.g7 (fun o g hp => hp)).kp (v := v) (w := v) rfl K) (fun v h1 hz => ?_) (fun k h1 hz => ?_)
  · obtain ⟨hz, K9⟩ := hz
    rcases hz with ⟨⟨hC, hm⟩, n, hn, -⟩ | ⟨⟨hC, hm⟩, k', hk⟩
    · have J := I.mq hC (x_mq_of hm)
      exact ⟨J.2.2.2.2.1, J.2.2.2.2.2.1, n, Sum.inl.inj hn, fun a b => ⟨⟨_, rfl⟩, J.setc.putl, K9⟩⟩
    · cases hk
  · obtain ⟨hz, K9⟩ := hz
    rcases hz with ⟨-, n, hn, -⟩ | ⟨⟨hC, hm⟩, k', hk⟩
    · cases hn
    · have J := I.mq hC (x_mq_of hm)
      exact fun a b => ⟨⟨_, rfl⟩, J.setc, K9⟩
theorem rc_dial {Ls : Nat × (Nat → Int32)} {h : xH} {F : xF} {Z : xO → xH → Prop} {v : Nat → Int32} {x1 x2 x3 : Int32} (I : LI Ls h F) (K : kP v v h) (hZ : ∀ o F', MX 72 F' → kP v v (mh (x_setc h 0 0) F') → (∃ v : Int32, o = .inl (some (.inl v)) ∧ (0 ≤ v.toInt ∧ v.toInt ≤ 1)) → Z o (mh (x_setc h 0 0) F')) : xC 2000000000000 115 [.inr (.inr (8, 1)), .inl x1, .inl x2, .inl x3] (x_setc h 0 0) Z := by
  have e := (I.setc (a := 0) (b := 0)).2.2.2.1
  rw [← e]
  refine ((tv115 (Z := fun o g => ∃ F', g = mh (x_setc h 0 0) F' ∧ MX 72 F' ∧ (∃ v : Int32, o = .inl (some (.inl v)) ∧ (0 ≤ v.toInt ∧ v.toInt ≤ 1))) I.2.1 I.2.2.1 (fun o F' hp => ⟨F', rfl, hp.1, hp.2⟩)).kp (v := v) (w := v) rfl (by rw [e]; exact K)).mono (by decide) (fun o g hz => ?_)
  obtain ⟨⟨F', rfl, hM, hr⟩, K9⟩ := hz
  exact hZ o F' hM K9 hr
theorem lc_tick {n0 : Nat} {oa : Nat → Nat → Nat} {D : (Nat → ClassId) × (Nat → Nat → Nat) × (Nat → ClassId)} {Ls : Nat × (Nat → Int32)} {h : xH} {F : xF} {v : Nat → Int32} {x1 : Int32} (I : LI Ls h F) (K : kP v v h) : x_ConW n0 oa D wm_tick hh_tick [.inr (.inr (7, 1)), .inl x1] (x_setc h 0 0) (ZV Ls F v) := by
  refine cw_tick rfl rfl I.l7 ((tw78 (c := x_pj h) I.vi I.g7 (fun o g hp => hp)).kp (v := v) (w := v) rfl K) (fun v h1 hz => ?_) (fun k h1 hz => ?_)
  · obtain ⟨hz, K9⟩ := hz
    rcases hz with ⟨⟨hC, hm⟩, hn, -⟩ | ⟨⟨hC, hm⟩, hk, -⟩
    · have J := I.mq hC (x_mq_of hm)
      exact ⟨Sum.inl.inj hn, fun a b => ⟨⟨_, rfl⟩, J.setc, K9⟩⟩
    · cases hk
  · obtain ⟨hz, K9⟩ := hz
    rcases hz with ⟨-, hn, -⟩ | ⟨⟨hC, hm⟩, hk, -⟩
    · cases hn
    · have J := I.mq hC (x_mq_of hm)
      exact ⟨Sum.inr.inj hk, fun a b => ⟨⟨_, rfl⟩, J.setc, K9⟩⟩
theorem rc_tick {Ls : Nat × (Nat → Int32)} {h : xH} {F : xF} {Z : xO → xH → Prop} {v : Nat → Int32} {x1 : Int32} (I : LI Ls h F) (K : kP v v h) (hZ : ∀ o F', MX 72 F' → kP v v (mh (x_setc h 0 0) F') → o = .inl none → Z o (mh (x_setc h 0 0) F')) : xC 2000000000000 129 [.inr (.inr (8, 1)), .inl x1] (x_setc h 0 0) Z := by
  have e := (I.setc (a := 0) (b := 0)).2.2.2.1
  rw [← e]
  refine ((tv129 (Z := fun o g => ∃ F', g = mh (x_setc h 0 0) F' ∧ MX 72 F' ∧ o = .inl none) I.2.1 I.2.2.1 (fun o F' hp => ⟨F', rfl, hp.1.1, hp.2⟩)).kp (v := v) (w := v) rfl (by rw [e]; exact K)).mono (by decide) (fun o g hz => ?_)
  obtain ⟨⟨F', rfl, hM, hr⟩, K9⟩ := hz
  exact hZ o F' hM K9 hr
theorem lc_out {n0 : Nat} {oa : Nat → Nat → Nat} {D : (Nat → ClassId) × (Nat → Nat → Nat) × (Nat → ClassId)} {Ls : Nat × (Nat → Int32)} {h : xH} {F : xF} {v : Nat → Int32} {x1 x2 : Int32} (I : LI Ls h F) (K : kP v v h) (g2 : 0 ≤ x2.toInt ∧ x2.toInt ≤ 1) : x_ConW n0 oa D wm_out hh_out [.inr (.inr (7, 1)), .inl x1, .inl x2, .inr (.inr (21, 1))] (x_setc h 0 0) (ZV Ls F v) := by
  refine cw_out rfl rfl I.l7 ((tw79 (c := x_pj h) I.vi I.g7 g2 (fun o g hp => hp)).kp (v := v) (w := v) rfl K) (fun v h1 hz => ?_) (fun k h1 hz => ?_)
  · obtain ⟨hz, K9⟩ := hz
    rcases hz with ⟨⟨hC, hm⟩, n, hn, -⟩ | ⟨⟨hC, hm⟩, hk⟩
    · have J := I.mq hC (x_mq_of hm)
      exact ⟨J.2.2.2.2.1, J.2.2.2.2.2.1, n, Sum.inl.inj hn, fun a b => ⟨⟨_, rfl⟩, J.setc.putl, K9⟩⟩
    · cases hk
  · obtain ⟨hz, K9⟩ := hz
    rcases hz with ⟨-, n, hn, -⟩ | ⟨⟨hC, hm⟩, hk⟩
    · cases hn
    · have J := I.mq hC (x_mq_of hm)
      exact ⟨Sum.inr.inj hk, fun a b => ⟨⟨_, rfl⟩, J.setc, K9⟩⟩
theorem rc_out {Ls : Nat × (Nat → Int32)} {h : xH} {F : xF} {Z : xO → xH → Prop} {v : Nat → Int32} {x1 x2 : Int32} (I : LI Ls h F) (K : kP v v h) (g2 : 0 ≤ x2.toInt ∧ x2.toInt ≤ 1) (hZ : ∀ o F', MX 72 F' → kP v v (mh (x_setc h 0 0) F') → (∃ v : Int32, o = .inl (some (.inl v)) ∧ (0 ≤ v.toInt ∧ v.toInt ≤ 1)) → Z o (mh (x_setc h 0 0) F')) : xC 2000000000000 130 [.inr (.inr (8, 1)), .inl x1, .inl x2] (x_setc h 0 0) Z := by
  have e := (I.setc (a := 0) (b := 0)).2.2.2.1
  rw [← e]
  refine ((tv130 (Z := fun o g => ∃ F', g = mh (x_setc h 0 0) F' ∧ MX 72 F' ∧ (∃ v : Int32, o = .inl (some (.inl v)) ∧ (0 ≤ v.toInt ∧ v.toInt ≤ 1))) I.2.1 g2 I.2.2.1 (fun o F' hp => ⟨F', rfl, hp.1, hp.2⟩)).kp (v := v) (w := v) rfl (by rw [e]; exact K)).mono (by decide) (fun o g hz => ?_)
  obtain ⟨⟨F', rfl, hM, hr⟩, K9⟩ := hz
  exact hZ o F' hM K9 hr
theorem lc_hold {n0 : Nat} {oa : Nat → Nat → Nat} {D : (Nat → ClassId) × (Nat → Nat → Nat) × (Nat → ClassId)} {Ls : Nat × (Nat → Int32)} {h : xH} {F : xF} {v : Nat → Int32} {x1 x2 x3 : Int32} (I : LI Ls h F) (K : kP v v h) (g3 : 0 ≤ x3.toInt ∧ x3.toInt ≤ 1) : x_ConW n0 oa D wm_hold hh_hold [.inr (.inr (7, 1)), .inl x1, .inl x2, .inl x3, .inr (.inr (21, 1))] (x_setc h 0 0) (ZV Ls F v) := by
  refine cw_hold rfl rfl I.l7 ((tw80 (c := x_pj h) I.vi I.g7 g3 (fun o g hp => hp)).kp (v := v) (w := v) rfl K) (fun v h1 hz => ?_) (fun k h1 hz => ?_)
  · obtain ⟨hz, K9⟩ := hz
    rcases hz with ⟨⟨hC, hm⟩, n, hn, -⟩ | ⟨⟨hC, hm⟩, hk⟩
    · have J := I.mq hC (x_mq_of hm)
      exact ⟨J.2.2.2.2.1, J.2.2.2.2.2.1, n, Sum.inl.inj hn, fun a b => ⟨⟨_, rfl⟩, J.setc.putl, K9⟩⟩
    · cases hk
  · obtain ⟨hz, K9⟩ := hz
    rcases hz with ⟨-, n, hn, -⟩ | ⟨⟨hC, hm⟩, hk⟩
    · cases hn
    · have J := I.mq hC (x_mq_of hm)
      exact ⟨Sum.inr.inj hk, fun a b => ⟨⟨_, rfl⟩, J.setc, K9⟩⟩
theorem rc_hold {Ls : Nat × (Nat → Int32)} {h : xH} {F : xF} {Z : xO → xH → Prop} {v : Nat → Int32} {x1 x2 x3 : Int32} (I : LI Ls h F) (K : kP v v h) (g3 : 0 ≤ x3.toInt ∧ x3.toInt ≤ 1) (hZ : ∀ o F', MX 72 F' → kP v v (mh (x_setc h 0 0) F') → (∃ v : Int32, o = .inl (some (.inl v)) ∧ (0 ≤ v.toInt ∧ v.toInt ≤ 1)) → Z o (mh (x_setc h 0 0) F')) : xC 2000000000000 131 [.inr (.inr (8, 1)), .inl x1, .inl x2, .inl x3] (x_setc h 0 0) Z := by
  have e := (I.setc (a := 0) (b := 0)).2.2.2.1
  rw [← e]
  refine ((tv131 (Z := fun o g => ∃ F', g = mh (x_setc h 0 0) F' ∧ MX 72 F' ∧ (∃ v : Int32, o = .inl (some (.inl v)) ∧ (0 ≤ v.toInt ∧ v.toInt ≤ 1))) I.2.1 g3 I.2.2.1 (fun o F' hp => ⟨F', rfl, hp.1, hp.2⟩)).kp (v := v) (w := v) rfl (by rw [e]; exact K)).mono (by decide) (fun o g hz => ?_)
  obtain ⟨⟨F', rfl, hM, hr⟩, K9⟩ := hz
  exact hZ o F' hM K9 hr
theorem lc_tone {n0 : Nat} {oa : Nat → Nat → Nat} {D : (Nat → ClassId) × (Nat → Nat → Nat) × (Nat → ClassId)} {Ls : Nat × (Nat → Int32)} {h : xH} {F : xF} {v : Nat → Int32} {x1 x2 : Int32} (I : LI Ls h F) (K : kP v v h) : x_ConW n0 oa D wm_tone hh_tone [.inr (.inr (7, 1)), .inl x1, .inl x2, .inr (.inr (21, 1))] (x_setc h 0 0) (ZV Ls F v) := by
  refine cw_tone rfl rfl I.l7 ((tw81 (c := x_pj h) I.vi I.g7 (fun o g hp => hp)).kp (v := v) (w := v) rfl K) (fun v h1 hz => ?_) (fun k h1 hz => ?_)
  · obtain ⟨hz, K9⟩ := hz
    rcases hz with ⟨⟨hC, hm⟩, n, hn⟩ | ⟨⟨hC, hm⟩, hk⟩
    · have J := I.mq hC (x_mq_of hm)
      exact ⟨J.2.2.2.2.1, J.2.2.2.2.2.1, n, Sum.inl.inj hn, fun a b => ⟨⟨_, rfl⟩, J.setc.putl, K9⟩⟩
    · cases hk
  · obtain ⟨hz, K9⟩ := hz
    rcases hz with ⟨-, n, hn⟩ | ⟨⟨hC, hm⟩, hk⟩
    · cases hn
    · have J := I.mq hC (x_mq_of hm)
      exact ⟨Sum.inr.inj hk, fun a b => ⟨⟨_, rfl⟩, J.setc, K9⟩⟩
theorem rc_tone {Ls : Nat × (Nat → Int32)} {h : xH} {F : xF} {Z : xO → xH → Prop} {v : Nat → Int32} {x1 x2 : Int32} (I : LI Ls h F) (K : kP v v h) (hZ : ∀ o F', MX 72 F' → kP v v (mh (x_setc h 0 0) F') → (∃ v : Int32, o = .inl (some (.inl v))) → Z o (mh (x_setc h 0 0) F')) : xC 2000000000000 132 [.inr (.inr (8, 1)), .inl x1, .inl x2] (x_setc h 0 0) Z := by
  have e := (I.setc (a := 0) (b := 0)).2.2.2.1
  rw [← e]
  refine ((tv132 (Z := fun o g => ∃ F', g = mh (x_setc h 0 0) F' ∧ MX 72 F' ∧ (∃ v : Int32, o = .inl (some (.inl v)))) I.2.1 I.2.2.1 (fun o F' hp => ⟨F', rfl, hp.1, hp.2⟩)).kp (v := v) (w := v) rfl (by rw [e]; exact K)).mono (by decide) (fun o g hz => ?_)
  obtain ⟨⟨F', rfl, hM, hr⟩, K9⟩ := hz
  exact hZ o F' hM K9 hr
theorem lc_rings {n0 : Nat} {oa : Nat → Nat → Nat} {D : (Nat → ClassId) × (Nat → Nat → Nat) × (Nat → ClassId)} {Ls : Nat × (Nat → Int32)} {h : xH} {F : xF} {v : Nat → Int32} {x1 x2 : Int32} (I : LI Ls h F) (K : kP v v h) : x_ConW n0 oa D wm_rings hh_rings [.inr (.inr (7, 1)), .inl x1, .inl x2, .inr (.inr (21, 1))] (x_setc h 0 0) (ZV Ls F v) := by
  refine cw_rings rfl rfl I.l7 ((tw82 (c := x_pj h) I.vi I.g7 (fun o g hp => hp)).kp (v := v) (w := v) rfl K) (fun v h1 hz => ?_) (fun k h1 hz => ?_)
  · obtain ⟨hz, K9⟩ := hz
    rcases hz with ⟨⟨hC, hm⟩, n, hn, -⟩ | ⟨⟨hC, hm⟩, hk⟩
    · have J := I.mq hC (x_mq_of hm)
      exact ⟨J.2.2.2.2.1, J.2.2.2.2.2.1, n, Sum.inl.inj hn, fun a b => ⟨⟨_, rfl⟩, J.setc.putl, K9⟩⟩
    · cases hk
  · obtain ⟨hz, K9⟩ := hz
    rcases hz with ⟨-, n, hn, -⟩ | ⟨⟨hC, hm⟩, hk⟩
    · cases hn
    · have J := I.mq hC (x_mq_of hm)
      exact ⟨Sum.inr.inj hk, fun a b => ⟨⟨_, rfl⟩, J.setc, K9⟩⟩
theorem rc_rings {Ls : Nat × (Nat → Int32)} {h : xH} {F : xF} {Z : xO → xH → Prop} {v : Nat → Int32} {x1 x2 : Int32} (I : LI Ls h F) (K : kP v v h) (hZ : ∀ o F', MX 72 F' → kP v v (mh (x_setc h 0 0) F') → (∃ v : Int32, o = .inl (some (.inl v)) ∧ (0 ≤ v.toInt ∧ v.toInt ≤ 1)) → Z o (mh (x_setc h 0 0) F')) : xC 2000000000000 133 [.inr (.inr (8, 1)), .inl x1, .inl x2] (x_setc h 0 0) Z := by
  have e := (I.setc (a := 0) (b := 0)).2.2.2.1
  rw [← e]
  refine ((tv133 (Z := fun o g => ∃ F', g = mh (x_setc h 0 0) F' ∧ MX 72 F' ∧ (∃ v : Int32, o = .inl (some (.inl v)) ∧ (0 ≤ v.toInt ∧ v.toInt ≤ 1))) I.2.1 I.2.2.1 (fun o F' hp => ⟨F', rfl, hp.1, hp.2⟩)).kp (v := v) (w := v) rfl (by rw [e]; exact K)).mono (by decide) (fun o g hz => ?_)
  obtain ⟨⟨F', rfl, hM, hr⟩, K9⟩ := hz
  exact hZ o F' hM K9 hr
theorem lc_talks {n0 : Nat} {oa : Nat → Nat → Nat} {D : (Nat → ClassId) × (Nat → Nat → Nat) × (Nat → ClassId)} {Ls : Nat × (Nat → Int32)} {h : xH} {F : xF} {v : Nat → Int32} {x1 x2 : Int32} (I : LI Ls h F) (K : kP v v h) : x_ConW n0 oa D wm_talks hh_talks [.inr (.inr (7, 1)), .inl x1, .inl x2, .inr (.inr (21, 1))] (x_setc h 0 0) (ZV Ls F v) := by
  refine cw_talks rfl rfl I.l7 ((tw83 (c := x_pj h) I.vi I.g7 (fun o g hp => hp)).kp (v := v) (w := v) rfl K) (fun v h1 hz => ?_) (fun k h1 hz => ?_)
  · obtain ⟨hz, K9⟩ := hz
    rcases hz with ⟨⟨hC, hm⟩, n, hn⟩ | ⟨⟨hC, hm⟩, hk⟩
    · have J := I.mq hC (x_mq_of hm)
      exact ⟨J.2.2.2.2.1, J.2.2.2.2.2.1, n, Sum.inl.inj hn, fun a b => ⟨⟨_, rfl⟩, J.setc.putl, K9⟩⟩
    · cases hk
  · obtain ⟨hz, K9⟩ := hz
    rcases hz with ⟨-, n, hn⟩ | ⟨⟨hC, hm⟩, hk⟩
    · cases hn
    · have J := I.mq hC (x_mq_of hm)
      exact ⟨Sum.inr.inj hk, fun a b => ⟨⟨_, rfl⟩, J.setc, K9⟩⟩
theorem rc_talks {Ls : Nat × (Nat → Int32)} {h : xH} {F : xF} {Z : xO → xH → Prop} {v : Nat → Int32} {x1 x2 : Int32} (I : LI Ls h F) (K : kP v v h) (hZ : ∀ o F', MX 72 F' → kP v v (mh (x_setc h 0 0) F') → (∃ v : Int32, o = .inl (some (.inl v))) → Z o (mh (x_setc h 0 0) F')) : xC 2000000000000 134 [.inr (.inr (8, 1)), .inl x1, .inl x2] (x_setc h 0 0) Z := by
  have e := (I.setc (a := 0) (b := 0)).2.2.2.1
  rw [← e]
  refine ((tv134 (Z := fun o g => ∃ F', g = mh (x_setc h 0 0) F' ∧ MX 72 F' ∧ (∃ v : Int32, o = .inl (some (.inl v)))) I.2.1 I.2.2.1 (fun o F' hp => ⟨F', rfl, hp.1, hp.2⟩)).kp (v := v) (w := v) rfl (by rw [e]; exact K)).mono (by decide) (fun o g hz => ?_)
  obtain ⟨⟨F', rfl, hM, hr⟩, K9⟩ := hz
  exact hZ o F' hM K9 hr
theorem lc_meter {n0 : Nat} {oa : Nat → Nat → Nat} {D : (Nat → ClassId) × (Nat → Nat → Nat) × (Nat → ClassId)} {Ls : Nat × (Nat → Int32)} {h : xH} {F : xF} {v : Nat → Int32} {x1 x2 : Int32} (I : LI Ls h F) (K : kP v v h) : x_ConW n0 oa D wm_meter hh_meter [.inr (.inr (7, 1)), .inl x1, .inl x2, .inr (.inr (21, 1))] (x_setc h 0 0) (ZV Ls F v) := by
  refine cw_meter rfl rfl I.l7 ((tw84 (c := x_pj h) I.vi I.g7 (fun o g hp => hp)).kp (v := v) (w := v) rfl K) (fun v h1 hz => ?_) (fun k h1 hz => ?_)
  · obtain ⟨hz, K9⟩ := hz
    rcases hz with ⟨⟨hC, hm⟩, n, hn⟩ | ⟨⟨hC, hm⟩, hk⟩
    · have J := I.mq hC (x_mq_of hm)
      exact ⟨J.2.2.2.2.1, J.2.2.2.2.2.1, n, Sum.inl.inj hn, fun a b => ⟨⟨_, rfl⟩, J.setc.putl, K9⟩⟩
    · cases hk
  · obtain ⟨hz, K9⟩ := hz
    rcases hz with ⟨-, n, hn⟩ | ⟨⟨hC, hm⟩, hk⟩
    · cases hn
    · have J := I.mq hC (x_mq_of hm)
      exact ⟨Sum.inr.inj hk, fun a b => ⟨⟨_, rfl⟩, J.setc, K9⟩⟩
theorem rc_meter {Ls : Nat × (Nat → Int32)} {h : xH} {F : xF} {Z : xO → xH → Prop} {v : Nat → Int32} {x1 x2 : Int32} (I : LI Ls h F) (K : kP v v h) (hZ : ∀ o F', MX 72 F' → kP v v (mh (x_setc h 0 0) F') → (∃ v : Int32, o = .inl (some (.inl v))) → Z o (mh (x_setc h 0 0) F')) : xC 2000000000000 135 [.inr (.inr (8, 1)), .inl x1, .inl x2] (x_setc h 0 0) Z := by
  have e := (I.setc (a := 0) (b := 0)).2.2.2.1
  rw [← e]
  refine ((tv135 (Z := fun o g => ∃ F', g = mh (x_setc h 0 0) F' ∧ MX 72 F' ∧ (∃ v : Int32, o = .inl (some (.inl v)))) I.2.1 I.2.2.1 (fun o F' hp => ⟨F', rfl, hp.1, hp.2⟩)).kp (v := v) (w := v) rfl (by rw [e]; exact K)).mono (by decide) (fun o g hz => ?_)
  obtain ⟨⟨F', rfl, hM, hr⟩, K9⟩ := hz
  exact hZ o F' hM K9 hr
theorem lc_seized {n0 : Nat} {oa : Nat → Nat → Nat} {D : (Nat → ClassId) × (Nat → Nat → Nat) × (Nat → ClassId)} {Ls : Nat × (Nat → Int32)} {h : xH} {F : xF} {v : Nat → Int32} {x1 x2 x3 : Int32} (I : LI Ls h F) (K : kP v v h) : x_ConW n0 oa D wm_seized hh_seized [.inr (.inr (7, 1)), .inl x1, .inl x2, .inl x3, .inr (.inr (21, 1))] (x_setc h 0 0) (ZV Ls F v) := by
  refine cw_seized rfl rfl I.l7 ((tw85 (c := x_pj h) I.vi I.g7 (fun o g hp => hp)).kp (v := v) (w := v) rfl K) (fun v h1 hz => ?_) (fun k h1 hz => ?_)
  · obtain ⟨hz, K9⟩ := hz
    rcases hz with ⟨⟨hC, hm⟩, n, hn⟩ | ⟨⟨hC, hm⟩, hk⟩
    · have J := I.mq hC (x_mq_of hm)
      exact ⟨J.2.2.2.2.1, J.2.2.2.2.2.1, n, Sum.inl.inj hn, fun a b => ⟨⟨_, rfl⟩, J.setc.putl, K9⟩⟩
    · cases hk
  · obtain ⟨hz, K9⟩ := hz
    rcases hz with ⟨-, n, hn⟩ | ⟨⟨hC, hm⟩, hk⟩
    · cases hn
    · have J := I.mq hC (x_mq_of hm)
      exact ⟨Sum.inr.inj hk, fun a b => ⟨⟨_, rfl⟩, J.setc, K9⟩⟩
theorem rc_seized {Ls : Nat × (Nat → Int32)} {h : xH} {F : xF} {Z : xO → xH → Prop} {v : Nat → Int32} {x1 x2 x3 : Int32} (I : LI Ls h F) (K : kP v v h) (hZ : ∀ o F', MX 72 F' → kP v v (mh (x_setc h 0 0) F') → (∃ v : Int32, o = .inl (some (.inl v))) → Z o (mh (x_setc h 0 0) F')) : xC 2000000000000 136 [.inr (.inr (8, 1)), .inl x1, .inl x2, .inl x3] (x_setc h 0 0) Z := by
  have e := (I.setc (a := 0) (b := 0)).2.2.2.1
  rw [← e]
  refine ((tv136 (Z := fun o g => ∃ F', g = mh (x_setc h 0 0) F' ∧ MX 72 F' ∧ (∃ v : Int32, o = .inl (some (.inl v)))) I.2.1 I.2.2.1 (fun o F' hp => ⟨F', rfl, hp.1, hp.2⟩)).kp (v := v) (w := v) rfl (by rw [e]; exact K)).mono (by decide) (fun o g hz => ?_)
  obtain ⟨⟨F', rfl, hM, hr⟩, K9⟩ := hz
  exact hZ o F' hM K9 hr
theorem lc_idle {n0 : Nat} {oa : Nat → Nat → Nat} {D : (Nat → ClassId) × (Nat → Nat → Nat) × (Nat → ClassId)} {Ls : Nat × (Nat → Int32)} {h : xH} {F : xF} {v : Nat → Int32} {x1 x2 : Int32} (I : LI Ls h F) (K : kP v v h) : x_ConW n0 oa D wm_idle hh_idle [.inr (.inr (7, 1)), .inl x1, .inl x2, .inr (.inr (21, 1))] (x_setc h 0 0) (ZV Ls F v) := by
  refine cw_idle rfl rfl I.l7 ((tw87 (c := x_pj h) I.vi I.g7 (fun o g hp => hp)).kp (v := v) (w := v) rfl K) (fun v h1 hz => ?_) (fun k h1 hz => ?_)
  · obtain ⟨hz, K9⟩ := hz
    rcases hz with ⟨⟨hC, hm⟩, n, hn⟩ | ⟨⟨hC, hm⟩, hk⟩
    · have J := I.mq hC (x_mq_of hm)
      exact ⟨J.2.2.2.2.1, J.2.2.2.2.2.1, n, Sum.inl.inj hn, fun a b => ⟨⟨_, rfl⟩, J.setc.putl, K9⟩⟩
    · cases hk
  · obtain ⟨hz, K9⟩ := hz
    rcases hz with ⟨-, n, hn⟩ | ⟨⟨hC, hm⟩, hk⟩
    · cases hn
    · have J := I.mq hC (x_mq_of hm)
      exact ⟨Sum.inr.inj hk, fun a b => ⟨⟨_, rfl⟩, J.setc, K9⟩⟩
theorem rc_idle {Ls : Nat × (Nat → Int32)} {h : xH} {F : xF} {Z : xO → xH → Prop} {v : Nat → Int32} {x1 x2 : Int32} (I : LI Ls h F) (K : kP v v h) (hZ : ∀ o F', MX 72 F' → kP v v (mh (x_setc h 0 0) F') → (∃ v : Int32, o = .inl (some (.inl v))) → Z o (mh (x_setc h 0 0) F')) : xC 2000000000000 137 [.inr (.inr (8, 1)), .inl x1, .inl x2] (x_setc h 0 0) Z := by
  have e := (I.setc (a := 0) (b := 0)).2.2.2.1
  rw [← e]
  refine ((tv137 (Z := fun o g => ∃ F', g = mh (x_setc h 0 0) F' ∧ MX 72 F' ∧ (∃ v : Int32, o = .inl (some (.inl v)))) I.2.1 I.2.2.1 (fun o F' hp => ⟨F', rfl, hp.1, hp.2⟩)).kp (v := v) (w := v) rfl (by rw [e]; exact K)).mono (by decide) (fun o g hz => ?_)
  obtain ⟨⟨F', rfl, hM, hr⟩, K9⟩ := hz
  exact hZ o F' hM K9 hr
theorem lc_overflow {n0 : Nat} {oa : Nat → Nat → Nat} {D : (Nat → ClassId) × (Nat → Nat → Nat) × (Nat → ClassId)} {Ls : Nat × (Nat → Int32)} {h : xH} {F : xF} {v : Nat → Int32} {x1 x2 : Int32} (I : LI Ls h F) (K : kP v v h) : x_ConW n0 oa D wm_overflow hh_overflow [.inr (.inr (7, 1)), .inl x1, .inl x2, .inr (.inr (21, 1))] (x_setc h 0 0) (ZV Ls F v) := by
  refine cw_overflow rfl rfl I.l7 ((tw88 (c := x_pj h) I.vi I.g7 (fun o g hp => hp)).kp (v := v) (w := v) rfl K) (fun v h1 hz => ?_) (fun k h1 hz => ?_)
  · obtain ⟨hz, K9⟩ := hz
    rcases hz with ⟨⟨hC, hm⟩, n, hn⟩ | ⟨⟨hC, hm⟩, hk⟩
    · have J := I.mq hC (x_mq_of hm)
      exact ⟨J.2.2.2.2.1, J.2.2.2.2.2.1, n, Sum.inl.inj hn, fun a b => ⟨⟨_, rfl⟩, J.setc.putl, K9⟩⟩
    · cases hk
  · obtain ⟨hz, K9⟩ := hz
    rcases hz with ⟨-, n, hn⟩ | ⟨⟨hC, hm⟩, hk⟩
    · cases hn
    · have J := I.mq hC (x_mq_of hm)
      exact ⟨Sum.inr.inj hk, fun a b => ⟨⟨_, rfl⟩, J.setc, K9⟩⟩
theorem rc_overflow {Ls : Nat × (Nat → Int32)} {h : xH} {F : xF} {Z : xO → xH → Prop} {v : Nat → Int32} {x1 x2 : Int32} (I : LI Ls h F) (K : kP v v h) (hZ : ∀ o F', MX 72 F' → kP v v (mh (x_setc h 0 0) F') → (∃ v : Int32, o = .inl (some (.inl v))) → Z o (mh (x_setc h 0 0) F')) : xC 2000000000000 138 [.inr (.inr (8, 1)), .inl x1, .inl x2] (x_setc h 0 0) Z := by
  have e := (I.setc (a := 0) (b := 0)).2.2.2.1
  rw [← e]
  refine ((tv138 (Z := fun o g => ∃ F', g = mh (x_setc h 0 0) F' ∧ MX 72 F' ∧ (∃ v : Int32, o = .inl (some (.inl v)))) I.2.1 I.2.2.1 (fun o F' hp => ⟨F', rfl, hp.1, hp.2⟩)).kp (v := v) (w := v) rfl (by rw [e]; exact K)).mono (by decide) (fun o g hz => ?_)
  obtain ⟨⟨F', rfl, hM, hr⟩, K9⟩ := hz
  exact hZ o F' hM K9 hr
theorem rc_thrown {Ls : Nat × (Nat → Int32)} {h : xH} {F : xF} {Z : xO → xH → Prop} (I : LI Ls h F) (hZ : Z (.inl (some (.inl (F 8 0)))) (x_setc h 0 0)) : xC 2000000000000 90 [.inr (.inr (8, 1))] (x_setc h 0 0) Z := by
  have e := (I.setc (a := 0) (b := 0)).2.2.2.1
  rw [← e]
  refine (tv90 I.2.1 (fun o F' hp => ?_)).up (by decide)
  obtain ⟨rfl, v, rfl, rfl⟩ := hp
  rw [e]
  exact hZ
theorem kR.ofF {v : Nat → Int32} {h : xH} {F : xF} (e : mh h F = h) (K : kR v h) : ∀ t, t < 72 → F 22 t = v t := by
  obtain ⟨q1, q2⟩ := mh_fix.mp e
  exact fun t ht => (q2 22 t (by omega)).trans (K t ht)
theorem kC.ofF {v : Nat → Int32} {h : xH} {F' : xF} (K : kC v h) : kC v (mh h F') := by
  obtain ⟨c1, c2⟩ := K
  refine ⟨fun t ht => ?_, c2⟩
  rw [mh_vi (by decide) (by decide)]; exact c1 t ht
theorem kR.toF {v : Nat → Int32} {h : xH} {F' : xF} (e2 : ∀ t, t < 72 → F' 22 t = v t) : kR v (mh h F') := by
  intro t ht
  show (if 22 = 8 ∧ t = 1 then F' 8 1 else if (22 ≤ 22 ∧ 22 ≤ 64) ∧ 1 = 1 then F' 22 t else x_vi h 22 1 t) = v t
  rw [if_neg (by omega), if_pos (by omega)]
  exact e2 t ht
/-- a line's office and number -/
def cmA (x1 x2 : Int32) : Prop := 0 ≤ x1.toInt ∧ x1.toInt ≤ 2 ∧ 0 ≤ x2.toInt ∧ x2.toInt ≤ 23
theorem cmA.lt {x1 x2 : Int32} (q : cmA x1 x2) : lx x1 x2 < 72 := by
  obtain ⟨a, b, c, d⟩ := q
  have h1 := x_clamp a
  have h2 := x_clamp c
  unfold lx
  omega
/-- behind the class's lift: k came back -/
def cz_lift (g : xH) (x1 x2 k : Int32) (v : Nat → Int32) : Prop := (cmA x1 x2 ∧ (v (lx x1 x2)).toInt = 0 ∧ k.toInt = 0 ∧ kP (upl v (lx x1 x2) 1) v g) ∨ (¬ cmA x1 x2 ∧ k.toInt = 1 ∧ kP v v g) ∨ (cmA x1 x2 ∧ (v (lx x1 x2)).toInt ≠ 0 ∧ k.toInt = 2 ∧ kP v v g)
/-- behind the class's hang -/
def cz_hang (g : xH) (x1 x2 k : Int32) (v : Nat → Int32) : Prop := (cmA x1 x2 ∧ (v (lx x1 x2)).toInt ≠ 0 ∧ k.toInt = 0 ∧ kP (upl v (lx x1 x2) 0) v g) ∨ (¬ cmA x1 x2 ∧ k.toInt = 1 ∧ kP v v g) ∨ (cmA x1 x2 ∧ (v (lx x1 x2)).toInt = 0 ∧ k.toInt = 2 ∧ kP v v g)
/-- behind the reference's: thrown, both alike -/
def cmR (g2 : xH) (F2 : xF) (k : Int32) : Prop := (F2 8 0).toInt = k.toInt ∧ True ∧ ∃ v', kP v' v' g2
def ZT (Q : xH → Int32 → Prop) (Ls : Nat × (Nat → Int32)) (F : xF) : xO → xH → Prop := fun o g => ∃ k : Int32, o = .inl (some (.inl k)) ∧ LI Ls g F ∧ Q g k
section XCM
variable {n0 : Nat} {oa : Nat → Nat → Nat} {D : (Nat → ClassId) × (Nat → Nat → Nat) × (Nat → ClassId)} {Ls : Nat × (Nat → Int32)} {h : xH} {F : xF} {v : Nat → Int32} {x1 x2 k : Int32} {Z : xO → xH → Prop}
theorem lc_lift (I : LI Ls h F) (K : kP v v h) : x_ConW n0 oa D wm_lift hh_lift [.inr (.inr (7, 1)), .inl x1, .inl x2] (x_setc h 0 0) (ZT (fun g k => cz_lift g x1 x2 k v) Ls F) := by
  refine cw_lift rfl rfl I.l7 (tx58 (c := x_pj h) (v := v) (w := v) I.vi I.g7 K (fun o g hp => hp)) (fun v9 h1 hz => ?_) (fun k h1 hz => ?_)
  · rcases hz with ⟨⟨hC, hm⟩, hn, hA, h0, K9⟩ | ⟨-, hk, -⟩ | ⟨-, hk, -⟩
    · have J := I.mq hC (x_mq_of hm)
      exact ⟨Sum.inl.inj hn, fun a b => ⟨0, rfl, J.setc, Or.inl ⟨hA, h0, rfl, K9⟩⟩⟩
    · cases hk
    · cases hk
  · rcases hz with ⟨-, hn, -⟩ | ⟨⟨hC, hm⟩, hk, hA, K9⟩ | ⟨⟨hC, hm⟩, hk, hA, h0, K9⟩
    · cases hn
    · have J := I.mq hC (x_mq_of hm)
      have hk := Sum.inr.inj hk
      subst hk
      exact fun a b => ⟨1, rfl, J.setc, Or.inr (Or.inl ⟨hA, rfl, K9⟩)⟩
    · have J := I.mq hC (x_mq_of hm)
      have hk := Sum.inr.inj hk
      subst hk
      exact fun a b => ⟨2, rfl, J.setc, Or.inr (Or.inr ⟨hA, h0, rfl, K9⟩)⟩
theorem rc_lift (I : LI Ls h F) (hT : cz_lift h x1 x2 k v) (hZ : ∀ o F', MX 72 F' → (o = .inl none ∧ ∃ v', kP v' v' (mh (x_setc h 0 0) F')) → Z o (mh (x_setc h 0 0) F')) : xC 2000000000000 110 [.inr (.inr (8, 1)), .inl x1, .inl x2] (x_setc h 0 0) Z := by
  have e := (I.setc (a := 0) (b := 0)).2.2.2.1
  have hR : kR v h := by rcases hT with ⟨-, -, -, q⟩ | ⟨-, -, q⟩ | ⟨-, -, -, q⟩ <;> exact q.2
  have f22 := kR.ofF I.2.2.2.1 hR
  rw [← e]
  refine (tx110 I.2.1 I.2.2.1 (fun o F' hp => hZ o F' hp.1 ?_)).up (by decide)
  obtain ⟨-, rfl, hd⟩ := hp
  refine ⟨rfl, ?_⟩
  rcases hT with ⟨hA, h0, hk, K⟩ | ⟨hA, hk, K⟩ | ⟨hA, h0, hk, K⟩
  · rw [f22 _ hA.lt] at hd
    rcases hd with ⟨a1, a2, a3, a4⟩ | ⟨a1, a3, a4⟩ | ⟨a1, a2, a3, a4⟩
    · refine ⟨upl v (lx x1 x2) 1, kC.ofF (h := x_setc h 0 0) K.1, kR.toF (fun t ht => ?_)⟩
      rw [a4]
      show (if t = lx x1 x2 then 1 else F 22 t) = if t = lx x1 x2 then 1 else v t
      rw [f22 t ht]
    · exact absurd hA a1
    · exact absurd h0 a2
  · rcases hd with ⟨a1, a2, a3, a4⟩ | ⟨a1, a3, a4⟩ | ⟨a1, a2, a3, a4⟩
    · exact absurd a1 hA
    · exact ⟨v, kC.ofF (h := x_setc h 0 0) K.1, kR.toF (fun t ht => (a4 t).trans (f22 t ht))⟩
    · exact absurd a1 hA
  · rw [f22 _ hA.lt] at hd
    rcases hd with ⟨a1, a2, a3, a4⟩ | ⟨a1, a3, a4⟩ | ⟨a1, a2, a3, a4⟩
    · exact absurd a2 h0
    · exact absurd hA a1
    · exact ⟨v, kC.ofF (h := x_setc h 0 0) K.1, kR.toF (fun t ht => (a4 t).trans (f22 t ht))⟩
theorem lc_hang (I : LI Ls h F) (K : kP v v h) : x_ConW n0 oa D wm_hang hh_hang [.inr (.inr (7, 1)), .inl x1, .inl x2] (x_setc h 0 0) (ZT (fun g k => cz_hang g x1 x2 k v) Ls F) := by
  refine cw_hang rfl rfl I.l7 (tx60 (c := x_pj h) (v := v) (w := v) I.vi I.g7 K (fun o g hp => hp)) (fun v9 h1 hz => ?_) (fun k h1 hz => ?_)
  · rcases hz with ⟨⟨hC, hm⟩, hn, hA, h0, K9⟩ | ⟨-, hk, -⟩ | ⟨-, hk, -⟩
    · have J := I.mq hC (x_mq_of hm)
      exact ⟨Sum.inl.inj hn, fun a b => ⟨0, rfl, J.setc, Or.inl ⟨hA, h0, rfl, K9⟩⟩⟩
    · cases hk
    · cases hk
  · rcases hz with ⟨-, hn, -⟩ | ⟨⟨hC, hm⟩, hk, hA, K9⟩ | ⟨⟨hC, hm⟩, hk, hA, h0, K9⟩
    · cases hn
    · have J := I.mq hC (x_mq_of hm)
      have hk := Sum.inr.inj hk
      subst hk
      exact fun a b => ⟨1, rfl, J.setc, Or.inr (Or.inl ⟨hA, rfl, K9⟩)⟩
    · have J := I.mq hC (x_mq_of hm)
      have hk := Sum.inr.inj hk
      subst hk
      exact fun a b => ⟨2, rfl, J.setc, Or.inr (Or.inr ⟨hA, h0, rfl, K9⟩)⟩
theorem rc_hang (I : LI Ls h F) (hT : cz_hang h x1 x2 k v) (hZ : ∀ o F', MX 72 F' → (o = .inl none ∧ cmR (mh (x_setc h 0 0) F') F' k) → Z o (mh (x_setc h 0 0) F')) : xC 2000000000000 111 [.inr (.inr (8, 1)), .inl x1, .inl x2] (x_setc h 0 0) Z := by
  have e := (I.setc (a := 0) (b := 0)).2.2.2.1
  have hR : kR v h := by rcases hT with ⟨-, -, -, q⟩ | ⟨-, -, q⟩ | ⟨-, -, -, q⟩ <;> exact q.2
  have f22 := kR.ofF I.2.2.2.1 hR
  rw [← e]
  refine (tx111 I.2.1 I.2.2.1 (fun o F' hp => hZ o F' hp.1 ?_)).up (by decide)
  obtain ⟨-, rfl, hd⟩ := hp
  refine ⟨rfl, ?_⟩
  rcases hT with ⟨hA, h0, hk, K⟩ | ⟨hA, hk, K⟩ | ⟨hA, h0, hk, K⟩
  · rw [f22 _ hA.lt] at hd
    rcases hd with ⟨a1, a2, a3, a4⟩ | ⟨a1, a3, a4⟩ | ⟨a1, a2, a3, a4⟩
    · refine ⟨by omega, trivial, upl v (lx x1 x2) 0, kC.ofF (h := x_setc h 0 0) K.1, kR.toF (fun t ht => ?_)⟩
      rw [a4]
      show (if t = lx x1 x2 then 0 else F 22 t) = if t = lx x1 x2 then 0 else v t
      rw [f22 t ht]
    · exact absurd hA a1
    · exact absurd a2 h0
  · rcases hd with ⟨a1, a2, a3, a4⟩ | ⟨a1, a3, a4⟩ | ⟨a1, a2, a3, a4⟩
    · exact absurd a1 hA
    · exact ⟨by omega, trivial, v, kC.ofF (h := x_setc h 0 0) K.1, kR.toF (fun t ht => (a4 t).trans (f22 t ht))⟩
    · exact absurd a1 hA
  · rw [f22 _ hA.lt] at hd
    rcases hd with ⟨a1, a2, a3, a4⟩ | ⟨a1, a3, a4⟩ | ⟨a1, a2, a3, a4⟩
    · exact absurd h0 a2
    · exact absurd hA a1
    · exact ⟨by omega, trivial, v, kC.ofF (h := x_setc h 0 0) K.1, kR.toF (fun t ht => (a4 t).trans (f22 t ht))⟩
end XCM
