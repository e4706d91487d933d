/-! THE LAW'S CALLERS AND THE REFERENCE UNDER THE LAW'S INVARIANT (printed by gen_law.py) -/
theorem lc_trunk {n0 : Nat} {oa : Nat → Nat → Nat} {D : (Nat → ClassId) × (Nat → Nat → Nat) × (Nat → ClassId)} {Ls : Nat × (Nat → Int32)} {h : xH} {F : xF} {x1 x2 : Int32} (I : LI Ls h F) : x_ConW n0 oa D wm_trunk hh_trunk [.inr (.inr (7, 1)), .inl x1, .inl x2, .inr (.inr (21, 1))] (x_setc h 0 0) (ZW Ls F) := by
  refine cw_trunk rfl rfl I.l7 (tv47 (c := x_pj h) I.vi I.g7 (fun o g hp => hp)) (fun v h1 hz => ?_) (fun k h1 hz => ?_)
  · rcases hz with ⟨⟨hC, hm⟩, n, hn⟩ | ⟨⟨hC, hm⟩, k', hk⟩
    · have J := I.mq hC hm
      exact ⟨J.2.2.2.2.1, J.2.2.2.2.2.1, n, Sum.inl.inj hn, fun a b => ⟨⟨_, rfl⟩, J.setc.putl⟩⟩
    · cases hk
  · rcases hz with ⟨-, n, hn⟩ | ⟨⟨hC, hm⟩, k', hk⟩
    · cases hn
    · have J := I.mq hC (x_mq_of hm)
      exact fun a b => ⟨⟨_, rfl⟩, J.setc⟩
theorem rc_trunk {Ls : Nat × (Nat → Int32)} {h : xH} {F : xF} {Z : xO → xH → Prop} {x1 x2 : Int32} (I : LI Ls h F) (hZ : ∀ o F', MX 72 F' → (∃ v : Int32, o = .inl (some (.inl v))) → Z o (mh (x_setc h 0 0) F')) : xC 2000000000000 94 [.inr (.inr (8, 1)), .inl x1, .inl x2] (x_setc h 0 0) Z := by
  have e := (I.setc (a := 0) (b := 0)).2.2.2.1
  rw [← e]
  exact (tv94 I.2.1 I.2.2.1 (fun o F' hp => hZ o F' hp.1 hp.2)).up (by decide)
theorem lc_route {n0 : Nat} {oa : Nat → Nat → Nat} {D : (Nat → ClassId) × (Nat → Nat → Nat) × (Nat → ClassId)} {Ls : Nat × (Nat → Int32)} {h : xH} {F : xF} {x1 x2 x3 x4 x5 : Int32} (I : LI Ls h F) : x_ConW n0 oa D wm_route hh_route [.inr (.inr (7, 1)), .inl x1, .inl x2, .inl x3, .inl x4, .inl x5, .inr (.inr (21, 1))] (x_setc h 0 0) (ZW Ls F) := by
  refine cw_route rfl rfl I.l7 (tv49 (c := x_pj h) I.vi I.g7 (fun o g hp => hp)) (fun v h1 hz => ?_) (fun k h1 hz => ?_)
  · rcases hz with ⟨⟨hC, hm⟩, n, hn⟩ | ⟨⟨hC, hm⟩, k', hk⟩
    · have J := I.mq hC hm
      exact ⟨J.2.2.2.2.1, J.2.2.2.2.2.1, n, Sum.inl.inj hn, fun a b => ⟨⟨_, rfl⟩, J.setc.putl⟩⟩
    · cases hk
  · rcases hz with ⟨-, n, hn⟩ | ⟨⟨hC, hm⟩, k', hk⟩
    · cases hn
    · have J := I.mq hC (x_mq_of hm)
      exact fun a b => ⟨⟨_, rfl⟩, J.setc⟩
theorem rc_route {Ls : Nat × (Nat → Int32)} {h : xH} {F : xF} {Z : xO → xH → Prop} {x1 x2 x3 x4 x5 : Int32} (I : LI Ls h F) (hZ : ∀ o F', MX 72 F' → (∃ v : Int32, o = .inl (some (.inl v))) → Z o (mh (x_setc h 0 0) F')) : xC 2000000000000 97 [.inr (.inr (8, 1)), .inl x1, .inl x2, .inl x3, .inl x4, .inl x5] (x_setc h 0 0) Z := by
  have e := (I.setc (a := 0) (b := 0)).2.2.2.1
  rw [← e]
  exact (tv97 I.2.1 I.2.2.1 (fun o F' hp => hZ o F' hp.1 hp.2)).up (by decide)
theorem lc_hunt {n0 : Nat} {oa : Nat → Nat → Nat} {D : (Nat → ClassId) × (Nat → Nat → Nat) × (Nat → ClassId)} {Ls : Nat × (Nat → Int32)} {h : xH} {F : xF} {x1 x2 x3 : Int32} (I : LI Ls h F) : x_ConW n0 oa D wm_hunt hh_hunt [.inr (.inr (7, 1)), .inl x1, .inl x2, .inl x3, .inr (.inr (21, 1))] (x_setc h 0 0) (ZW Ls F) := by
  refine cw_hunt rfl rfl I.l7 (tv50 (c := x_pj h) I.vi I.g7 (fun o g hp => hp)) (fun v h1 hz => ?_) (fun k h1 hz => ?_)
  · rcases hz with ⟨⟨hC, hm⟩, n, hn⟩ | ⟨⟨hC, hm⟩, k', hk⟩
    · have J := I.mq hC (x_mq_of hm)
      exact ⟨J.2.2.2.2.1, J.2.2.2.2.2.1, n, Sum.inl.inj hn, fun a b => ⟨⟨_, rfl⟩, J.setc.putl⟩⟩
    · cases hk
  · rcases hz with ⟨-, n, hn⟩ | ⟨⟨hC, hm⟩, k', hk⟩
    · cases hn
    · have J := I.mq hC (x_mq_of hm)
      exact fun a b => ⟨⟨_, rfl⟩, J.setc⟩
theorem rc_hunt {Ls : Nat × (Nat → Int32)} {h : xH} {F : xF} {Z : xO → xH → Prop} {x1 x2 x3 : Int32} (I : LI Ls h F) (hZ : ∀ o F', MX 72 F' → (∃ v : Int32, o = .inl (some (.inl v))) → Z o (mh (x_setc h 0 0) F')) : xC 2000000000000 98 [.inr (.inr (8, 1)), .inl x1, .inl x2, .inl x3] (x_setc h 0 0) Z := by
  have e := (I.setc (a := 0) (b := 0)).2.2.2.1
  rw [← e]
  exact (tv98 I.2.1 I.2.2.1 (fun o F' hp => hZ o F' hp.1 hp.2)).up (by decide)
theorem lc_lift {n0 : Nat} {oa : Nat → Nat → Nat} {D : (Nat → ClassId) × (Nat → Nat → Nat) × (Nat → ClassId)} {Ls : Nat × (Nat → Int32)} {h : xH} {F : xF} {x1 x2 : Int32} (I : LI Ls h F) : x_ConW n0 oa D wm_lift hh_lift [.inr (.inr (7, 1)), .inl x1, .inl x2] (x_setc h 0 0) (ZW Ls F) := by
  refine cw_lift rfl rfl I.l7 (tv58 (c := x_pj h) I.vi I.g7 (fun o g hp => hp)) (fun v h1 hz => ?_) (fun k h1 hz => ?_)
  · rcases hz with ⟨⟨hC, hm⟩, hn⟩ | ⟨⟨hC, hm⟩, k', hk⟩
    · have J := I.mq hC (x_mq_of hm)
      exact ⟨Sum.inl.inj hn, fun a b => ⟨⟨_, rfl⟩, J.setc⟩⟩
    · cases hk
  · rcases hz with ⟨-, hn⟩ | ⟨⟨hC, hm⟩, k', hk⟩
    · cases hn
    · have J := I.mq hC (x_mq_of hm)
      exact fun a b => ⟨⟨_, rfl⟩, J.setc⟩
theorem rc_lift {Ls : Nat × (Nat → Int32)} {h : xH} {F : xF} {Z : xO → xH → Prop} {x1 x2 : Int32} (I : LI Ls h F) (hZ : ∀ o F', MX 72 F' → o = .inl none → Z o (mh (x_setc h 0 0) F')) : xC 2000000000000 110 [.inr (.inr (8, 1)), .inl x1, .inl x2] (x_setc h 0 0) Z := by
  have e := (I.setc (a := 0) (b := 0)).2.2.2.1
  rw [← e]
  exact (tv110 I.2.1 I.2.2.1 (fun o F' hp => hZ o F' hp.1 hp.2)).up (by decide)
theorem lc_hang {n0 : Nat} {oa : Nat → Nat → Nat} {D : (Nat → ClassId) × (Nat → Nat → Nat) × (Nat → ClassId)} {Ls : Nat × (Nat → Int32)} {h : xH} {F : xF} {x1 x2 : Int32} (I : LI Ls h F) : x_ConW n0 oa D wm_hang hh_hang [.inr (.inr (7, 1)), .inl x1, .inl x2] (x_setc h 0 0) (ZW Ls F) := by
  refine cw_hang rfl rfl I.l7 (tv60 (c := x_pj h) I.vi I.g7 (fun o g hp => hp)) (fun v h1 hz => ?_) (fun k h1 hz => ?_)
  · rcases hz with ⟨⟨hC, hm⟩, hn⟩ | ⟨⟨hC, hm⟩, k', hk⟩
    · have J := I.mq hC (x_mq_of hm)
      exact ⟨Sum.inl.inj hn, fun a b => ⟨⟨_, rfl⟩, J.setc⟩⟩
    · cases hk
  · rcases hz with ⟨-, hn⟩ | ⟨⟨hC, hm⟩, k', hk⟩
    · cases hn
    · have J := I.mq hC (x_mq_of hm)
      exact fun a b => ⟨⟨_, rfl⟩, J.setc⟩
theorem rc_hang {Ls : Nat × (Nat → Int32)} {h : xH} {F : xF} {Z : xO → xH → Prop} {x1 x2 : Int32} (I : LI Ls h F) (hZ : ∀ o F', MX 72 F' → o = .inl none → Z o (mh (x_setc h 0 0) F')) : xC 2000000000000 111 [.inr (.inr (8, 1)), .inl x1, .inl x2] (x_setc h 0 0) Z := by
  have e := (I.setc (a := 0) (b := 0)).2.2.2.1
  rw [← e]
  exact (tv111 I.2.1 I.2.2.1 (fun o F' hp => hZ o F' hp.1 hp.2)).up (by decide)
theorem lc_dial {n0 : Nat} {oa : Nat → Nat → Nat} {D : (Nat → ClassId) × (Nat → Nat → Nat) × (Nat → ClassId)} {Ls : Nat × (Nat → Int32)} {h : xH} {F : xF} {x1 x2 x3 : Int32} (I : LI Ls h F) : x_ConW n0 oa D wm_dial hh_dial [.inr (.inr (7, 1)), .inl x1, .inl x2, .inl x3, .inr (.inr (21, 1))] (x_setc h 0 0) (ZW Ls F) := by
  refine cw_dial rfl rfl I.l7 (tv63 (c := x_pj h) I.vi I.g7 (fun o g hp => hp)) (fun v h1 hz => ?_) (fun k h1 hz => ?_)
  · rcases hz with ⟨⟨hC, hm⟩, n, hn, -⟩ | ⟨⟨hC, hm⟩, k', hk⟩
    · have J := I.mq hC (x_mq_of hm)
      exact ⟨J.2.2.2.2.1, J.2.2.2.2.2.1, n, Sum.inl.inj hn, fun a b => ⟨⟨_, rfl⟩, J.setc.putl⟩⟩
    · cases hk
  · rcases hz with ⟨-, n, hn, -⟩ | ⟨⟨hC, hm⟩, k', hk⟩
    · cases hn
    · have J := I.mq hC (x_mq_of hm)
      exact fun a b => ⟨⟨_, rfl⟩, J.setc⟩
theorem rc_dial {Ls : Nat × (Nat → Int32)} {h : xH} {F : xF} {Z : xO → xH → Prop} {x1 x2 x3 : Int32} (I : LI Ls h F) (hZ : ∀ o F', MX 72 F' → (∃ v : Int32, o = .inl (some (.inl v)) ∧ (0 ≤ v.toInt ∧ v.toInt ≤ 1)) → Z o (mh (x_setc h 0 0) F')) : xC 2000000000000 115 [.inr (.inr (8, 1)), .inl x1, .inl x2, .inl x3] (x_setc h 0 0) Z := by
  have e := (I.setc (a := 0) (b := 0)).2.2.2.1
  rw [← e]
  exact (tv115 I.2.1 I.2.2.1 (fun o F' hp => hZ o F' hp.1 hp.2)).up (by decide)
theorem lc_tick {n0 : Nat} {oa : Nat → Nat → Nat} {D : (Nat → ClassId) × (Nat → Nat → Nat) × (Nat → ClassId)} {Ls : Nat × (Nat → Int32)} {h : xH} {F : xF} {x1 : Int32} (I : LI Ls h F) : x_ConW n0 oa D wm_tick hh_tick [.inr (.inr (7, 1)), .inl x1] (x_setc h 0 0) (ZT Ls F x1) := by
  refine cw_tick rfl rfl I.l7 (tw78 (c := x_pj h) I.vi I.g7 (fun o g hp => hp)) (fun v h1 hz => ?_) (fun k h1 hz => ?_)
  · rcases hz with ⟨⟨hC, hm⟩, hn, hr⟩ | ⟨⟨hC, hm⟩, hk, hr⟩
    · have J := I.mq hC (x_mq_of hm)
      exact ⟨Sum.inl.inj hn, fun a b => ⟨0, rfl, J.setc, Or.inl ⟨hr, rfl⟩⟩⟩
    · cases hk
  · rcases hz with ⟨-, hn, -⟩ | ⟨⟨hC, hm⟩, hk, hr⟩
    · cases hn
    · have J := I.mq hC (x_mq_of hm)
      exact ⟨Sum.inr.inj hk, fun a b => ⟨1, rfl, J.setc, Or.inr ⟨hr, rfl⟩⟩⟩
theorem rc_tick {Ls : Nat × (Nat → Int32)} {h : xH} {F : xF} {Z : xO → xH → Prop} {x1 : Int32} (I : LI Ls h F) (hZ : ∀ o F', MX 72 F' → (((1 ≤ x1.toInt ∧ x1.toInt ≤ 100) ∧ (F' 8 0).toInt = 0) ∨ (¬ (1 ≤ x1.toInt ∧ x1.toInt ≤ 100) ∧ (F' 8 0).toInt = 1)) → o = .inl none → Z o (mh (x_setc h 0 0) F')) : xC 2000000000000 129 [.inr (.inr (8, 1)), .inl x1] (x_setc h 0 0) Z := by
  have e := (I.setc (a := 0) (b := 0)).2.2.2.1
  rw [← e]
  exact (tv129 I.2.1 I.2.2.1 (fun o F' hp => hZ o F' hp.1.1 hp.1.2 hp.2)).up (by decide)
theorem lc_out {n0 : Nat} {oa : Nat → Nat → Nat} {D : (Nat → ClassId) × (Nat → Nat → Nat) × (Nat → ClassId)} {Ls : Nat × (Nat → Int32)} {h : xH} {F : xF} {x1 x2 : Int32} (I : LI Ls h F) (g2 : 0 ≤ x2.toInt ∧ x2.toInt ≤ 1) : x_ConW n0 oa D wm_out hh_out [.inr (.inr (7, 1)), .inl x1, .inl x2, .inr (.inr (21, 1))] (x_setc h 0 0) (ZW Ls F) := by
  refine cw_out rfl rfl I.l7 (tw79 (c := x_pj h) I.vi I.g7 g2 (fun o g hp => hp)) (fun v h1 hz => ?_) (fun k h1 hz => ?_)
  · rcases hz with ⟨⟨hC, hm⟩, n, hn, -⟩ | ⟨⟨hC, hm⟩, hk⟩
    · have J := I.mq hC (x_mq_of hm)
      exact ⟨J.2.2.2.2.1, J.2.2.2.2.2.1, n, Sum.inl.inj hn, fun a b => ⟨⟨_, rfl⟩, J.setc.putl⟩⟩
    · cases hk
  · rcases hz with ⟨-, n, hn, -⟩ | ⟨⟨hC, hm⟩, hk⟩
    · cases hn
    · have J := I.mq hC (x_mq_of hm)
      exact ⟨Sum.inr.inj hk, fun a b => ⟨⟨_, rfl⟩, J.setc⟩⟩
theorem rc_out {Ls : Nat × (Nat → Int32)} {h : xH} {F : xF} {Z : xO → xH → Prop} {x1 x2 : Int32} (I : LI Ls h F) (g2 : 0 ≤ x2.toInt ∧ x2.toInt ≤ 1) (hZ : ∀ o F', MX 72 F' → (∃ v : Int32, o = .inl (some (.inl v)) ∧ (0 ≤ v.toInt ∧ v.toInt ≤ 1)) → Z o (mh (x_setc h 0 0) F')) : xC 2000000000000 130 [.inr (.inr (8, 1)), .inl x1, .inl x2] (x_setc h 0 0) Z := by
  have e := (I.setc (a := 0) (b := 0)).2.2.2.1
  rw [← e]
  exact (tv130 I.2.1 g2 I.2.2.1 (fun o F' hp => hZ o F' hp.1 hp.2)).up (by decide)
theorem lc_hold {n0 : Nat} {oa : Nat → Nat → Nat} {D : (Nat → ClassId) × (Nat → Nat → Nat) × (Nat → ClassId)} {Ls : Nat × (Nat → Int32)} {h : xH} {F : xF} {x1 x2 x3 : Int32} (I : LI Ls h F) (g3 : 0 ≤ x3.toInt ∧ x3.toInt ≤ 1) : x_ConW n0 oa D wm_hold hh_hold [.inr (.inr (7, 1)), .inl x1, .inl x2, .inl x3, .inr (.inr (21, 1))] (x_setc h 0 0) (ZW Ls F) := by
  refine cw_hold rfl rfl I.l7 (tw80 (c := x_pj h) I.vi I.g7 g3 (fun o g hp => hp)) (fun v h1 hz => ?_) (fun k h1 hz => ?_)
  · rcases hz with ⟨⟨hC, hm⟩, n, hn, -⟩ | ⟨⟨hC, hm⟩, hk⟩
    · have J := I.mq hC (x_mq_of hm)
      exact ⟨J.2.2.2.2.1, J.2.2.2.2.2.1, n, Sum.inl.inj hn, fun a b => ⟨⟨_, rfl⟩, J.setc.putl⟩⟩
    · cases hk
  · rcases hz with ⟨-, n, hn, -⟩ | ⟨⟨hC, hm⟩, hk⟩
    · cases hn
    · have J := I.mq hC (x_mq_of hm)
      exact ⟨Sum.inr.inj hk, fun a b => ⟨⟨_, rfl⟩, J.setc⟩⟩
theorem rc_hold {Ls : Nat × (Nat → Int32)} {h : xH} {F : xF} {Z : xO → xH → Prop} {x1 x2 x3 : Int32} (I : LI Ls h F) (g3 : 0 ≤ x3.toInt ∧ x3.toInt ≤ 1) (hZ : ∀ o F', MX 72 F' → (∃ v : Int32, o = .inl (some (.inl v)) ∧ (0 ≤ v.toInt ∧ v.toInt ≤ 1)) → Z o (mh (x_setc h 0 0) F')) : xC 2000000000000 131 [.inr (.inr (8, 1)), .inl x1, .inl x2, .inl x3] (x_setc h 0 0) Z := by
  have e := (I.setc (a := 0) (b := 0)).2.2.2.1
  rw [← e]
  exact (tv131 I.2.1 g3 I.2.2.1 (fun o F' hp => hZ o F' hp.1 hp.2)).up (by decide)
theorem lc_tone {n0 : Nat} {oa : Nat → Nat → Nat} {D : (Nat → ClassId) × (Nat → Nat → Nat) × (Nat → ClassId)} {Ls : Nat × (Nat → Int32)} {h : xH} {F : xF} {x1 x2 : Int32} (I : LI Ls h F) : x_ConW n0 oa D wm_tone hh_tone [.inr (.inr (7, 1)), .inl x1, .inl x2, .inr (.inr (21, 1))] (x_setc h 0 0) (ZW Ls F) := by
  refine cw_tone rfl rfl I.l7 (tw81 (c := x_pj h) I.vi I.g7 (fun o g hp => hp)) (fun v h1 hz => ?_) (fun k h1 hz => ?_)
  · rcases hz with ⟨⟨hC, hm⟩, n, hn⟩ | ⟨⟨hC, hm⟩, hk⟩
    · have J := I.mq hC (x_mq_of hm)
      exact ⟨J.2.2.2.2.1, J.2.2.2.2.2.1, n, Sum.inl.inj hn, fun a b => ⟨⟨_, rfl⟩, J.setc.putl⟩⟩
    · cases hk
  · rcases hz with ⟨-, n, hn⟩ | ⟨⟨hC, hm⟩, hk⟩
    · cases hn
    · have J := I.mq hC (x_mq_of hm)
      exact ⟨Sum.inr.inj hk, fun a b => ⟨⟨_, rfl⟩, J.setc⟩⟩
theorem rc_tone {Ls : Nat × (Nat → Int32)} {h : xH} {F : xF} {Z : xO → xH → Prop} {x1 x2 : Int32} (I : LI Ls h F) (hZ : ∀ o F', MX 72 F' → (∃ v : Int32, o = .inl (some (.inl v))) → Z o (mh (x_setc h 0 0) F')) : xC 2000000000000 132 [.inr (.inr (8, 1)), .inl x1, .inl x2] (x_setc h 0 0) Z := by
  have e := (I.setc (a := 0) (b := 0)).2.2.2.1
  rw [← e]
  exact (tv132 I.2.1 I.2.2.1 (fun o F' hp => hZ o F' hp.1 hp.2)).up (by decide)
theorem lc_rings {n0 : Nat} {oa : Nat → Nat → Nat} {D : (Nat → ClassId) × (Nat → Nat → Nat) × (Nat → ClassId)} {Ls : Nat × (Nat → Int32)} {h : xH} {F : xF} {x1 x2 : Int32} (I : LI Ls h F) : x_ConW n0 oa D wm_rings hh_rings [.inr (.inr (7, 1)), .inl x1, .inl x2, .inr (.inr (21, 1))] (x_setc h 0 0) (ZW Ls F) := by
  refine cw_rings rfl rfl I.l7 (tw82 (c := x_pj h) I.vi I.g7 (fun o g hp => hp)) (fun v h1 hz => ?_) (fun k h1 hz => ?_)
  · rcases hz with ⟨⟨hC, hm⟩, n, hn, -⟩ | ⟨⟨hC, hm⟩, hk⟩
    · have J := I.mq hC (x_mq_of hm)
      exact ⟨J.2.2.2.2.1, J.2.2.2.2.2.1, n, Sum.inl.inj hn, fun a b => ⟨⟨_, rfl⟩, J.setc.putl⟩⟩
    · cases hk
  · rcases hz with ⟨-, n, hn, -⟩ | ⟨⟨hC, hm⟩, hk⟩
    · cases hn
    · have J := I.mq hC (x_mq_of hm)
      exact ⟨Sum.inr.inj hk, fun a b => ⟨⟨_, rfl⟩, J.setc⟩⟩
theorem rc_rings {Ls : Nat × (Nat → Int32)} {h : xH} {F : xF} {Z : xO → xH → Prop} {x1 x2 : Int32} (I : LI Ls h F) (hZ : ∀ o F', MX 72 F' → (∃ v : Int32, o = .inl (some (.inl v)) ∧ (0 ≤ v.toInt ∧ v.toInt ≤ 1)) → Z o (mh (x_setc h 0 0) F')) : xC 2000000000000 133 [.inr (.inr (8, 1)), .inl x1, .inl x2] (x_setc h 0 0) Z := by
  have e := (I.setc (a := 0) (b := 0)).2.2.2.1
  rw [← e]
  exact (tv133 I.2.1 I.2.2.1 (fun o F' hp => hZ o F' hp.1 hp.2)).up (by decide)
theorem lc_talks {n0 : Nat} {oa : Nat → Nat → Nat} {D : (Nat → ClassId) × (Nat → Nat → Nat) × (Nat → ClassId)} {Ls : Nat × (Nat → Int32)} {h : xH} {F : xF} {x1 x2 : Int32} (I : LI Ls h F) : x_ConW n0 oa D wm_talks hh_talks [.inr (.inr (7, 1)), .inl x1, .inl x2, .inr (.inr (21, 1))] (x_setc h 0 0) (ZW Ls F) := by
  refine cw_talks rfl rfl I.l7 (tw83 (c := x_pj h) I.vi I.g7 (fun o g hp => hp)) (fun v h1 hz => ?_) (fun k h1 hz => ?_)
  · rcases hz with ⟨⟨hC, hm⟩, n, hn⟩ | ⟨⟨hC, hm⟩, hk⟩
    · have J := I.mq hC (x_mq_of hm)
      exact ⟨J.2.2.2.2.1, J.2.2.2.2.2.1, n, Sum.inl.inj hn, fun a b => ⟨⟨_, rfl⟩, J.setc.putl⟩⟩
    · cases hk
  · rcases hz with ⟨-, n, hn⟩ | ⟨⟨hC, hm⟩, hk⟩
    · cases hn
    · have J := I.mq hC (x_mq_of hm)
      exact ⟨Sum.inr.inj hk, fun a b => ⟨⟨_, rfl⟩, J.setc⟩⟩
theorem rc_talks {Ls : Nat × (Nat → Int32)} {h : xH} {F : xF} {Z : xO → xH → Prop} {x1 x2 : Int32} (I : LI Ls h F) (hZ : ∀ o F', MX 72 F' → (∃ v : Int32, o = .inl (some (.inl v))) → Z o (mh (x_setc h 0 0) F')) : xC 2000000000000 134 [.inr (.inr (8, 1)), .inl x1, .inl x2] (x_setc h 0 0) Z := by
  have e := (I.setc (a := 0) (b := 0)).2.2.2.1
  rw [← e]
  exact (tv134 I.2.1 I.2.2.1 (fun o F' hp => hZ o F' hp.1 hp.2)).up (by decide)
theorem lc_meter {n0 : Nat} {oa : Nat → Nat → Nat} {D : (Nat → ClassId) × (Nat → Nat → Nat) × (Nat → ClassId)} {Ls : Nat × (Nat → Int32)} {h : xH} {F : xF} {x1 x2 : Int32} (I : LI Ls h F) : x_ConW n0 oa D wm_meter hh_meter [.inr (.inr (7, 1)), .inl x1, .inl x2, .inr (.inr (21, 1))] (x_setc h 0 0) (ZW Ls F) := by
  refine cw_meter rfl rfl I.l7 (tw84 (c := x_pj h) I.vi I.g7 (fun o g hp => hp)) (fun v h1 hz => ?_) (fun k h1 hz => ?_)
  · rcases hz with ⟨⟨hC, hm⟩, n, hn⟩ | ⟨⟨hC, hm⟩, hk⟩
    · have J := I.mq hC (x_mq_of hm)
      exact ⟨J.2.2.2.2.1, J.2.2.2.2.2.1, n, Sum.inl.inj hn, fun a b => ⟨⟨_, rfl⟩, J.setc.putl⟩⟩
    · cases hk
  · rcases hz with ⟨-, n, hn⟩ | ⟨⟨hC, hm⟩, hk⟩
    · cases hn
    · have J := I.mq hC (x_mq_of hm)
      exact ⟨Sum.inr.inj hk, fun a b => ⟨⟨_, rfl⟩, J.setc⟩⟩
theorem rc_meter {Ls : Nat × (Nat → Int32)} {h : xH} {F : xF} {Z : xO → xH → Prop} {x1 x2 : Int32} (I : LI Ls h F) (hZ : ∀ o F', MX 72 F' → (∃ v : Int32, o = .inl (some (.inl v))) → Z o (mh (x_setc h 0 0) F')) : xC 2000000000000 135 [.inr (.inr (8, 1)), .inl x1, .inl x2] (x_setc h 0 0) Z := by
  have e := (I.setc (a := 0) (b := 0)).2.2.2.1
  rw [← e]
  exact (tv135 I.2.1 I.2.2.1 (fun o F' hp => hZ o F' hp.1 hp.2)).up (by decide)
theorem lc_seized {n0 : Nat} {oa : Nat → Nat → Nat} {D : (Nat → ClassId) × (Nat → Nat → Nat) × (Nat → ClassId)} {Ls : Nat × (Nat → Int32)} {h : xH} {F : xF} {x1 x2 x3 : Int32} (I : LI Ls h F) : x_ConW n0 oa D wm_seized hh_seized [.inr (.inr (7, 1)), .inl x1, .inl x2, .inl x3, .inr (.inr (21, 1))] (x_setc h 0 0) (ZW Ls F) := by
  refine cw_seized rfl rfl I.l7 (tw85 (c := x_pj h) I.vi I.g7 (fun o g hp => hp)) (fun v h1 hz => ?_) (fun k h1 hz => ?_)
  · rcases hz with ⟨⟨hC, hm⟩, n, hn⟩ | ⟨⟨hC, hm⟩, hk⟩
    · have J := I.mq hC (x_mq_of hm)
      exact ⟨J.2.2.2.2.1, J.2.2.2.2.2.1, n, Sum.inl.inj hn, fun a b => ⟨⟨_, rfl⟩, J.setc.putl⟩⟩
    · cases hk
  · rcases hz with ⟨-, n, hn⟩ | ⟨⟨hC, hm⟩, hk⟩
    · cases hn
    · have J := I.mq hC (x_mq_of hm)
      exact ⟨Sum.inr.inj hk, fun a b => ⟨⟨_, rfl⟩, J.setc⟩⟩
theorem rc_seized {Ls : Nat × (Nat → Int32)} {h : xH} {F : xF} {Z : xO → xH → Prop} {x1 x2 x3 : Int32} (I : LI Ls h F) (hZ : ∀ o F', MX 72 F' → (∃ v : Int32, o = .inl (some (.inl v))) → Z o (mh (x_setc h 0 0) F')) : xC 2000000000000 136 [.inr (.inr (8, 1)), .inl x1, .inl x2, .inl x3] (x_setc h 0 0) Z := by
  have e := (I.setc (a := 0) (b := 0)).2.2.2.1
  rw [← e]
  exact (tv136 I.2.1 I.2.2.1 (fun o F' hp => hZ o F' hp.1 hp.2)).up (by decide)
theorem lc_idle {n0 : Nat} {oa : Nat → Nat → Nat} {D : (Nat → ClassId) × (Nat → Nat → Nat) × (Nat → ClassId)} {Ls : Nat × (Nat → Int32)} {h : xH} {F : xF} {x1 x2 : Int32} (I : LI Ls h F) : x_ConW n0 oa D wm_idle hh_idle [.inr (.inr (7, 1)), .inl x1, .inl x2, .inr (.inr (21, 1))] (x_setc h 0 0) (ZW Ls F) := by
  refine cw_idle rfl rfl I.l7 (tw87 (c := x_pj h) I.vi I.g7 (fun o g hp => hp)) (fun v h1 hz => ?_) (fun k h1 hz => ?_)
  · rcases hz with ⟨⟨hC, hm⟩, n, hn⟩ | ⟨⟨hC, hm⟩, hk⟩
    · have J := I.mq hC (x_mq_of hm)
      exact ⟨J.2.2.2.2.1, J.2.2.2.2.2.1, n, Sum.inl.inj hn, fun a b => ⟨⟨_, rfl⟩, J.setc.putl⟩⟩
    · cases hk
  · rcases hz with ⟨-, n, hn⟩ | ⟨⟨hC, hm⟩, hk⟩
    · cases hn
    · have J := I.mq hC (x_mq_of hm)
      exact ⟨Sum.inr.inj hk, fun a b => ⟨⟨_, rfl⟩, J.setc⟩⟩
theorem rc_idle {Ls : Nat × (Nat → Int32)} {h : xH} {F : xF} {Z : xO → xH → Prop} {x1 x2 : Int32} (I : LI Ls h F) (hZ : ∀ o F', MX 72 F' → (∃ v : Int32, o = .inl (some (.inl v))) → Z o (mh (x_setc h 0 0) F')) : xC 2000000000000 137 [.inr (.inr (8, 1)), .inl x1, .inl x2] (x_setc h 0 0) Z := by
  have e := (I.setc (a := 0) (b := 0)).2.2.2.1
  rw [← e]
  exact (tv137 I.2.1 I.2.2.1 (fun o F' hp => hZ o F' hp.1 hp.2)).up (by decide)
theorem lc_overflow {n0 : Nat} {oa : Nat → Nat → Nat} {D : (Nat → ClassId) × (Nat → Nat → Nat) × (Nat → ClassId)} {Ls : Nat × (Nat → Int32)} {h : xH} {F : xF} {x1 x2 : Int32} (I : LI Ls h F) : x_ConW n0 oa D wm_overflow hh_overflow [.inr (.inr (7, 1)), .inl x1, .inl x2, .inr (.inr (21, 1))] (x_setc h 0 0) (ZW Ls F) := by
  refine cw_overflow rfl rfl I.l7 (tw88 (c := x_pj h) I.vi I.g7 (fun o g hp => hp)) (fun v h1 hz => ?_) (fun k h1 hz => ?_)
  · rcases hz with ⟨⟨hC, hm⟩, n, hn⟩ | ⟨⟨hC, hm⟩, hk⟩
    · have J := I.mq hC (x_mq_of hm)
      exact ⟨J.2.2.2.2.1, J.2.2.2.2.2.1, n, Sum.inl.inj hn, fun a b => ⟨⟨_, rfl⟩, J.setc.putl⟩⟩
    · cases hk
  · rcases hz with ⟨-, n, hn⟩ | ⟨⟨hC, hm⟩, hk⟩
    · cases hn
    · have J := I.mq hC (x_mq_of hm)
      exact ⟨Sum.inr.inj hk, fun a b => ⟨⟨_, rfl⟩, J.setc⟩⟩
theorem rc_overflow {Ls : Nat × (Nat → Int32)} {h : xH} {F : xF} {Z : xO → xH → Prop} {x1 x2 : Int32} (I : LI Ls h F) (hZ : ∀ o F', MX 72 F' → (∃ v : Int32, o = .inl (some (.inl v))) → Z o (mh (x_setc h 0 0) F')) : xC 2000000000000 138 [.inr (.inr (8, 1)), .inl x1, .inl x2] (x_setc h 0 0) Z := by
  have e := (I.setc (a := 0) (b := 0)).2.2.2.1
  rw [← e]
  exact (tv138 I.2.1 I.2.2.1 (fun o F' hp => hZ o F' hp.1 hp.2)).up (by decide)
theorem rc_thrown {Ls : Nat × (Nat → Int32)} {h : xH} {F : xF} {Z : xO → xH → Prop} (I : LI Ls h F) (hZ : Z (.inl (some (.inl (F 8 0)))) (mh (x_setc h 0 0) F)) : xC 2000000000000 90 [.inr (.inr (8, 1))] (x_setc h 0 0) Z := by
  have e := (I.setc (a := 0) (b := 0)).2.2.2.1
  rw [← e]
  refine (tv90 I.2.1 (fun o F' hp => ?_)).up (by decide)
  obtain ⟨rfl, v, rfl, rfl⟩ := hp
  exact hZ
