/-! THE LAW'S CALLERS, one by one (printed by gen_law.py) -/
theorem xC.con {n μ : Nat} {a : List xV} {h : xH} {Z : xO → xH → Prop} (H : xC n μ a h Z) (n0 : Nat) (oa : Nat → Nat → Nat) (D : (Nat → ClassId) × (Nat → Nat → Nat) × (Nat → ClassId)) : x_Con n0 oa D (x_xm μ) a h Z := x_con_of (x_okMs μ) H.1 H.2.1 H.2.2.1 (fun p l e R s m args below meth c C => x_main x_okMs x_hcd n μ 0 _ Z H.2.2.2 n0 oa D p l e R s m args below meth c h C)
theorem wl_55 : Cond.initialized RX7 ∈ x_big := x_tb 55 (by decide +kernel) (by decide +kernel)
theorem wl_260 : Cond.classLink RL 13 (x_en 1) ∈ x_big := x_tb 260 (by decide +kernel) (by decide +kernel)
theorem wl_261 : Cond.classLink RL 15 (x_en 2) ∈ x_big := x_tb 261 (by decide +kernel) (by decide +kernel)
theorem wl_262 : Cond.methodLink RL 7 yX7_trunk ∈ x_big := x_tb 262 (by decide +kernel) (by decide +kernel)
theorem wl_263 : Cond.instanceMethod yX7_trunk ∈ x_big := x_tb 263 (by decide +kernel) (by decide +kernel)
theorem wl_264 : Cond.selects RX7 yX7_trunk yX7_trunk ∈ x_big := x_tb 264 (by decide +kernel) (by decide +kernel)
theorem wl_265 : Cond.code yX7_trunk cX7_trunk 3 (some .int) ∈ x_big := x_tb 265 (by decide +kernel) (by decide +kernel)
theorem wl_378 : Cond.methodLink RL 17 yX7_route ∈ x_big := x_tb 378 (by decide +kernel) (by decide +kernel)
theorem wl_379 : Cond.instanceMethod yX7_route ∈ x_big := x_tb 379 (by decide +kernel) (by decide +kernel)
theorem wl_380 : Cond.selects RX7 yX7_route yX7_route ∈ x_big := x_tb 380 (by decide +kernel) (by decide +kernel)
theorem wl_381 : Cond.code yX7_route cX7_route 8 (some .int) ∈ x_big := x_tb 381 (by decide +kernel) (by decide +kernel)
theorem wl_457 : Cond.methodLink RL 21 yX7_hunt ∈ x_big := x_tb 457 (by decide +kernel) (by decide +kernel)
theorem wl_458 : Cond.instanceMethod yX7_hunt ∈ x_big := x_tb 458 (by decide +kernel) (by decide +kernel)
theorem wl_459 : Cond.selects RX7 yX7_hunt yX7_hunt ∈ x_big := x_tb 459 (by decide +kernel) (by decide +kernel)
theorem wl_460 : Cond.code yX7_hunt cX7_hunt 5 (some .int) ∈ x_big := x_tb 460 (by decide +kernel) (by decide +kernel)
theorem wl_472 : Cond.methodLink RL 25 yX7_lift ∈ x_big := x_tb 472 (by decide +kernel) (by decide +kernel)
theorem wl_473 : Cond.instanceMethod yX7_lift ∈ x_big := x_tb 473 (by decide +kernel) (by decide +kernel)
theorem wl_474 : Cond.selects RX7 yX7_lift yX7_lift ∈ x_big := x_tb 474 (by decide +kernel) (by decide +kernel)
theorem wl_475 : Cond.code yX7_lift cX7_lift 5 none ∈ x_big := x_tb 475 (by decide +kernel) (by decide +kernel)
theorem wl_537 : Cond.methodLink RL 29 yX7_hang ∈ x_big := x_tb 537 (by decide +kernel) (by decide +kernel)
theorem wl_538 : Cond.instanceMethod yX7_hang ∈ x_big := x_tb 538 (by decide +kernel) (by decide +kernel)
theorem wl_539 : Cond.selects RX7 yX7_hang yX7_hang ∈ x_big := x_tb 539 (by decide +kernel) (by decide +kernel)
theorem wl_540 : Cond.code yX7_hang cX7_hang 5 none ∈ x_big := x_tb 540 (by decide +kernel) (by decide +kernel)
theorem wl_565 : Cond.methodLink RL 32 yX7_dial ∈ x_big := x_tb 565 (by decide +kernel) (by decide +kernel)
theorem wl_566 : Cond.instanceMethod yX7_dial ∈ x_big := x_tb 566 (by decide +kernel) (by decide +kernel)
theorem wl_567 : Cond.selects RX7 yX7_dial yX7_dial ∈ x_big := x_tb 567 (by decide +kernel) (by decide +kernel)
theorem wl_568 : Cond.code yX7_dial cX7_dial 6 (some .boolean) ∈ x_big := x_tb 568 (by decide +kernel) (by decide +kernel)
theorem wl_592 : Cond.methodLink RL 36 yX7_tick ∈ x_big := x_tb 592 (by decide +kernel) (by decide +kernel)
theorem wl_593 : Cond.instanceMethod yX7_tick ∈ x_big := x_tb 593 (by decide +kernel) (by decide +kernel)
theorem wl_594 : Cond.selects RX7 yX7_tick yX7_tick ∈ x_big := x_tb 594 (by decide +kernel) (by decide +kernel)
theorem wl_595 : Cond.code yX7_tick cX7_tick 4 none ∈ x_big := x_tb 595 (by decide +kernel) (by decide +kernel)
theorem wl_708 : Cond.methodLink RL 40 yX7_out ∈ x_big := x_tb 708 (by decide +kernel) (by decide +kernel)
theorem wl_709 : Cond.instanceMethod yX7_out ∈ x_big := x_tb 709 (by decide +kernel) (by decide +kernel)
theorem wl_710 : Cond.selects RX7 yX7_out yX7_out ∈ x_big := x_tb 710 (by decide +kernel) (by decide +kernel)
theorem wl_711 : Cond.code yX7_out cX7_out 5 (some .boolean) ∈ x_big := x_tb 711 (by decide +kernel) (by decide +kernel)
theorem wl_715 : Cond.methodLink RL 44 yX7_hold ∈ x_big := x_tb 715 (by decide +kernel) (by decide +kernel)
theorem wl_716 : Cond.instanceMethod yX7_hold ∈ x_big := x_tb 716 (by decide +kernel) (by decide +kernel)
theorem wl_717 : Cond.selects RX7 yX7_hold yX7_hold ∈ x_big := x_tb 717 (by decide +kernel) (by decide +kernel)
theorem wl_718 : Cond.code yX7_hold cX7_hold 6 (some .boolean) ∈ x_big := x_tb 718 (by decide +kernel) (by decide +kernel)
theorem wl_722 : Cond.methodLink RL 48 yX7_tone ∈ x_big := x_tb 722 (by decide +kernel) (by decide +kernel)
theorem wl_723 : Cond.instanceMethod yX7_tone ∈ x_big := x_tb 723 (by decide +kernel) (by decide +kernel)
theorem wl_724 : Cond.selects RX7 yX7_tone yX7_tone ∈ x_big := x_tb 724 (by decide +kernel) (by decide +kernel)
theorem wl_725 : Cond.code yX7_tone cX7_tone 3 (some .int) ∈ x_big := x_tb 725 (by decide +kernel) (by decide +kernel)
theorem wl_729 : Cond.methodLink RL 51 yX7_rings ∈ x_big := x_tb 729 (by decide +kernel) (by decide +kernel)
theorem wl_730 : Cond.instanceMethod yX7_rings ∈ x_big := x_tb 730 (by decide +kernel) (by decide +kernel)
theorem wl_731 : Cond.selects RX7 yX7_rings yX7_rings ∈ x_big := x_tb 731 (by decide +kernel) (by decide +kernel)
theorem wl_732 : Cond.code yX7_rings cX7_rings 5 (some .boolean) ∈ x_big := x_tb 732 (by decide +kernel) (by decide +kernel)
theorem wl_736 : Cond.methodLink RL 55 yX7_talks ∈ x_big := x_tb 736 (by decide +kernel) (by decide +kernel)
theorem wl_737 : Cond.instanceMethod yX7_talks ∈ x_big := x_tb 737 (by decide +kernel) (by decide +kernel)
theorem wl_738 : Cond.selects RX7 yX7_talks yX7_talks ∈ x_big := x_tb 738 (by decide +kernel) (by decide +kernel)
theorem wl_739 : Cond.code yX7_talks cX7_talks 5 (some .int) ∈ x_big := x_tb 739 (by decide +kernel) (by decide +kernel)
theorem wl_743 : Cond.methodLink RL 58 yX7_meter ∈ x_big := x_tb 743 (by decide +kernel) (by decide +kernel)
theorem wl_744 : Cond.instanceMethod yX7_meter ∈ x_big := x_tb 744 (by decide +kernel) (by decide +kernel)
theorem wl_745 : Cond.selects RX7 yX7_meter yX7_meter ∈ x_big := x_tb 745 (by decide +kernel) (by decide +kernel)
theorem wl_746 : Cond.code yX7_meter cX7_meter 3 (some .int) ∈ x_big := x_tb 746 (by decide +kernel) (by decide +kernel)
theorem wl_750 : Cond.methodLink RL 61 yX7_seized ∈ x_big := x_tb 750 (by decide +kernel) (by decide +kernel)
theorem wl_751 : Cond.instanceMethod yX7_seized ∈ x_big := x_tb 751 (by decide +kernel) (by decide +kernel)
theorem wl_752 : Cond.selects RX7 yX7_seized yX7_seized ∈ x_big := x_tb 752 (by decide +kernel) (by decide +kernel)
theorem wl_753 : Cond.code yX7_seized cX7_seized 6 (some .int) ∈ x_big := x_tb 753 (by decide +kernel) (by decide +kernel)
theorem wl_757 : Cond.methodLink RL 64 yX7_idle ∈ x_big := x_tb 757 (by decide +kernel) (by decide +kernel)
theorem wl_758 : Cond.instanceMethod yX7_idle ∈ x_big := x_tb 758 (by decide +kernel) (by decide +kernel)
theorem wl_759 : Cond.selects RX7 yX7_idle yX7_idle ∈ x_big := x_tb 759 (by decide +kernel) (by decide +kernel)
theorem wl_760 : Cond.code yX7_idle cX7_idle 4 (some .int) ∈ x_big := x_tb 760 (by decide +kernel) (by decide +kernel)
theorem wl_772 : Cond.methodLink RL 67 yX7_overflow ∈ x_big := x_tb 772 (by decide +kernel) (by decide +kernel)
theorem wl_773 : Cond.instanceMethod yX7_overflow ∈ x_big := x_tb 773 (by decide +kernel) (by decide +kernel)
theorem wl_774 : Cond.selects RX7 yX7_overflow yX7_overflow ∈ x_big := x_tb 774 (by decide +kernel) (by decide +kernel)
theorem wl_775 : Cond.code yX7_overflow cX7_overflow 3 (some .int) ∈ x_big := x_tb 775 (by decide +kernel) (by decide +kernel)
def hh_trunk : List (Nat × Nat × Nat × Nat) := [(0, 10, 13, 13), (0, 10, 17, 15)]
def wm_trunk : xM := (yL_trunk, cL_trunk, 5, some .int, RL, 8, 131, 3, 16, false)
def hh_route : List (Nat × Nat × Nat × Nat) := [(0, 16, 19, 13), (0, 16, 23, 15)]
def wm_route : xM := (yL_route, cL_route, 8, some .int, RL, 8, 136, 7, 55, false)
def hh_hunt : List (Nat × Nat × Nat × Nat) := [(0, 12, 15, 13), (0, 12, 19, 15)]
def wm_hunt : xM := (yL_hunt, cL_hunt, 6, some .int, RL, 8, 133, 2, 12, false)
def hh_lift : List (Nat × Nat × Nat × Nat) := [(0, 6, 9, 13), (0, 6, 12, 15)]
def wm_lift : xM := (yL_lift, cL_lift, 4, some .int, RL, 9, 155, 2, 12, false)
def hh_hang : List (Nat × Nat × Nat × Nat) := [(0, 6, 9, 13), (0, 6, 12, 15)]
def wm_hang : xM := (yL_hang, cL_hang, 4, some .int, RL, 9, 155, 2, 12, false)
def hh_dial : List (Nat × Nat × Nat × Nat) := [(0, 19, 22, 13), (0, 19, 26, 15)]
def wm_dial : xM := (yL_dial, cL_dial, 6, some .int, RL, 9, 156, 3, 18, false)
def hh_tick : List (Nat × Nat × Nat × Nat) := [(0, 5, 8, 13)]
def wm_tick : xM := (yL_tick, cL_tick, 3, some .int, RL, 8, 168, 1, 6, false)
def hh_out : List (Nat × Nat × Nat × Nat) := [(0, 17, 20, 13)]
def wm_out : xM := (yL_out, cL_out, 5, some .int, RL, 8, 133, 1, 6, false)
def hh_hold : List (Nat × Nat × Nat × Nat) := [(0, 19, 22, 13)]
def wm_hold : xM := (yL_hold, cL_hold, 6, some .int, RL, 9, 156, 1, 6, false)
def hh_tone : List (Nat × Nat × Nat × Nat) := [(0, 10, 13, 13)]
def wm_tone : xM := (yL_tone, cL_tone, 5, some .int, RL, 9, 153, 1, 6, false)
def hh_rings : List (Nat × Nat × Nat × Nat) := [(0, 17, 20, 13)]
def wm_rings : xM := (yL_rings, cL_rings, 5, some .int, RL, 9, 155, 1, 6, false)
def hh_talks : List (Nat × Nat × Nat × Nat) := [(0, 10, 13, 13)]
def wm_talks : xM := (yL_talks, cL_talks, 5, some .int, RL, 9, 155, 1, 6, false)
def hh_meter : List (Nat × Nat × Nat × Nat) := [(0, 10, 13, 13)]
def wm_meter : xM := (yL_meter, cL_meter, 5, some .int, RL, 9, 153, 1, 6, false)
def hh_seized : List (Nat × Nat × Nat × Nat) := [(0, 12, 15, 13)]
def wm_seized : xM := (yL_seized, cL_seized, 6, some .int, RL, 9, 156, 2, 12, false)
def hh_idle : List (Nat × Nat × Nat × Nat) := [(0, 10, 13, 13)]
def wm_idle : xM := (yL_idle, cL_idle, 5, some .int, RL, 8, 132, 2, 12, false)
def hh_overflow : List (Nat × Nat × Nat × Nat) := [(0, 10, 13, 13)]
def wm_overflow : xM := (yL_overflow, cL_overflow, 5, some .int, RL, 8, 131, 1, 6, false)
theorem cw_trunk {n0 : Nat} {oa : Nat → Nat → Nat} {D : (Nat → ClassId) × (Nat → Nat → Nat) × (Nat → ClassId)} {h : xH} {Z Zc : xO → xH → Prop} {N : Nat} {x1 x2 : Int32} (hc0 : x_ce h = 0) (hs0 : x_so h = 0) (h7 : x_live h 7 1) (hcon : xC N 47 [.inr (.inr (7, 1)), .inl x1, .inl x2] (x_setc h 0 0) Zc)
    (hq : ∀ v h1, Zc (.inl v) h1 → x_cn h1 21 = 1 ∧ x_ln h1 21 1 = 1 ∧ ∃ n : Int32, v = some (.inl n) ∧ ∀ a b, Z (.inl (some (.inl 0))) (x_putl (x_setc h1 a b) n.toInt64)) (hk : ∀ k h1, Zc (.inr k) h1 → ∀ a b, Z (.inl (some (.inl (if k = 1 then 1 else 2)))) (x_setc h1 a b)) : x_ConW n0 oa D wm_trunk hh_trunk [.inr (.inr (7, 1)), .inl x1, .inl x2, .inr (.inr (21, 1))] h Z := by
  refine x_conW_of (M := wm_trunk) ⟨by decide, rfl, fun q => by cases q⟩ rfl hc0 hs0 (fun p l e R s m args below meth c C => ?_)
  have hx := C.1
  have hb := C.2.1
  show x_At n0 oa D p l e R s m args below meth c wm_trunk h (x_MQ n0 oa D s args below wm_trunk h Z) 0 ([.inr (.inr (7, 1)), .inl x1, .inl x2, .inr (.inr (21, 1)), .inr (.inr (0, 0))], [], h)
  refine a_aload_n hx hb (k := 3) (by decide +kernel) rfl rfl (by decide) ?_
  refine a_iconst hx hb (n := 0) (v := 0) (by decide +kernel) rfl ?_
  refine a_aload_n hx hb (k := 0) (by decide +kernel) rfl rfl (by decide) ?_
  refine a_iload_n hx hb (k := 1) (by decide +kernel) rfl rfl ?_
  refine a_iload_n hx hb (k := 2) (by decide +kernel) rfl rfl ?_
  refine a_callc (Z := Z) (Zc := Zc) (M' := xm_47) (as9 := [.inl x1, .inl x2]) (rest := [.inl 0, .inr (.inr (21, 1))]) C rfl (show x_Con n0 oa D xm_47 _ _ _ from hcon.con n0 oa D) h7 wl_265 wl_262 wl_263 wl_55 wl_264 (by show _ ≠ _ ∧ _ ≠ _ ∧ _ = some 2; decide +kernel) (Nat.le_of_ble_eq_true rfl) (Nat.le_of_ble_eq_true rfl) (by decide +kernel) (Nat.le_of_ble_eq_true rfl) (by rw [hc0]; exact (Nat.le_of_ble_eq_true rfl)) (by rw [hs0]; exact (Nat.le_of_ble_eq_true rfl)) (fun v h1 hz0 => ?_) (fun k h1 hz0 => ?_)
  · obtain ⟨c1, c2, n, rfl, hz⟩ := hq v h1 hz0
    refine a_i2l hx hb (by decide +kernel) ?_
    refine a_last hx hb C.2.2.2.2.2.2.2.2.1 c1 c2 rfl (by decide +kernel) ?_
    refine a_goto hx hb (off := 11) (a := 21) (by decide +kernel) (by decide) ?_
    refine a_iconst hx hb (n := 0) (v := 0) (by decide +kernel) rfl ?_
    exact a_iret C rfl (by decide +kernel) (hz _ _)
  · have hz := hk k h1 hz0
    by_cases e9 : k = 1
    · subst e9
      exact ⟨1, ⟨[], ⟨0, 10, 13, 13⟩, [⟨0, 10, 17, 15⟩], 4, 2, rfl, (fun z hz9 => nomatch hz9), by decide, by decide, wl_260, by decide, Or.inl ⟨(by decide +kernel), rfl⟩, (by decide +kernel), (by decide +kernel)⟩, hz _ _⟩
    · rw [if_neg e9] at hz
      have ek : x_en k = x_en 2 := by unfold x_en; rw [if_neg e9, if_neg (by decide)]
      exact ⟨2, ⟨[⟨0, 10, 13, 13⟩], ⟨0, 10, 17, 15⟩, [], 4, 2, rfl, (fun z hz9 => by rw [List.mem_singleton.mp hz9]; exact Or.inr ⟨by decide, x_en 1, wl_260, by rw [ek]; exact C.2.2.2.2.2.2.2.2.2.2.2.2.2⟩), by decide, by decide, (by rw [ek]; exact wl_261), by decide, Or.inl ⟨(by decide +kernel), rfl⟩, (by decide +kernel), (by decide +kernel)⟩, hz _ _⟩
theorem cw_route {n0 : Nat} {oa : Nat → Nat → Nat} {D : (Nat → ClassId) × (Nat → Nat → Nat) × (Nat → ClassId)} {h : xH} {Z Zc : xO → xH → Prop} {N : Nat} {x1 x2 x3 x4 x5 : Int32} (hc0 : x_ce h = 0) (hs0 : x_so h = 0) (h7 : x_live h 7 1) (hcon : xC N 49 [.inr (.inr (7, 1)), .inl x1, .inl x2, .inl x3, .inl x4, .inl x5] (x_setc h 0 0) Zc)
    (hq : ∀ v h1, Zc (.inl v) h1 → x_cn h1 21 = 1 ∧ x_ln h1 21 1 = 1 ∧ ∃ n : Int32, v = some (.inl n) ∧ ∀ a b, Z (.inl (some (.inl 0))) (x_putl (x_setc h1 a b) n.toInt64)) (hk : ∀ k h1, Zc (.inr k) h1 → ∀ a b, Z (.inl (some (.inl (if k = 1 then 1 else 2)))) (x_setc h1 a b)) : x_ConW n0 oa D wm_route hh_route [.inr (.inr (7, 1)), .inl x1, .inl x2, .inl x3, .inl x4, .inl x5, .inr (.inr (21, 1))] h Z := by
  refine x_conW_of (M := wm_route) ⟨by decide, rfl, fun q => by cases q⟩ rfl hc0 hs0 (fun p l e R s m args below meth c C => ?_)
  have hx := C.1
  have hb := C.2.1
  show x_At n0 oa D p l e R s m args below meth c wm_route h (x_MQ n0 oa D s args below wm_route h Z) 0 ([.inr (.inr (7, 1)), .inl x1, .inl x2, .inl x3, .inl x4, .inl x5, .inr (.inr (21, 1)), .inr (.inr (0, 0))], [], h)
  refine a_aload hx hb (a := 6) (by decide +kernel) rfl (by decide) ?_
  refine a_iconst hx hb (n := 0) (v := 0) (by decide +kernel) rfl ?_
  refine a_aload_n hx hb (k := 0) (by decide +kernel) rfl rfl (by decide) ?_
  refine a_iload_n hx hb (k := 1) (by decide +kernel) rfl rfl ?_
  refine a_iload_n hx hb (k := 2) (by decide +kernel) rfl rfl ?_
  refine a_iload_n hx hb (k := 3) (by decide +kernel) rfl rfl ?_
  refine a_iload hx hb (a := 4) (by decide +kernel) rfl ?_
  refine a_iload hx hb (a := 5) (by decide +kernel) rfl ?_
  refine a_callc (Z := Z) (Zc := Zc) (M' := xm_49) (as9 := [.inl x1, .inl x2, .inl x3, .inl x4, .inl x5]) (rest := [.inl 0, .inr (.inr (21, 1))]) C rfl (show x_Con n0 oa D xm_49 _ _ _ from hcon.con n0 oa D) h7 wl_381 wl_378 wl_379 wl_55 wl_380 (by show _ ≠ _ ∧ _ ≠ _ ∧ _ = some 5; decide +kernel) (Nat.le_of_ble_eq_true rfl) (Nat.le_of_ble_eq_true rfl) (by decide +kernel) (Nat.le_of_ble_eq_true rfl) (by rw [hc0]; exact (Nat.le_of_ble_eq_true rfl)) (by rw [hs0]; exact (Nat.le_of_ble_eq_true rfl)) (fun v h1 hz0 => ?_) (fun k h1 hz0 => ?_)
  · obtain ⟨c1, c2, n, rfl, hz⟩ := hq v h1 hz0
    refine a_i2l hx hb (by decide +kernel) ?_
    refine a_last hx hb C.2.2.2.2.2.2.2.2.1 c1 c2 rfl (by decide +kernel) ?_
    refine a_goto hx hb (off := 11) (a := 27) (by decide +kernel) (by decide) ?_
    refine a_iconst hx hb (n := 0) (v := 0) (by decide +kernel) rfl ?_
    exact a_iret C rfl (by decide +kernel) (hz _ _)
  · have hz := hk k h1 hz0
    by_cases e9 : k = 1
    · subst e9
      exact ⟨1, ⟨[], ⟨0, 16, 19, 13⟩, [⟨0, 16, 23, 15⟩], 7, 2, rfl, (fun z hz9 => nomatch hz9), by decide, by decide, wl_260, by decide, Or.inl ⟨(by decide +kernel), rfl⟩, (by decide +kernel), (by decide +kernel)⟩, hz _ _⟩
    · rw [if_neg e9] at hz
      have ek : x_en k = x_en 2 := by unfold x_en; rw [if_neg e9, if_neg (by decide)]
      exact ⟨2, ⟨[⟨0, 16, 19, 13⟩], ⟨0, 16, 23, 15⟩, [], 7, 2, rfl, (fun z hz9 => by rw [List.mem_singleton.mp hz9]; exact Or.inr ⟨by decide, x_en 1, wl_260, by rw [ek]; exact C.2.2.2.2.2.2.2.2.2.2.2.2.2⟩), by decide, by decide, (by rw [ek]; exact wl_261), by decide, Or.inl ⟨(by decide +kernel), rfl⟩, (by decide +kernel), (by decide +kernel)⟩, hz _ _⟩
theorem cw_hunt {n0 : Nat} {oa : Nat → Nat → Nat} {D : (Nat → ClassId) × (Nat → Nat → Nat) × (Nat → ClassId)} {h : xH} {Z Zc : xO → xH → Prop} {N : Nat} {x1 x2 x3 : Int32} (hc0 : x_ce h = 0) (hs0 : x_so h = 0) (h7 : x_live h 7 1) (hcon : xC N 50 [.inr (.inr (7, 1)), .inl x1, .inl x2, .inl x3] (x_setc h 0 0) Zc)
    (hq : ∀ v h1, Zc (.inl v) h1 → x_cn h1 21 = 1 ∧ x_ln h1 21 1 = 1 ∧ ∃ n : Int32, v = some (.inl n) ∧ ∀ a b, Z (.inl (some (.inl 0))) (x_putl (x_setc h1 a b) n.toInt64)) (hk : ∀ k h1, Zc (.inr k) h1 → ∀ a b, Z (.inl (some (.inl (if k = 1 then 1 else 2)))) (x_setc h1 a b)) : x_ConW n0 oa D wm_hunt hh_hunt [.inr (.inr (7, 1)), .inl x1, .inl x2, .inl x3, .inr (.inr (21, 1))] h Z := by
  refine x_conW_of (M := wm_hunt) ⟨by decide, rfl, fun q => by cases q⟩ rfl hc0 hs0 (fun p l e R s m args below meth c C => ?_)
  have hx := C.1
  have hb := C.2.1
  show x_At n0 oa D p l e R s m args below meth c wm_hunt h (x_MQ n0 oa D s args below wm_hunt h Z) 0 ([.inr (.inr (7, 1)), .inl x1, .inl x2, .inl x3, .inr (.inr (21, 1)), .inr (.inr (0, 0))], [], h)
  refine a_aload hx hb (a := 4) (by decide +kernel) rfl (by decide) ?_
  refine a_iconst hx hb (n := 0) (v := 0) (by decide +kernel) rfl ?_
  refine a_aload_n hx hb (k := 0) (by decide +kernel) rfl rfl (by decide) ?_
  refine a_iload_n hx hb (k := 1) (by decide +kernel) rfl rfl ?_
  refine a_iload_n hx hb (k := 2) (by decide +kernel) rfl rfl ?_
  refine a_iload_n hx hb (k := 3) (by decide +kernel) rfl rfl ?_
  refine a_callc (Z := Z) (Zc := Zc) (M' := xm_50) (as9 := [.inl x1, .inl x2, .inl x3]) (rest := [.inl 0, .inr (.inr (21, 1))]) C rfl (show x_Con n0 oa D xm_50 _ _ _ from hcon.con n0 oa D) h7 wl_460 wl_457 wl_458 wl_55 wl_459 (by show _ ≠ _ ∧ _ ≠ _ ∧ _ = some 3; decide +kernel) (Nat.le_of_ble_eq_true rfl) (Nat.le_of_ble_eq_true rfl) (by decide +kernel) (Nat.le_of_ble_eq_true rfl) (by rw [hc0]; exact (Nat.le_of_ble_eq_true rfl)) (by rw [hs0]; exact (Nat.le_of_ble_eq_true rfl)) (fun v h1 hz0 => ?_) (fun k h1 hz0 => ?_)
  · obtain ⟨c1, c2, n, rfl, hz⟩ := hq v h1 hz0
    refine a_i2l hx hb (by decide +kernel) ?_
    refine a_last hx hb C.2.2.2.2.2.2.2.2.1 c1 c2 rfl (by decide +kernel) ?_
    refine a_goto hx hb (off := 11) (a := 23) (by decide +kernel) (by decide) ?_
    refine a_iconst hx hb (n := 0) (v := 0) (by decide +kernel) rfl ?_
    exact a_iret C rfl (by decide +kernel) (hz _ _)
  · have hz := hk k h1 hz0
    by_cases e9 : k = 1
    · subst e9
      exact ⟨1, ⟨[], ⟨0, 12, 15, 13⟩, [⟨0, 12, 19, 15⟩], 5, 2, rfl, (fun z hz9 => nomatch hz9), by decide, by decide, wl_260, by decide, Or.inl ⟨(by decide +kernel), rfl⟩, (by decide +kernel), (by decide +kernel)⟩, hz _ _⟩
    · rw [if_neg e9] at hz
      have ek : x_en k = x_en 2 := by unfold x_en; rw [if_neg e9, if_neg (by decide)]
      exact ⟨2, ⟨[⟨0, 12, 15, 13⟩], ⟨0, 12, 19, 15⟩, [], 5, 2, rfl, (fun z hz9 => by rw [List.mem_singleton.mp hz9]; exact Or.inr ⟨by decide, x_en 1, wl_260, by rw [ek]; exact C.2.2.2.2.2.2.2.2.2.2.2.2.2⟩), by decide, by decide, (by rw [ek]; exact wl_261), by decide, Or.inl ⟨(by decide +kernel), rfl⟩, (by decide +kernel), (by decide +kernel)⟩, hz _ _⟩
theorem cw_lift {n0 : Nat} {oa : Nat → Nat → Nat} {D : (Nat → ClassId) × (Nat → Nat → Nat) × (Nat → ClassId)} {h : xH} {Z Zc : xO → xH → Prop} {N : Nat} {x1 x2 : Int32} (hc0 : x_ce h = 0) (hs0 : x_so h = 0) (h7 : x_live h 7 1) (hcon : xC N 58 [.inr (.inr (7, 1)), .inl x1, .inl x2] (x_setc h 0 0) Zc)
    (hq : ∀ v h1, Zc (.inl v) h1 → v = none ∧ ∀ a b, Z (.inl (some (.inl 0))) (x_setc h1 a b)) (hk : ∀ k h1, Zc (.inr k) h1 → ∀ a b, Z (.inl (some (.inl (if k = 1 then 1 else 2)))) (x_setc h1 a b)) : x_ConW n0 oa D wm_lift hh_lift [.inr (.inr (7, 1)), .inl x1, .inl x2] h Z := by
  refine x_conW_of (M := wm_lift) ⟨by decide, rfl, fun q => by cases q⟩ rfl hc0 hs0 (fun p l e R s m args below meth c C => ?_)
  have hx := C.1
  have hb := C.2.1
  show x_At n0 oa D p l e R s m args below meth c wm_lift h (x_MQ n0 oa D s args below wm_lift h Z) 0 ([.inr (.inr (7, 1)), .inl x1, .inl x2, .inr (.inr (0, 0))], [], h)
  refine a_aload_n hx hb (k := 0) (by decide +kernel) rfl rfl (by decide) ?_
  refine a_iload_n hx hb (k := 1) (by decide +kernel) rfl rfl ?_
  refine a_iload_n hx hb (k := 2) (by decide +kernel) rfl rfl ?_
  refine a_callc (Z := Z) (Zc := Zc) (M' := xm_58) (as9 := [.inl x1, .inl x2]) (rest := []) C rfl (show x_Con n0 oa D xm_58 _ _ _ from hcon.con n0 oa D) h7 wl_475 wl_472 wl_473 wl_55 wl_474 (by show _ ≠ _ ∧ _ ≠ _ ∧ _ = some 2; decide +kernel) (Nat.le_of_ble_eq_true rfl) (Nat.le_of_ble_eq_true rfl) (by decide +kernel) (Nat.le_of_ble_eq_true rfl) (by rw [hc0]; exact (Nat.le_of_ble_eq_true rfl)) (by rw [hs0]; exact (Nat.le_of_ble_eq_true rfl)) (fun v h1 hz0 => ?_) (fun k h1 hz0 => ?_)
  · obtain ⟨rfl, hz⟩ := hq v h1 hz0
    refine a_goto hx hb (off := 9) (a := 15) (by decide +kernel) (by decide) ?_
    refine a_iconst hx hb (n := 0) (v := 0) (by decide +kernel) rfl ?_
    exact a_iret C rfl (by decide +kernel) (hz _ _)
  · have hz := hk k h1 hz0
    by_cases e9 : k = 1
    · subst e9
      exact ⟨1, ⟨[], ⟨0, 6, 9, 13⟩, [⟨0, 6, 12, 15⟩], 3, 1, rfl, (fun z hz9 => nomatch hz9), by decide, by decide, wl_260, by decide, Or.inr ⟨3, rfl, (by decide +kernel), rfl⟩, (by decide +kernel), (by decide +kernel)⟩, hz _ _⟩
    · rw [if_neg e9] at hz
      have ek : x_en k = x_en 2 := by unfold x_en; rw [if_neg e9, if_neg (by decide)]
      exact ⟨2, ⟨[⟨0, 6, 9, 13⟩], ⟨0, 6, 12, 15⟩, [], 3, 1, rfl, (fun z hz9 => by rw [List.mem_singleton.mp hz9]; exact Or.inr ⟨by decide, x_en 1, wl_260, by rw [ek]; exact C.2.2.2.2.2.2.2.2.2.2.2.2.2⟩), by decide, by decide, (by rw [ek]; exact wl_261), by decide, Or.inr ⟨3, rfl, (by decide +kernel), rfl⟩, (by decide +kernel), (by decide +kernel)⟩, hz _ _⟩
theorem cw_hang {n0 : Nat} {oa : Nat → Nat → Nat} {D : (Nat → ClassId) × (Nat → Nat → Nat) × (Nat → ClassId)} {h : xH} {Z Zc : xO → xH → Prop} {N : Nat} {x1 x2 : Int32} (hc0 : x_ce h = 0) (hs0 : x_so h = 0) (h7 : x_live h 7 1) (hcon : xC N 60 [.inr (.inr (7, 1)), .inl x1, .inl x2] (x_setc h 0 0) Zc)
    (hq : ∀ v h1, Zc (.inl v) h1 → v = none ∧ ∀ a b, Z (.inl (some (.inl 0))) (x_setc h1 a b)) (hk : ∀ k h1, Zc (.inr k) h1 → ∀ a b, Z (.inl (some (.inl (if k = 1 then 1 else 2)))) (x_setc h1 a b)) : x_ConW n0 oa D wm_hang hh_hang [.inr (.inr (7, 1)), .inl x1, .inl x2] h Z := by
  refine x_conW_of (M := wm_hang) ⟨by decide, rfl, fun q => by cases q⟩ rfl hc0 hs0 (fun p l e R s m args below meth c C => ?_)
  have hx := C.1
  have hb := C.2.1
  show x_At n0 oa D p l e R s m args below meth c wm_hang h (x_MQ n0 oa D s args below wm_hang h Z) 0 ([.inr (.inr (7, 1)), .inl x1, .inl x2, .inr (.inr (0, 0))], [], h)
  refine a_aload_n hx hb (k := 0) (by decide +kernel) rfl rfl (by decide) ?_
  refine a_iload_n hx hb (k := 1) (by decide +kernel) rfl rfl ?_
  refine a_iload_n hx hb (k := 2) (by decide +kernel) rfl rfl ?_
  refine a_callc (Z := Z) (Zc := Zc) (M' := xm_60) (as9 := [.inl x1, .inl x2]) (rest := []) C rfl (show x_Con n0 oa D xm_60 _ _ _ from hcon.con n0 oa D) h7 wl_540 wl_537 wl_538 wl_55 wl_539 (by show _ ≠ _ ∧ _ ≠ _ ∧ _ = some 2; decide +kernel) (Nat.le_of_ble_eq_true rfl) (Nat.le_of_ble_eq_true rfl) (by decide +kernel) (Nat.le_of_ble_eq_true rfl) (by rw [hc0]; exact (Nat.le_of_ble_eq_true rfl)) (by rw [hs0]; exact (Nat.le_of_ble_eq_true rfl)) (fun v h1 hz0 => ?_) (fun k h1 hz0 => ?_)
  · obtain ⟨rfl, hz⟩ := hq v h1 hz0
    refine a_goto hx hb (off := 9) (a := 15) (by decide +kernel) (by decide) ?_
    refine a_iconst hx hb (n := 0) (v := 0) (by decide +kernel) rfl ?_
    exact a_iret C rfl (by decide +kernel) (hz _ _)
  · have hz := hk k h1 hz0
    by_cases e9 : k = 1
    · subst e9
      exact ⟨1, ⟨[], ⟨0, 6, 9, 13⟩, [⟨0, 6, 12, 15⟩], 3, 1, rfl, (fun z hz9 => nomatch hz9), by decide, by decide, wl_260, by decide, Or.inr ⟨3, rfl, (by decide +kernel), rfl⟩, (by decide +kernel), (by decide +kernel)⟩, hz _ _⟩
    · rw [if_neg e9] at hz
      have ek : x_en k = x_en 2 := by unfold x_en; rw [if_neg e9, if_neg (by decide)]
      exact ⟨2, ⟨[⟨0, 6, 9, 13⟩], ⟨0, 6, 12, 15⟩, [], 3, 1, rfl, (fun z hz9 => by rw [List.mem_singleton.mp hz9]; exact Or.inr ⟨by decide, x_en 1, wl_260, by rw [ek]; exact C.2.2.2.2.2.2.2.2.2.2.2.2.2⟩), by decide, by decide, (by rw [ek]; exact wl_261), by decide, Or.inr ⟨3, rfl, (by decide +kernel), rfl⟩, (by decide +kernel), (by decide +kernel)⟩, hz _ _⟩
theorem cw_dial {n0 : Nat} {oa : Nat → Nat → Nat} {D : (Nat → ClassId) × (Nat → Nat → Nat) × (Nat → ClassId)} {h : xH} {Z Zc : xO → xH → Prop} {N : Nat} {x1 x2 x3 : Int32} (hc0 : x_ce h = 0) (hs0 : x_so h = 0) (h7 : x_live h 7 1) (hcon : xC N 63 [.inr (.inr (7, 1)), .inl x1, .inl x2, .inl x3] (x_setc h 0 0) Zc)
    (hq : ∀ v h1, Zc (.inl v) h1 → x_cn h1 21 = 1 ∧ x_ln h1 21 1 = 1 ∧ ∃ n : Int32, v = some (.inl n) ∧ ∀ a b, Z (.inl (some (.inl 0))) (x_putl (x_setc h1 a b) (if n = 0 then 0 else 1))) (hk : ∀ k h1, Zc (.inr k) h1 → ∀ a b, Z (.inl (some (.inl (if k = 1 then 1 else 2)))) (x_setc h1 a b)) : x_ConW n0 oa D wm_dial hh_dial [.inr (.inr (7, 1)), .inl x1, .inl x2, .inl x3, .inr (.inr (21, 1))] h Z := by
  refine x_conW_of (M := wm_dial) ⟨by decide, rfl, fun q => by cases q⟩ rfl hc0 hs0 (fun p l e R s m args below meth c C => ?_)
  have hx := C.1
  have hb := C.2.1
  show x_At n0 oa D p l e R s m args below meth c wm_dial h (x_MQ n0 oa D s args below wm_dial h Z) 0 ([.inr (.inr (7, 1)), .inl x1, .inl x2, .inl x3, .inr (.inr (21, 1)), .inr (.inr (0, 0))], [], h)
  refine a_aload hx hb (a := 4) (by decide +kernel) rfl (by decide) ?_
  refine a_iconst hx hb (n := 0) (v := 0) (by decide +kernel) rfl ?_
  refine a_aload_n hx hb (k := 0) (by decide +kernel) rfl rfl (by decide) ?_
  refine a_iload_n hx hb (k := 1) (by decide +kernel) rfl rfl ?_
  refine a_iload_n hx hb (k := 2) (by decide +kernel) rfl rfl ?_
  refine a_iload_n hx hb (k := 3) (by decide +kernel) rfl rfl ?_
  refine a_callc (Z := Z) (Zc := Zc) (M' := xm_63) (as9 := [.inl x1, .inl x2, .inl x3]) (rest := [.inl 0, .inr (.inr (21, 1))]) C rfl (show x_Con n0 oa D xm_63 _ _ _ from hcon.con n0 oa D) h7 wl_568 wl_565 wl_566 wl_55 wl_567 (by show _ ≠ _ ∧ _ ≠ _ ∧ _ = some 3; decide +kernel) (Nat.le_of_ble_eq_true rfl) (Nat.le_of_ble_eq_true rfl) (by decide +kernel) (Nat.le_of_ble_eq_true rfl) (by rw [hc0]; exact (Nat.le_of_ble_eq_true rfl)) (by rw [hs0]; exact (Nat.le_of_ble_eq_true rfl)) (fun v h1 hz0 => ?_) (fun k h1 hz0 => ?_)
  · obtain ⟨c1, c2, n, rfl, hz⟩ := hq v h1 hz0
    refine a_if_eq hx hb (off := 7) (a := 17) (by decide +kernel) (by decide) (fun d => ?_) (fun d => ?_)
    · rw [if_pos d] at hz
      refine a_lconst hx hb (n := 0) (v := 0) (by decide +kernel) rfl ?_
      refine a_last hx hb C.2.2.2.2.2.2.2.2.1 c1 c2 rfl (by decide +kernel) ?_
      refine a_goto hx hb (off := 11) (a := 30) (by decide +kernel) (by decide) ?_
      refine a_iconst hx hb (n := 0) (v := 0) (by decide +kernel) rfl ?_
      exact a_iret C rfl (by decide +kernel) (hz _ _)
    · rw [if_neg d] at hz
      refine a_lconst hx hb (n := 1) (v := 1) (by decide +kernel) rfl ?_
      refine a_goto hx hb (off := 4) (a := 18) (by decide +kernel) (by decide) ?_
      refine a_last hx hb C.2.2.2.2.2.2.2.2.1 c1 c2 rfl (by decide +kernel) ?_
      refine a_goto hx hb (off := 11) (a := 30) (by decide +kernel) (by decide) ?_
      refine a_iconst hx hb (n := 0) (v := 0) (by decide +kernel) rfl ?_
      exact a_iret C rfl (by decide +kernel) (hz _ _)
  · have hz := hk k h1 hz0
    by_cases e9 : k = 1
    · subst e9
      exact ⟨1, ⟨[], ⟨0, 19, 22, 13⟩, [⟨0, 19, 26, 15⟩], 5, 2, rfl, (fun z hz9 => nomatch hz9), by decide, by decide, wl_260, by decide, Or.inl ⟨(by decide +kernel), rfl⟩, (by decide +kernel), (by decide +kernel)⟩, hz _ _⟩
    · rw [if_neg e9] at hz
      have ek : x_en k = x_en 2 := by unfold x_en; rw [if_neg e9, if_neg (by decide)]
      exact ⟨2, ⟨[⟨0, 19, 22, 13⟩], ⟨0, 19, 26, 15⟩, [], 5, 2, rfl, (fun z hz9 => by rw [List.mem_singleton.mp hz9]; exact Or.inr ⟨by decide, x_en 1, wl_260, by rw [ek]; exact C.2.2.2.2.2.2.2.2.2.2.2.2.2⟩), by decide, by decide, (by rw [ek]; exact wl_261), by decide, Or.inl ⟨(by decide +kernel), rfl⟩, (by decide +kernel), (by decide +kernel)⟩, hz _ _⟩
theorem cw_tick {n0 : Nat} {oa : Nat → Nat → Nat} {D : (Nat → ClassId) × (Nat → Nat → Nat) × (Nat → ClassId)} {h : xH} {Z Zc : xO → xH → Prop} {N : Nat} {x1 : Int32} (hc0 : x_ce h = 0) (hs0 : x_so h = 0) (h7 : x_live h 7 1) (hcon : xC N 78 [.inr (.inr (7, 1)), .inl x1] (x_setc h 0 0) Zc)
    (hq : ∀ v h1, Zc (.inl v) h1 → v = none ∧ ∀ a b, Z (.inl (some (.inl 0))) (x_setc h1 a b)) (hk : ∀ k h1, Zc (.inr k) h1 → k = 1 ∧ ∀ a b, Z (.inl (some (.inl 1))) (x_setc h1 a b)) : x_ConW n0 oa D wm_tick hh_tick [.inr (.inr (7, 1)), .inl x1] h Z := by
  refine x_conW_of (M := wm_tick) ⟨by decide, rfl, fun q => by cases q⟩ rfl hc0 hs0 (fun p l e R s m args below meth c C => ?_)
  have hx := C.1
  have hb := C.2.1
  show x_At n0 oa D p l e R s m args below meth c wm_tick h (x_MQ n0 oa D s args below wm_tick h Z) 0 ([.inr (.inr (7, 1)), .inl x1, .inr (.inr (0, 0))], [], h)
  refine a_aload_n hx hb (k := 0) (by decide +kernel) rfl rfl (by decide) ?_
  refine a_iload_n hx hb (k := 1) (by decide +kernel) rfl rfl ?_
  refine a_callc (Z := Z) (Zc := Zc) (M' := xm_78) (as9 := [.inl x1]) (rest := []) C rfl (show x_Con n0 oa D xm_78 _ _ _ from hcon.con n0 oa D) h7 wl_595 wl_592 wl_593 wl_55 wl_594 (by show _ ≠ _ ∧ _ ≠ _ ∧ _ = some 1; decide +kernel) (Nat.le_of_ble_eq_true rfl) (Nat.le_of_ble_eq_true rfl) (by decide +kernel) (Nat.le_of_ble_eq_true rfl) (by rw [hc0]; exact (Nat.le_of_ble_eq_true rfl)) (by rw [hs0]; exact (Nat.le_of_ble_eq_true rfl)) (fun v h1 hz0 => ?_) (fun k h1 hz0 => ?_)
  · obtain ⟨rfl, hz⟩ := hq v h1 hz0
    refine a_goto hx hb (off := 6) (a := 11) (by decide +kernel) (by decide) ?_
    refine a_iconst hx hb (n := 0) (v := 0) (by decide +kernel) rfl ?_
    exact a_iret C rfl (by decide +kernel) (hz _ _)
  · obtain ⟨rfl, hz⟩ := hk k h1 hz0
    exact ⟨1, ⟨[], ⟨0, 5, 8, 13⟩, [], 2, 1, rfl, (fun z hz9 => nomatch hz9), by decide, by decide, wl_260, by decide, Or.inr ⟨2, rfl, (by decide +kernel), rfl⟩, (by decide +kernel), (by decide +kernel)⟩, hz _ _⟩
theorem cw_out {n0 : Nat} {oa : Nat → Nat → Nat} {D : (Nat → ClassId) × (Nat → Nat → Nat) × (Nat → ClassId)} {h : xH} {Z Zc : xO → xH → Prop} {N : Nat} {x1 x2 : Int32} (hc0 : x_ce h = 0) (hs0 : x_so h = 0) (h7 : x_live h 7 1) (hcon : xC N 79 [.inr (.inr (7, 1)), .inl x1, .inl x2] (x_setc h 0 0) Zc)
    (hq : ∀ v h1, Zc (.inl v) h1 → x_cn h1 21 = 1 ∧ x_ln h1 21 1 = 1 ∧ ∃ n : Int32, v = some (.inl n) ∧ ∀ a b, Z (.inl (some (.inl 0))) (x_putl (x_setc h1 a b) (if n = 0 then 0 else 1))) (hk : ∀ k h1, Zc (.inr k) h1 → k = 1 ∧ ∀ a b, Z (.inl (some (.inl 1))) (x_setc h1 a b)) : x_ConW n0 oa D wm_out hh_out [.inr (.inr (7, 1)), .inl x1, .inl x2, .inr (.inr (21, 1))] h Z := by
  refine x_conW_of (M := wm_out) ⟨by decide, rfl, fun q => by cases q⟩ rfl hc0 hs0 (fun p l e R s m args below meth c C => ?_)
  have hx := C.1
  have hb := C.2.1
  show x_At n0 oa D p l e R s m args below meth c wm_out h (x_MQ n0 oa D s args below wm_out h Z) 0 ([.inr (.inr (7, 1)), .inl x1, .inl x2, .inr (.inr (21, 1)), .inr (.inr (0, 0))], [], h)
  refine a_aload_n hx hb (k := 3) (by decide +kernel) rfl rfl (by decide) ?_
  refine a_iconst hx hb (n := 0) (v := 0) (by decide +kernel) rfl ?_
  refine a_aload_n hx hb (k := 0) (by decide +kernel) rfl rfl (by decide) ?_
  refine a_iload_n hx hb (k := 1) (by decide +kernel) rfl rfl ?_
  refine a_iload_n hx hb (k := 2) (by decide +kernel) rfl rfl ?_
  refine a_callc (Z := Z) (Zc := Zc) (M' := xm_79) (as9 := [.inl x1, .inl x2]) (rest := [.inl 0, .inr (.inr (21, 1))]) C rfl (show x_Con n0 oa D xm_79 _ _ _ from hcon.con n0 oa D) h7 wl_711 wl_708 wl_709 wl_55 wl_710 (by show _ ≠ _ ∧ _ ≠ _ ∧ _ = some 2; decide +kernel) (Nat.le_of_ble_eq_true rfl) (Nat.le_of_ble_eq_true rfl) (by decide +kernel) (Nat.le_of_ble_eq_true rfl) (by rw [hc0]; exact (Nat.le_of_ble_eq_true rfl)) (by rw [hs0]; exact (Nat.le_of_ble_eq_true rfl)) (fun v h1 hz0 => ?_) (fun k h1 hz0 => ?_)
  · obtain ⟨c1, c2, n, rfl, hz⟩ := hq v h1 hz0
    refine a_if_eq hx hb (off := 7) (a := 15) (by decide +kernel) (by decide) (fun d => ?_) (fun d => ?_)
    · rw [if_pos d] at hz
      refine a_lconst hx hb (n := 0) (v := 0) (by decide +kernel) rfl ?_
      refine a_last hx hb C.2.2.2.2.2.2.2.2.1 c1 c2 rfl (by decide +kernel) ?_
      refine a_goto hx hb (off := 7) (a := 24) (by decide +kernel) (by decide) ?_
      refine a_iconst hx hb (n := 0) (v := 0) (by decide +kernel) rfl ?_
      exact a_iret C rfl (by decide +kernel) (hz _ _)
    · rw [if_neg d] at hz
      refine a_lconst hx hb (n := 1) (v := 1) (by decide +kernel) rfl ?_
      refine a_goto hx hb (off := 4) (a := 16) (by decide +kernel) (by decide) ?_
      refine a_last hx hb C.2.2.2.2.2.2.2.2.1 c1 c2 rfl (by decide +kernel) ?_
      refine a_goto hx hb (off := 7) (a := 24) (by decide +kernel) (by decide) ?_
      refine a_iconst hx hb (n := 0) (v := 0) (by decide +kernel) rfl ?_
      exact a_iret C rfl (by decide +kernel) (hz _ _)
  · obtain ⟨rfl, hz⟩ := hk k h1 hz0
    exact ⟨1, ⟨[], ⟨0, 17, 20, 13⟩, [], 4, 2, rfl, (fun z hz9 => nomatch hz9), by decide, by decide, wl_260, by decide, Or.inl ⟨(by decide +kernel), rfl⟩, (by decide +kernel), (by decide +kernel)⟩, hz _ _⟩
theorem cw_hold {n0 : Nat} {oa : Nat → Nat → Nat} {D : (Nat → ClassId) × (Nat → Nat → Nat) × (Nat → ClassId)} {h : xH} {Z Zc : xO → xH → Prop} {N : Nat} {x1 x2 x3 : Int32} (hc0 : x_ce h = 0) (hs0 : x_so h = 0) (h7 : x_live h 7 1) (hcon : xC N 80 [.inr (.inr (7, 1)), .inl x1, .inl x2, .inl x3] (x_setc h 0 0) Zc)
    (hq : ∀ v h1, Zc (.inl v) h1 → x_cn h1 21 = 1 ∧ x_ln h1 21 1 = 1 ∧ ∃ n : Int32, v = some (.inl n) ∧ ∀ a b, Z (.inl (some (.inl 0))) (x_putl (x_setc h1 a b) (if n = 0 then 0 else 1))) (hk : ∀ k h1, Zc (.inr k) h1 → k = 1 ∧ ∀ a b, Z (.inl (some (.inl 1))) (x_setc h1 a b)) : x_ConW n0 oa D wm_hold hh_hold [.inr (.inr (7, 1)), .inl x1, .inl x2, .inl x3, .inr (.inr (21, 1))] h Z := by
  refine x_conW_of (M := wm_hold) ⟨by decide, rfl, fun q => by cases q⟩ rfl hc0 hs0 (fun p l e R s m args below meth c C => ?_)
  have hx := C.1
  have hb := C.2.1
  show x_At n0 oa D p l e R s m args below meth c wm_hold h (x_MQ n0 oa D s args below wm_hold h Z) 0 ([.inr (.inr (7, 1)), .inl x1, .inl x2, .inl x3, .inr (.inr (21, 1)), .inr (.inr (0, 0))], [], h)
  refine a_aload hx hb (a := 4) (by decide +kernel) rfl (by decide) ?_
  refine a_iconst hx hb (n := 0) (v := 0) (by decide +kernel) rfl ?_
  refine a_aload_n hx hb (k := 0) (by decide +kernel) rfl rfl (by decide) ?_
  refine a_iload_n hx hb (k := 1) (by decide +kernel) rfl rfl ?_
  refine a_iload_n hx hb (k := 2) (by decide +kernel) rfl rfl ?_
  refine a_iload_n hx hb (k := 3) (by decide +kernel) rfl rfl ?_
  refine a_callc (Z := Z) (Zc := Zc) (M' := xm_80) (as9 := [.inl x1, .inl x2, .inl x3]) (rest := [.inl 0, .inr (.inr (21, 1))]) C rfl (show x_Con n0 oa D xm_80 _ _ _ from hcon.con n0 oa D) h7 wl_718 wl_715 wl_716 wl_55 wl_717 (by show _ ≠ _ ∧ _ ≠ _ ∧ _ = some 3; decide +kernel) (Nat.le_of_ble_eq_true rfl) (Nat.le_of_ble_eq_true rfl) (by decide +kernel) (Nat.le_of_ble_eq_true rfl) (by rw [hc0]; exact (Nat.le_of_ble_eq_true rfl)) (by rw [hs0]; exact (Nat.le_of_ble_eq_true rfl)) (fun v h1 hz0 => ?_) (fun k h1 hz0 => ?_)
  · obtain ⟨c1, c2, n, rfl, hz⟩ := hq v h1 hz0
    refine a_if_eq hx hb (off := 7) (a := 17) (by decide +kernel) (by decide) (fun d => ?_) (fun d => ?_)
    · rw [if_pos d] at hz
      refine a_lconst hx hb (n := 0) (v := 0) (by decide +kernel) rfl ?_
      refine a_last hx hb C.2.2.2.2.2.2.2.2.1 c1 c2 rfl (by decide +kernel) ?_
      refine a_goto hx hb (off := 7) (a := 26) (by decide +kernel) (by decide) ?_
      refine a_iconst hx hb (n := 0) (v := 0) (by decide +kernel) rfl ?_
      exact a_iret C rfl (by decide +kernel) (hz _ _)
    · rw [if_neg d] at hz
      refine a_lconst hx hb (n := 1) (v := 1) (by decide +kernel) rfl ?_
      refine a_goto hx hb (off := 4) (a := 18) (by decide +kernel) (by decide) ?_
      refine a_last hx hb C.2.2.2.2.2.2.2.2.1 c1 c2 rfl (by decide +kernel) ?_
      refine a_goto hx hb (off := 7) (a := 26) (by decide +kernel) (by decide) ?_
      refine a_iconst hx hb (n := 0) (v := 0) (by decide +kernel) rfl ?_
      exact a_iret C rfl (by decide +kernel) (hz _ _)
  · obtain ⟨rfl, hz⟩ := hk k h1 hz0
    exact ⟨1, ⟨[], ⟨0, 19, 22, 13⟩, [], 5, 2, rfl, (fun z hz9 => nomatch hz9), by decide, by decide, wl_260, by decide, Or.inl ⟨(by decide +kernel), rfl⟩, (by decide +kernel), (by decide +kernel)⟩, hz _ _⟩
theorem cw_tone {n0 : Nat} {oa : Nat → Nat → Nat} {D : (Nat → ClassId) × (Nat → Nat → Nat) × (Nat → ClassId)} {h : xH} {Z Zc : xO → xH → Prop} {N : Nat} {x1 x2 : Int32} (hc0 : x_ce h = 0) (hs0 : x_so h = 0) (h7 : x_live h 7 1) (hcon : xC N 81 [.inr (.inr (7, 1)), .inl x1, .inl x2] (x_setc h 0 0) Zc)
    (hq : ∀ v h1, Zc (.inl v) h1 → x_cn h1 21 = 1 ∧ x_ln h1 21 1 = 1 ∧ ∃ n : Int32, v = some (.inl n) ∧ ∀ a b, Z (.inl (some (.inl 0))) (x_putl (x_setc h1 a b) n.toInt64)) (hk : ∀ k h1, Zc (.inr k) h1 → k = 1 ∧ ∀ a b, Z (.inl (some (.inl 1))) (x_setc h1 a b)) : x_ConW n0 oa D wm_tone hh_tone [.inr (.inr (7, 1)), .inl x1, .inl x2, .inr (.inr (21, 1))] h Z := by
  refine x_conW_of (M := wm_tone) ⟨by decide, rfl, fun q => by cases q⟩ rfl hc0 hs0 (fun p l e R s m args below meth c C => ?_)
  have hx := C.1
  have hb := C.2.1
  show x_At n0 oa D p l e R s m args below meth c wm_tone h (x_MQ n0 oa D s args below wm_tone h Z) 0 ([.inr (.inr (7, 1)), .inl x1, .inl x2, .inr (.inr (21, 1)), .inr (.inr (0, 0))], [], h)
  refine a_aload_n hx hb (k := 3) (by decide +kernel) rfl rfl (by decide) ?_
  refine a_iconst hx hb (n := 0) (v := 0) (by decide +kernel) rfl ?_
  refine a_aload_n hx hb (k := 0) (by decide +kernel) rfl rfl (by decide) ?_
  refine a_iload_n hx hb (k := 1) (by decide +kernel) rfl rfl ?_
  refine a_iload_n hx hb (k := 2) (by decide +kernel) rfl rfl ?_
  refine a_callc (Z := Z) (Zc := Zc) (M' := xm_81) (as9 := [.inl x1, .inl x2]) (rest := [.inl 0, .inr (.inr (21, 1))]) C rfl (show x_Con n0 oa D xm_81 _ _ _ from hcon.con n0 oa D) h7 wl_725 wl_722 wl_723 wl_55 wl_724 (by show _ ≠ _ ∧ _ ≠ _ ∧ _ = some 2; decide +kernel) (Nat.le_of_ble_eq_true rfl) (Nat.le_of_ble_eq_true rfl) (by decide +kernel) (Nat.le_of_ble_eq_true rfl) (by rw [hc0]; exact (Nat.le_of_ble_eq_true rfl)) (by rw [hs0]; exact (Nat.le_of_ble_eq_true rfl)) (fun v h1 hz0 => ?_) (fun k h1 hz0 => ?_)
  · obtain ⟨c1, c2, n, rfl, hz⟩ := hq v h1 hz0
    refine a_i2l hx hb (by decide +kernel) ?_
    refine a_last hx hb C.2.2.2.2.2.2.2.2.1 c1 c2 rfl (by decide +kernel) ?_
    refine a_goto hx hb (off := 7) (a := 17) (by decide +kernel) (by decide) ?_
    refine a_iconst hx hb (n := 0) (v := 0) (by decide +kernel) rfl ?_
    exact a_iret C rfl (by decide +kernel) (hz _ _)
  · obtain ⟨rfl, hz⟩ := hk k h1 hz0
    exact ⟨1, ⟨[], ⟨0, 10, 13, 13⟩, [], 4, 2, rfl, (fun z hz9 => nomatch hz9), by decide, by decide, wl_260, by decide, Or.inl ⟨(by decide +kernel), rfl⟩, (by decide +kernel), (by decide +kernel)⟩, hz _ _⟩
theorem cw_rings {n0 : Nat} {oa : Nat → Nat → Nat} {D : (Nat → ClassId) × (Nat → Nat → Nat) × (Nat → ClassId)} {h : xH} {Z Zc : xO → xH → Prop} {N : Nat} {x1 x2 : Int32} (hc0 : x_ce h = 0) (hs0 : x_so h = 0) (h7 : x_live h 7 1) (hcon : xC N 82 [.inr (.inr (7, 1)), .inl x1, .inl x2] (x_setc h 0 0) Zc)
    (hq : ∀ v h1, Zc (.inl v) h1 → x_cn h1 21 = 1 ∧ x_ln h1 21 1 = 1 ∧ ∃ n : Int32, v = some (.inl n) ∧ ∀ a b, Z (.inl (some (.inl 0))) (x_putl (x_setc h1 a b) (if n = 0 then 0 else 1))) (hk : ∀ k h1, Zc (.inr k) h1 → k = 1 ∧ ∀ a b, Z (.inl (some (.inl 1))) (x_setc h1 a b)) : x_ConW n0 oa D wm_rings hh_rings [.inr (.inr (7, 1)), .inl x1, .inl x2, .inr (.inr (21, 1))] h Z := by
  refine x_conW_of (M := wm_rings) ⟨by decide, rfl, fun q => by cases q⟩ rfl hc0 hs0 (fun p l e R s m args below meth c C => ?_)
  have hx := C.1
  have hb := C.2.1
  show x_At n0 oa D p l e R s m args below meth c wm_rings h (x_MQ n0 oa D s args below wm_rings h Z) 0 ([.inr (.inr (7, 1)), .inl x1, .inl x2, .inr (.inr (21, 1)), .inr (.inr (0, 0))], [], h)
  refine a_aload_n hx hb (k := 3) (by decide +kernel) rfl rfl (by decide) ?_
  refine a_iconst hx hb (n := 0) (v := 0) (by decide +kernel) rfl ?_
  refine a_aload_n hx hb (k := 0) (by decide +kernel) rfl rfl (by decide) ?_
  refine a_iload_n hx hb (k := 1) (by decide +kernel) rfl rfl ?_
  refine a_iload_n hx hb (k := 2) (by decide +kernel) rfl rfl ?_
  refine a_callc (Z := Z) (Zc := Zc) (M' := xm_82) (as9 := [.inl x1, .inl x2]) (rest := [.inl 0, .inr (.inr (21, 1))]) C rfl (show x_Con n0 oa D xm_82 _ _ _ from hcon.con n0 oa D) h7 wl_732 wl_729 wl_730 wl_55 wl_731 (by show _ ≠ _ ∧ _ ≠ _ ∧ _ = some 2; decide +kernel) (Nat.le_of_ble_eq_true rfl) (Nat.le_of_ble_eq_true rfl) (by decide +kernel) (Nat.le_of_ble_eq_true rfl) (by rw [hc0]; exact (Nat.le_of_ble_eq_true rfl)) (by rw [hs0]; exact (Nat.le_of_ble_eq_true rfl)) (fun v h1 hz0 => ?_) (fun k h1 hz0 => ?_)
  · obtain ⟨c1, c2, n, rfl, hz⟩ := hq v h1 hz0
    refine a_if_eq hx hb (off := 7) (a := 15) (by decide +kernel) (by decide) (fun d => ?_) (fun d => ?_)
    · rw [if_pos d] at hz
      refine a_lconst hx hb (n := 0) (v := 0) (by decide +kernel) rfl ?_
      refine a_last hx hb C.2.2.2.2.2.2.2.2.1 c1 c2 rfl (by decide +kernel) ?_
      refine a_goto hx hb (off := 7) (a := 24) (by decide +kernel) (by decide) ?_
      refine a_iconst hx hb (n := 0) (v := 0) (by decide +kernel) rfl ?_
      exact a_iret C rfl (by decide +kernel) (hz _ _)
    · rw [if_neg d] at hz
      refine a_lconst hx hb (n := 1) (v := 1) (by decide +kernel) rfl ?_
      refine a_goto hx hb (off := 4) (a := 16) (by decide +kernel) (by decide) ?_
      refine a_last hx hb C.2.2.2.2.2.2.2.2.1 c1 c2 rfl (by decide +kernel) ?_
      refine a_goto hx hb (off := 7) (a := 24) (by decide +kernel) (by decide) ?_
      refine a_iconst hx hb (n := 0) (v := 0) (by decide +kernel) rfl ?_
      exact a_iret C rfl (by decide +kernel) (hz _ _)
  · obtain ⟨rfl, hz⟩ := hk k h1 hz0
    exact ⟨1, ⟨[], ⟨0, 17, 20, 13⟩, [], 4, 2, rfl, (fun z hz9 => nomatch hz9), by decide, by decide, wl_260, by decide, Or.inl ⟨(by decide +kernel), rfl⟩, (by decide +kernel), (by decide +kernel)⟩, hz _ _⟩
theorem cw_talks {n0 : Nat} {oa : Nat → Nat → Nat} {D : (Nat → ClassId) × (Nat → Nat → Nat) × (Nat → ClassId)} {h : xH} {Z Zc : xO → xH → Prop} {N : Nat} {x1 x2 : Int32} (hc0 : x_ce h = 0) (hs0 : x_so h = 0) (h7 : x_live h 7 1) (hcon : xC N 83 [.inr (.inr (7, 1)), .inl x1, .inl x2] (x_setc h 0 0) Zc)
    (hq : ∀ v h1, Zc (.inl v) h1 → x_cn h1 21 = 1 ∧ x_ln h1 21 1 = 1 ∧ ∃ n : Int32, v = some (.inl n) ∧ ∀ a b, Z (.inl (some (.inl 0))) (x_putl (x_setc h1 a b) n.toInt64)) (hk : ∀ k h1, Zc (.inr k) h1 → k = 1 ∧ ∀ a b, Z (.inl (some (.inl 1))) (x_setc h1 a b)) : x_ConW n0 oa D wm_talks hh_talks [.inr (.inr (7, 1)), .inl x1, .inl x2, .inr (.inr (21, 1))] h Z := by
  refine x_conW_of (M := wm_talks) ⟨by decide, rfl, fun q => by cases q⟩ rfl hc0 hs0 (fun p l e R s m args below meth c C => ?_)
  have hx := C.1
  have hb := C.2.1
  show x_At n0 oa D p l e R s m args below meth c wm_talks h (x_MQ n0 oa D s args below wm_talks h Z) 0 ([.inr (.inr (7, 1)), .inl x1, .inl x2, .inr (.inr (21, 1)), .inr (.inr (0, 0))], [], h)
  refine a_aload_n hx hb (k := 3) (by decide +kernel) rfl rfl (by decide) ?_
  refine a_iconst hx hb (n := 0) (v := 0) (by decide +kernel) rfl ?_
  refine a_aload_n hx hb (k := 0) (by decide +kernel) rfl rfl (by decide) ?_
  refine a_iload_n hx hb (k := 1) (by decide +kernel) rfl rfl ?_
  refine a_iload_n hx hb (k := 2) (by decide +kernel) rfl rfl ?_
  refine a_callc (Z := Z) (Zc := Zc) (M' := xm_83) (as9 := [.inl x1, .inl x2]) (rest := [.inl 0, .inr (.inr (21, 1))]) C rfl (show x_Con n0 oa D xm_83 _ _ _ from hcon.con n0 oa D) h7 wl_739 wl_736 wl_737 wl_55 wl_738 (by show _ ≠ _ ∧ _ ≠ _ ∧ _ = some 2; decide +kernel) (Nat.le_of_ble_eq_true rfl) (Nat.le_of_ble_eq_true rfl) (by decide +kernel) (Nat.le_of_ble_eq_true rfl) (by rw [hc0]; exact (Nat.le_of_ble_eq_true rfl)) (by rw [hs0]; exact (Nat.le_of_ble_eq_true rfl)) (fun v h1 hz0 => ?_) (fun k h1 hz0 => ?_)
  · obtain ⟨c1, c2, n, rfl, hz⟩ := hq v h1 hz0
    refine a_i2l hx hb (by decide +kernel) ?_
    refine a_last hx hb C.2.2.2.2.2.2.2.2.1 c1 c2 rfl (by decide +kernel) ?_
    refine a_goto hx hb (off := 7) (a := 17) (by decide +kernel) (by decide) ?_
    refine a_iconst hx hb (n := 0) (v := 0) (by decide +kernel) rfl ?_
    exact a_iret C rfl (by decide +kernel) (hz _ _)
  · obtain ⟨rfl, hz⟩ := hk k h1 hz0
    exact ⟨1, ⟨[], ⟨0, 10, 13, 13⟩, [], 4, 2, rfl, (fun z hz9 => nomatch hz9), by decide, by decide, wl_260, by decide, Or.inl ⟨(by decide +kernel), rfl⟩, (by decide +kernel), (by decide +kernel)⟩, hz _ _⟩
theorem cw_meter {n0 : Nat} {oa : Nat → Nat → Nat} {D : (Nat → ClassId) × (Nat → Nat → Nat) × (Nat → ClassId)} {h : xH} {Z Zc : xO → xH → Prop} {N : Nat} {x1 x2 : Int32} (hc0 : x_ce h = 0) (hs0 : x_so h = 0) (h7 : x_live h 7 1) (hcon : xC N 84 [.inr (.inr (7, 1)), .inl x1, .inl x2] (x_setc h 0 0) Zc)
    (hq : ∀ v h1, Zc (.inl v) h1 → x_cn h1 21 = 1 ∧ x_ln h1 21 1 = 1 ∧ ∃ n : Int32, v = some (.inl n) ∧ ∀ a b, Z (.inl (some (.inl 0))) (x_putl (x_setc h1 a b) n.toInt64)) (hk : ∀ k h1, Zc (.inr k) h1 → k = 1 ∧ ∀ a b, Z (.inl (some (.inl 1))) (x_setc h1 a b)) : x_ConW n0 oa D wm_meter hh_meter [.inr (.inr (7, 1)), .inl x1, .inl x2, .inr (.inr (21, 1))] h Z := by
  refine x_conW_of (M := wm_meter) ⟨by decide, rfl, fun q => by cases q⟩ rfl hc0 hs0 (fun p l e R s m args below meth c C => ?_)
  have hx := C.1
  have hb := C.2.1
  show x_At n0 oa D p l e R s m args below meth c wm_meter h (x_MQ n0 oa D s args below wm_meter h Z) 0 ([.inr (.inr (7, 1)), .inl x1, .inl x2, .inr (.inr (21, 1)), .inr (.inr (0, 0))], [], h)
  refine a_aload_n hx hb (k := 3) (by decide +kernel) rfl rfl (by decide) ?_
  refine a_iconst hx hb (n := 0) (v := 0) (by decide +kernel) rfl ?_
  refine a_aload_n hx hb (k := 0) (by decide +kernel) rfl rfl (by decide) ?_
  refine a_iload_n hx hb (k := 1) (by decide +kernel) rfl rfl ?_
  refine a_iload_n hx hb (k := 2) (by decide +kernel) rfl rfl ?_
  refine a_callc (Z := Z) (Zc := Zc) (M' := xm_84) (as9 := [.inl x1, .inl x2]) (rest := [.inl 0, .inr (.inr (21, 1))]) C rfl (show x_Con n0 oa D xm_84 _ _ _ from hcon.con n0 oa D) h7 wl_746 wl_743 wl_744 wl_55 wl_745 (by show _ ≠ _ ∧ _ ≠ _ ∧ _ = some 2; decide +kernel) (Nat.le_of_ble_eq_true rfl) (Nat.le_of_ble_eq_true rfl) (by decide +kernel) (Nat.le_of_ble_eq_true rfl) (by rw [hc0]; exact (Nat.le_of_ble_eq_true rfl)) (by rw [hs0]; exact (Nat.le_of_ble_eq_true rfl)) (fun v h1 hz0 => ?_) (fun k h1 hz0 => ?_)
  · obtain ⟨c1, c2, n, rfl, hz⟩ := hq v h1 hz0
    refine a_i2l hx hb (by decide +kernel) ?_
    refine a_last hx hb C.2.2.2.2.2.2.2.2.1 c1 c2 rfl (by decide +kernel) ?_
    refine a_goto hx hb (off := 7) (a := 17) (by decide +kernel) (by decide) ?_
    refine a_iconst hx hb (n := 0) (v := 0) (by decide +kernel) rfl ?_
    exact a_iret C rfl (by decide +kernel) (hz _ _)
  · obtain ⟨rfl, hz⟩ := hk k h1 hz0
    exact ⟨1, ⟨[], ⟨0, 10, 13, 13⟩, [], 4, 2, rfl, (fun z hz9 => nomatch hz9), by decide, by decide, wl_260, by decide, Or.inl ⟨(by decide +kernel), rfl⟩, (by decide +kernel), (by decide +kernel)⟩, hz _ _⟩
theorem cw_seized {n0 : Nat} {oa : Nat → Nat → Nat} {D : (Nat → ClassId) × (Nat → Nat → Nat) × (Nat → ClassId)} {h : xH} {Z Zc : xO → xH → Prop} {N : Nat} {x1 x2 x3 : Int32} (hc0 : x_ce h = 0) (hs0 : x_so h = 0) (h7 : x_live h 7 1) (hcon : xC N 85 [.inr (.inr (7, 1)), .inl x1, .inl x2, .inl x3] (x_setc h 0 0) Zc)
    (hq : ∀ v h1, Zc (.inl v) h1 → x_cn h1 21 = 1 ∧ x_ln h1 21 1 = 1 ∧ ∃ n : Int32, v = some (.inl n) ∧ ∀ a b, Z (.inl (some (.inl 0))) (x_putl (x_setc h1 a b) n.toInt64)) (hk : ∀ k h1, Zc (.inr k) h1 → k = 1 ∧ ∀ a b, Z (.inl (some (.inl 1))) (x_setc h1 a b)) : x_ConW n0 oa D wm_seized hh_seized [.inr (.inr (7, 1)), .inl x1, .inl x2, .inl x3, .inr (.inr (21, 1))] h Z := by
  refine x_conW_of (M := wm_seized) ⟨by decide, rfl, fun q => by cases q⟩ rfl hc0 hs0 (fun p l e R s m args below meth c C => ?_)
  have hx := C.1
  have hb := C.2.1
  show x_At n0 oa D p l e R s m args below meth c wm_seized h (x_MQ n0 oa D s args below wm_seized h Z) 0 ([.inr (.inr (7, 1)), .inl x1, .inl x2, .inl x3, .inr (.inr (21, 1)), .inr (.inr (0, 0))], [], h)
  refine a_aload hx hb (a := 4) (by decide +kernel) rfl (by decide) ?_
  refine a_iconst hx hb (n := 0) (v := 0) (by decide +kernel) rfl ?_
  refine a_aload_n hx hb (k := 0) (by decide +kernel) rfl rfl (by decide) ?_
  refine a_iload_n hx hb (k := 1) (by decide +kernel) rfl rfl ?_
  refine a_iload_n hx hb (k := 2) (by decide +kernel) rfl rfl ?_
  refine a_iload_n hx hb (k := 3) (by decide +kernel) rfl rfl ?_
  refine a_callc (Z := Z) (Zc := Zc) (M' := xm_85) (as9 := [.inl x1, .inl x2, .inl x3]) (rest := [.inl 0, .inr (.inr (21, 1))]) C rfl (show x_Con n0 oa D xm_85 _ _ _ from hcon.con n0 oa D) h7 wl_753 wl_750 wl_751 wl_55 wl_752 (by show _ ≠ _ ∧ _ ≠ _ ∧ _ = some 3; decide +kernel) (Nat.le_of_ble_eq_true rfl) (Nat.le_of_ble_eq_true rfl) (by decide +kernel) (Nat.le_of_ble_eq_true rfl) (by rw [hc0]; exact (Nat.le_of_ble_eq_true rfl)) (by rw [hs0]; exact (Nat.le_of_ble_eq_true rfl)) (fun v h1 hz0 => ?_) (fun k h1 hz0 => ?_)
  · obtain ⟨c1, c2, n, rfl, hz⟩ := hq v h1 hz0
    refine a_i2l hx hb (by decide +kernel) ?_
    refine a_last hx hb C.2.2.2.2.2.2.2.2.1 c1 c2 rfl (by decide +kernel) ?_
    refine a_goto hx hb (off := 7) (a := 19) (by decide +kernel) (by decide) ?_
    refine a_iconst hx hb (n := 0) (v := 0) (by decide +kernel) rfl ?_
    exact a_iret C rfl (by decide +kernel) (hz _ _)
  · obtain ⟨rfl, hz⟩ := hk k h1 hz0
    exact ⟨1, ⟨[], ⟨0, 12, 15, 13⟩, [], 5, 2, rfl, (fun z hz9 => nomatch hz9), by decide, by decide, wl_260, by decide, Or.inl ⟨(by decide +kernel), rfl⟩, (by decide +kernel), (by decide +kernel)⟩, hz _ _⟩
theorem cw_idle {n0 : Nat} {oa : Nat → Nat → Nat} {D : (Nat → ClassId) × (Nat → Nat → Nat) × (Nat → ClassId)} {h : xH} {Z Zc : xO → xH → Prop} {N : Nat} {x1 x2 : Int32} (hc0 : x_ce h = 0) (hs0 : x_so h = 0) (h7 : x_live h 7 1) (hcon : xC N 87 [.inr (.inr (7, 1)), .inl x1, .inl x2] (x_setc h 0 0) Zc)
    (hq : ∀ v h1, Zc (.inl v) h1 → x_cn h1 21 = 1 ∧ x_ln h1 21 1 = 1 ∧ ∃ n : Int32, v = some (.inl n) ∧ ∀ a b, Z (.inl (some (.inl 0))) (x_putl (x_setc h1 a b) n.toInt64)) (hk : ∀ k h1, Zc (.inr k) h1 → k = 1 ∧ ∀ a b, Z (.inl (some (.inl 1))) (x_setc h1 a b)) : x_ConW n0 oa D wm_idle hh_idle [.inr (.inr (7, 1)), .inl x1, .inl x2, .inr (.inr (21, 1))] h Z := by
  refine x_conW_of (M := wm_idle) ⟨by decide, rfl, fun q => by cases q⟩ rfl hc0 hs0 (fun p l e R s m args below meth c C => ?_)
  have hx := C.1
  have hb := C.2.1
  show x_At n0 oa D p l e R s m args below meth c wm_idle h (x_MQ n0 oa D s args below wm_idle h Z) 0 ([.inr (.inr (7, 1)), .inl x1, .inl x2, .inr (.inr (21, 1)), .inr (.inr (0, 0))], [], h)
  refine a_aload_n hx hb (k := 3) (by decide +kernel) rfl rfl (by decide) ?_
  refine a_iconst hx hb (n := 0) (v := 0) (by decide +kernel) rfl ?_
  refine a_aload_n hx hb (k := 0) (by decide +kernel) rfl rfl (by decide) ?_
  refine a_iload_n hx hb (k := 1) (by decide +kernel) rfl rfl ?_
  refine a_iload_n hx hb (k := 2) (by decide +kernel) rfl rfl ?_
  refine a_callc (Z := Z) (Zc := Zc) (M' := xm_87) (as9 := [.inl x1, .inl x2]) (rest := [.inl 0, .inr (.inr (21, 1))]) C rfl (show x_Con n0 oa D xm_87 _ _ _ from hcon.con n0 oa D) h7 wl_760 wl_757 wl_758 wl_55 wl_759 (by show _ ≠ _ ∧ _ ≠ _ ∧ _ = some 2; decide +kernel) (Nat.le_of_ble_eq_true rfl) (Nat.le_of_ble_eq_true rfl) (by decide +kernel) (Nat.le_of_ble_eq_true rfl) (by rw [hc0]; exact (Nat.le_of_ble_eq_true rfl)) (by rw [hs0]; exact (Nat.le_of_ble_eq_true rfl)) (fun v h1 hz0 => ?_) (fun k h1 hz0 => ?_)
  · obtain ⟨c1, c2, n, rfl, hz⟩ := hq v h1 hz0
    refine a_i2l hx hb (by decide +kernel) ?_
    refine a_last hx hb C.2.2.2.2.2.2.2.2.1 c1 c2 rfl (by decide +kernel) ?_
    refine a_goto hx hb (off := 7) (a := 17) (by decide +kernel) (by decide) ?_
    refine a_iconst hx hb (n := 0) (v := 0) (by decide +kernel) rfl ?_
    exact a_iret C rfl (by decide +kernel) (hz _ _)
  · obtain ⟨rfl, hz⟩ := hk k h1 hz0
    exact ⟨1, ⟨[], ⟨0, 10, 13, 13⟩, [], 4, 2, rfl, (fun z hz9 => nomatch hz9), by decide, by decide, wl_260, by decide, Or.inl ⟨(by decide +kernel), rfl⟩, (by decide +kernel), (by decide +kernel)⟩, hz _ _⟩
theorem cw_overflow {n0 : Nat} {oa : Nat → Nat → Nat} {D : (Nat → ClassId) × (Nat → Nat → Nat) × (Nat → ClassId)} {h : xH} {Z Zc : xO → xH → Prop} {N : Nat} {x1 x2 : Int32} (hc0 : x_ce h = 0) (hs0 : x_so h = 0) (h7 : x_live h 7 1) (hcon : xC N 88 [.inr (.inr (7, 1)), .inl x1, .inl x2] (x_setc h 0 0) Zc)
    (hq : ∀ v h1, Zc (.inl v) h1 → x_cn h1 21 = 1 ∧ x_ln h1 21 1 = 1 ∧ ∃ n : Int32, v = some (.inl n) ∧ ∀ a b, Z (.inl (some (.inl 0))) (x_putl (x_setc h1 a b) n.toInt64)) (hk : ∀ k h1, Zc (.inr k) h1 → k = 1 ∧ ∀ a b, Z (.inl (some (.inl 1))) (x_setc h1 a b)) : x_ConW n0 oa D wm_overflow hh_overflow [.inr (.inr (7, 1)), .inl x1, .inl x2, .inr (.inr (21, 1))] h Z := by
  refine x_conW_of (M := wm_overflow) ⟨by decide, rfl, fun q => by cases q⟩ rfl hc0 hs0 (fun p l e R s m args below meth c C => ?_)
  have hx := C.1
  have hb := C.2.1
  show x_At n0 oa D p l e R s m args below meth c wm_overflow h (x_MQ n0 oa D s args below wm_overflow h Z) 0 ([.inr (.inr (7, 1)), .inl x1, .inl x2, .inr (.inr (21, 1)), .inr (.inr (0, 0))], [], h)
  refine a_aload_n hx hb (k := 3) (by decide +kernel) rfl rfl (by decide) ?_
  refine a_iconst hx hb (n := 0) (v := 0) (by decide +kernel) rfl ?_
  refine a_aload_n hx hb (k := 0) (by decide +kernel) rfl rfl (by decide) ?_
  refine a_iload_n hx hb (k := 1) (by decide +kernel) rfl rfl ?_
  refine a_iload_n hx hb (k := 2) (by decide +kernel) rfl rfl ?_
  refine a_callc (Z := Z) (Zc := Zc) (M' := xm_88) (as9 := [.inl x1, .inl x2]) (rest := [.inl 0, .inr (.inr (21, 1))]) C rfl (show x_Con n0 oa D xm_88 _ _ _ from hcon.con n0 oa D) h7 wl_775 wl_772 wl_773 wl_55 wl_774 (by show _ ≠ _ ∧ _ ≠ _ ∧ _ = some 2; decide +kernel) (Nat.le_of_ble_eq_true rfl) (Nat.le_of_ble_eq_true rfl) (by decide +kernel) (Nat.le_of_ble_eq_true rfl) (by rw [hc0]; exact (Nat.le_of_ble_eq_true rfl)) (by rw [hs0]; exact (Nat.le_of_ble_eq_true rfl)) (fun v h1 hz0 => ?_) (fun k h1 hz0 => ?_)
  · obtain ⟨c1, c2, n, rfl, hz⟩ := hq v h1 hz0
    refine a_i2l hx hb (by decide +kernel) ?_
    refine a_last hx hb C.2.2.2.2.2.2.2.2.1 c1 c2 rfl (by decide +kernel) ?_
    refine a_goto hx hb (off := 7) (a := 17) (by decide +kernel) (by decide) ?_
    refine a_iconst hx hb (n := 0) (v := 0) (by decide +kernel) rfl ?_
    exact a_iret C rfl (by decide +kernel) (hz _ _)
  · obtain ⟨rfl, hz⟩ := hk k h1 hz0
    exact ⟨1, ⟨[], ⟨0, 10, 13, 13⟩, [], 4, 2, rfl, (fun z hz9 => nomatch hz9), by decide, by decide, wl_260, by decide, Or.inl ⟨(by decide +kernel), rfl⟩, (by decide +kernel), (by decide +kernel)⟩, hz _ _⟩
