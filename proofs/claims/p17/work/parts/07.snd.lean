section XS2
variable {xm : Nat → xM} {M : xM} {pc : Nat}
theorem x_cr_inj {n0 : Nat} {oa : Nat → Nat → Nat} {D : (Nat → ClassId) × (Nat → Nat → Nat) × (Nat → ClassId)} {h : xH} {H : Heap} (hR : x_Rep n0 oa D h H) (hoa : ∀ i j, 1 ≤ i → i ≤ 6 → 1 ≤ j → j ≤ 6 → oa 9 i = oa 9 j → i = j) {T i j : Nat} (hT : xk_o T ∨ T = 9) (hi : i ≤ x_cn h T) (hj : j ≤ x_cn h T) :
    ∃ a b : Option Nat, x_cr n0 oa h T i = va_rf a ∧ x_cr n0 oa h T j = va_rf b ∧ (a = b ↔ i = j) := by
  refine ⟨if i = 0 then none else some (x_addr n0 oa h T i), if j = 0 then none else some (x_addr n0 oa h T j), ?_, ?_, ?_⟩
  · unfold x_cr; by_cases e : i = 0
    · rw [if_pos e, if_pos e]; rfl
    · rw [if_neg e, if_neg e]; rfl
  · unfold x_cr; by_cases e : j = 0
    · rw [if_pos e, if_pos e]; rfl
    · rw [if_neg e, if_neg e]; rfl
  · constructor
    · intro q
      by_cases e : i = 0
      · rw [if_pos e] at q
        by_cases e' : j = 0
        · omega
        · rw [if_neg e'] at q; cases q
      · rw [if_neg e] at q
        by_cases e' : j = 0
        · rw [if_pos e'] at q; cases q
        · rw [if_neg e'] at q
          have q := Option.some.inj q
          rcases hT with hT | rfl
          · rw [x_addr_in (Or.inl hT), x_addr_in (Or.inl hT)] at q
            exact (hR.2.2.2.1 T i T j (Or.inl hT) (Or.inl hT) ⟨by omega, hi⟩ ⟨by omega, hj⟩ (by omega)).2
          · have h6 := hR.2.2.2.2.2.2
            exact hoa i j (by omega) (by omega) (by omega) (by omega) (by simpa [x_addr] using q)
    · rintro rfl; rfl
theorem snd_aeq {off : Int} {T a : Nat} (hT : xk_o T ∨ T = 9) (ht : (pc : Int) + off = (a : Int)) (hd : decode M.cd pc = .ok (.if_acmp .eq off, 3)) : x_Snd xm M pc (pc + 3) (x_aeq T a) := by
  rintro n0 oa D p l e R s m args below meth c Γ Z J q h0 ⟨ls, st, h⟩ C - hf hq hJ H locs fl hR hle hL h1 h2 hS hc hs
  obtain ⟨hx, hb, -, -, -, -, -, -, -, -, hSt, -⟩ := C
  unfold x_aeq at hf
  dsimp only at hf hL h1 h2 ⊢
  split at hf
  · rename_i t j t' j' st
    obtain ⟨rfl, rfl, k1, k2⟩ := hf
    obtain ⟨u, v, e1, e2, e3⟩ := x_cr_inj hR hSt.2.1 hT (i := j') (j := j) (x_tl h2 _ List.mem_cons_self) (h2 _ List.mem_cons_self)
    rw [List.map_cons, List.map_cons, show x_cv n0 oa h (.inr (.inr (t', j))) = va_rf v from e2, show x_cv n0 oa h (.inr (.inr (t', j'))) = va_rf u from e1]
    exact lv_acmp_eq hx hb hd ht (fun k => hJ _ _ (k1 (e3.mp k)) H locs fl hR hle hL h1 (x_tl (x_tl h2)) hS hc hs) (fun k => hq _ (k2 (fun z => k (e3.mpr z))) H locs fl hR hle hL h1 (x_tl (x_tl h2)) hS hc hs)
  · exact hf.elim
theorem snd_ane {off : Int} {T a : Nat} (hT : xk_o T ∨ T = 9) (ht : (pc : Int) + off = (a : Int)) (hd : decode M.cd pc = .ok (.if_acmp .ne off, 3)) : x_Snd xm M pc (pc + 3) (x_ane T a) := by
  rintro n0 oa D p l e R s m args below meth c Γ Z J q h0 ⟨ls, st, h⟩ C - hf hq hJ H locs fl hR hle hL h1 h2 hS hc hs
  obtain ⟨hx, hb, -, -, -, -, -, -, -, -, hSt, -⟩ := C
  unfold x_ane at hf
  dsimp only at hf hL h1 h2 ⊢
  split at hf
  · rename_i t j t' j' st
    obtain ⟨rfl, rfl, k1, k2⟩ := hf
    obtain ⟨u, v, e1, e2, e3⟩ := x_cr_inj hR hSt.2.1 hT (i := j') (j := j) (x_tl h2 _ List.mem_cons_self) (h2 _ List.mem_cons_self)
    rw [List.map_cons, List.map_cons, show x_cv n0 oa h (.inr (.inr (t', j))) = va_rf v from e2, show x_cv n0 oa h (.inr (.inr (t', j'))) = va_rf u from e1]
    exact lv_acmp_ne hx hb hd ht (fun k => hJ _ _ (k1 (fun z => k (e3.mpr z))) H locs fl hR hle hL h1 (x_tl (x_tl h2)) hS hc hs) (fun k => hq _ (k2 (e3.mp k)) H locs fl hR hle hL h1 (x_tl (x_tl h2)) hS hc hs)
  · exact hf.elim
/-- a switch: the offsets are the targets less pc -/
theorem snd_switch {lo hi dflt : Int} {offs : Array Int} {tg : List Nat} {d len : Nat} (hh : lo + tg.length = hi + 1) (ho : offs.toList = tg.map (fun a : Nat => (a : Int) - (pc : Int))) (htd : (pc : Int) + dflt = (d : Int)) (hd : decode M.cd pc = .ok (.tableswitch dflt lo hi offs, len)) : x_Snd xm M pc (pc + len) (x_switch lo tg d) := by
  rintro n0 oa D p l e R s m args below meth c Γ Z J q h0 ⟨ls, st, h⟩ C - hf - hJ H locs fl hR hle hL h1 h2 hS hc hs
  obtain ⟨hx, hb, -⟩ := C
  unfold x_switch at hf
  dsimp only at hf hL h1 h2 ⊢
  split at hf
  · rename_i x st
    by_cases k1 : x.toInt < lo
    · exact lv_tableOut hx hb hd (Or.inl k1) htd (hJ _ _ (hf.2 (Or.inl k1)) H locs fl hR hle hL h1 (x_tl h2) hS hc hs)
    · by_cases k2 : hi < x.toInt
      · exact lv_tableOut hx hb hd (Or.inr k2) htd (hJ _ _ (hf.2 (Or.inr (by omega))) H locs fl hR hle hL h1 (x_tl h2) hS hc hs)
      · obtain ⟨n, hn⟩ : ∃ n : Nat, x.toInt - lo = n := ⟨(x.toInt - lo).toNat, by omega⟩
        have hlt : n < tg.length := by omega
        have hg : offs[n]? = some ((tg[n] : Int) - pc) := by
          rw [← Array.getElem?_toList, ho, List.getElem?_map, List.getElem?_eq_getElem hlt]
          rfl
        exact lv_tableIn (off := (tg[n] : Int) - pc) (tgt := tg[n]) hx hb hd k1 k2 (by rw [hn]; exact hg) (by omega) (hJ _ _ (hf.1 n tg[n] (List.getElem?_eq_getElem hlt) (by omega)) H locs fl hR hle hL h1 (x_tl h2) hS hc hs)
  · exact hf.elim
-- fields
theorem x_get0 {n0 : Nat} {oa : Nat → Nat → Nat} {D : (Nat → ClassId) × (Nat → Nat → Nat) × (Nat → ClassId)} {p : Program} {l : Launch} {e : Env} {R : Room} {s : State} {m : MethodId} {args : Array Value} {below : List Frame} {meth : Method} {c : Code} {h0 : xH} {Q : State → Prop}
    (C : x_Cx n0 oa D M h0 p l R s m args meth c) {K k idx : Nat} (hK : xk_o K) (hk : k < xk_N K) (hw : Cond.fieldLink M.own idx (xk_T K k).1 (xk_T K k).2.1 (xk_T K k).2.2.1 ∈ x_big) (hd : decode M.cd pc = .ok (.getfield idx, 3))
    {h : xH} {H : Heap} {locs : List Loc} {cells slots : Nat} {fl : Array Slot} {st : List Value} (hR : x_Rep n0 oa D h H) {j : Nat} (hj : x_live h K j)
    (kk : W p l e R s m args below meth c H locs cells slots Q (F0 m (pc + 3) fl (x_cf n0 oa h K k j :: st))) : W p l e R s m args below meth c H locs cells slots Q (F0 m pc fl (x_cr n0 oa h K j :: st)) := by
  obtain ⟨hx, hb, -, hown, hts, -, -, -, -, hKn, -⟩ := C
  rw [x_cr_in (Or.inl hK) hj]
  obtain ⟨-, cell, q1, q2, q3, q4⟩ := hR.2.1 K j hK hj
  obtain ⟨hSl, hfc, kC, hkC, hkind⟩ := hKn.1 K hK
  obtain ⟨cf, kf, fi, f, hi, hsl⟩ := hSl k hk
  refine W.getf hx hb hown (hts _ hw) hi (u_facts hfc hkC (u_lays hts (xk_in K hK) hk) hi).1 q1 (by rw [q3]; exact fun h => by cases h) (v := x_cf n0 oa h K k j) ?_ rfl rfl hd kk
  rw [hsl, q4 k hk]
theorem snd_gfi {K k idx : Nat} (hK : xk_o K) (hk : k < xk_N K) (hft : x_ft K k = 0) (hw : Cond.fieldLink M.own idx (xk_T K k).1 (xk_T K k).2.1 (xk_T K k).2.2.1 ∈ x_big) (hd : decode M.cd pc = .ok (.getfield idx, 3)) : x_Snd xm M pc (pc + 3) (x_gfi K k) := by
  rintro n0 oa D p l e R s m args below meth c Γ Z J q h0 ⟨ls, st, h⟩ C - hf hq - H locs fl hR hle hL h1 h2 hS hc hs
  unfold x_gfi at hf
  dsimp only at hf hL h1 h2 ⊢
  split at hf
  · rename_i t j st
    obtain ⟨rfl, hj, hf⟩ := hf
    refine x_get0 C hK hk hw hd hR hj ?_
    rw [show x_cf n0 oa h t k j = .int (x_vi h t k j) by unfold x_cf; rw [if_pos hft]]
    exact hq _ hf H locs fl hR hle hL h1 (x_lvs_cons trivial (x_tl h2)) hS hc hs
  · exact hf.elim
theorem snd_gfr {K k T idx : Nat} (hK : xk_o K) (hk : k < xk_N K) (hft : x_ft K k = T) (hT : T ≠ 0) (hw : Cond.fieldLink M.own idx (xk_T K k).1 (xk_T K k).2.1 (xk_T K k).2.2.1 ∈ x_big) (hd : decode M.cd pc = .ok (.getfield idx, 3)) : x_Snd xm M pc (pc + 3) (x_gfr K k T) := by
  rintro n0 oa D p l e R s m args below meth c Γ Z J q h0 ⟨ls, st, h⟩ C - hf hq - H locs fl hR hle hL h1 h2 hS hc hs
  unfold x_gfr at hf
  dsimp only at hf hL h1 h2 ⊢
  split at hf
  · rename_i t j st
    obtain ⟨rfl, hj, hf⟩ := hf
    refine x_get0 C hK hk hw hd hR hj ?_
    have hl := hR.2.2.2.2.1 t j k hK hj
    rw [show x_cf n0 oa h t k j = x_cr n0 oa h T (x_vr h t k j) by unfold x_cf; rw [if_neg (by rw [hft]; exact hT), hft]]
    rw [hft] at hl
    exact hq _ hf H locs fl hR hle hL h1 (x_lvs_cons hl (x_tl h2)) hS hc hs
  · exact hf.elim
theorem x_put0 {n0 : Nat} {oa : Nat → Nat → Nat} {D : (Nat → ClassId) × (Nat → Nat → Nat) × (Nat → ClassId)} {p : Program} {l : Launch} {e : Env} {R : Room} {s : State} {m : MethodId} {args : Array Value} {below : List Frame} {meth : Method} {c : Code} {h0 : xH} {Q : State → Prop}
    (C : x_Cx n0 oa D M h0 p l R s m args meth c) {K k idx : Nat} (hK : xk_o K) (hk : k < xk_N K) (hw : Cond.fieldLink M.own idx (xk_T K k).1 (xk_T K k).2.1 (xk_T K k).2.2.1 ∈ x_big) (hd : decode M.cd pc = .ok (.putfield idx, 3))
    (hfin : (xk_T K k).2.2.2 = false ∨ ((xk_T K k).2.2.2 = true ∧ M.ini = true ∧ (xk_T K k).1 = M.own))
    {h h' : xH} {H : Heap} {locs : List Loc} {cells slots : Nat} {fl : Array Slot} {st : List Value} (hR : x_Rep n0 oa D h H) (hle : x_le h0 h) (hS : va_S (fun q => n0 ≤ q) s.heap H locs) {j : Nat} (hj : x_live h K j) {v : Value}
    (hn : narrow (xk_ty K k) v = v) (hv : fits (xk_ty K k) v = true)
    (e1 : x_cn h' = x_cn h) (e2 : x_ln h' = x_ln h) (e3 : x_ad h' = x_ad h) (e4 : x_sz h' = x_sz h)
    (f1 : ∀ K' k' j', ¬ (K' = K ∧ k' = k ∧ j' = j) → x_cf n0 oa h' K' k' j' = x_cf n0 oa h K' k' j') (f0 : x_cf n0 oa h' K k j = v)
    (f2 : ∀ K' j' i, xk_a K' → x_ae n0 oa h' K' j' i = x_ae n0 oa h K' j' i)
    (l1 : ∀ K j k, xk_o K → x_live h K j → x_vr h' K k j ≤ x_cn h (x_ft K k)) (l2 : ∀ K j i, xk_a K → x_live h K j → x_vr h' K j i ≤ x_cn h (x_et K))
    (kk : ∀ (H1 : Heap) (locs1 : List Loc), x_Rep n0 oa D h' H1 → va_S (fun q => n0 ≤ q) s.heap H1 locs1 → W p l e R s m args below meth c H1 locs1 cells slots Q (F0 m (pc + 3) fl st)) : W p l e R s m args below meth c H locs cells slots Q (F0 m pc fl (v :: x_cr n0 oa h K j :: st)) := by
  obtain ⟨hx, hb, -, hown, hts, -, -, hini, -, hKn, -, hn0, -⟩ := C
  rw [x_cr_in (Or.inl hK) hj]
  obtain ⟨-, cell, q1, q2, q3, q4⟩ := hR.2.1 K j hK hj
  obtain ⟨hSl, hfc, kC, hkC, hkind⟩ := hKn.1 K hK
  obtain ⟨cf, kf, fi, f, hi, hsl⟩ := hSl k hk
  have hlay := hts _ (xk_in K hK _ (u_in_lay hk))
  have hst := (u_facts hfc hkC (u_lays hts (xk_in K hK) hk) hi).1
  have hap : ∀ x y, x < xk_N K → y < xk_N K → x ≠ y → (D.2.1 K) x ≠ (D.2.1 K) y := by
    intro x y hx9 hy9 hne
    obtain ⟨_, _, _, fa, hia, ea⟩ := hSl x hx9
    obtain ⟨_, _, _, fb, hib, eb⟩ := hSl y hy9
    rw [← ea, ← eb]
    refine u_apart (u_lays hts (xk_in K hK) hx9) (u_lays hts (xk_in K hK) hy9) hia hib ?_
    rw [(State.fieldFound?_type hia (xk_tyok K hK x hx9)).1, (State.fieldFound?_type hib (xk_tyok K hK y hy9)).1]
    exact xk_nm K hK x hx9 y hy9 hne
  have fin : ∀ H' : Heap, H'[n0 + x_ad h K j]? = some (cell.setSlot f.slot v) → H'.size = H.size → (∀ q, q ≠ n0 + x_ad h K j → H'[q]? = H[q]?) → W p l e R s m args below meth c H' (locs ++ [⟨n0 + x_ad h K j, f.slot⟩]) cells slots Q (F0 m (pc + 3) fl st) := by
    intro H' g1 g2 g3
    refine kk H' _ ?_ (hS.put g2 g3 (Nat.le_add_right _ _))
    refine hR.put (K := K) (j := j) e1 e2 e3 e4 (Or.inl hK) hj g2 g3 (fun K' k' j' _ _ hne => f1 K' k' j' (fun z => hne ⟨z.1, z.2.2⟩)) (fun K' j' i ha _ _ => f2 K' j' i ha) (fun _ => ?_) (fun ha => ?_) l1 l2
    · rw [hsl] at g1
      refine ⟨_, g1, q2, q3, fun k' hk' => ?_⟩
      rw [t_set q4 hap hk v k' hk']
      show some (updV (fun k => x_cf n0 oa h K k j) k v k') = some (x_cf n0 oa h' K k' j)
      unfold updV
      by_cases e9 : k' = k
      · rw [if_pos e9, e9, f0]
      · rw [if_neg e9, f1 K k' j (fun z => e9 z.2.1)]
    · exfalso
      simp only [xk_o, xk_a] at hK ha
      omega
  rcases hfin with hfin | ⟨hfin, hi1, hi2⟩
  · unfold u_lay at hlay
    rw [if_neg (by rw [hfin]; decide)] at hlay
    have h6 := u_store hfc hkC hkind hlay hi (xk_tyok K hK k hk) hn hv
    exact W.putK hx hb (f := f) ⟨hown, hts _ hw, ⟨_, _, _, hi⟩, hst⟩ (by rw [q2]; exact h6) q1 q3 (by rw [hsl]; exact k2_hasslot (q4 k hk)) rfl rfl hd fin
  · unfold u_lay at hlay
    rw [if_pos hfin] at hlay
    have hcf : m.cls = cf := by
      obtain ⟨_, _, c', _, _, _, -, -, hf', -, -, -, hown2, -⟩ := Cond.laysFinal_spec hlay
      have e1 : c' = cf := by have := hi.symm.trans hf'; simp at this; exact this.1.symm
      rw [hi2] at hown2
      rw [← e1]; exact Option.some.inj (hown.symm.trans hown2)
    have h6 := u_fits hfc hkC hkind (Or.inr hlay) hi (xk_tyok K hK k hk) hn hv
    exact W.putFinK hx hb hown (hts _ hw) hi hst hcf (hini hi1) (by rw [q2]; exact h6) q1 q3 (by rw [hsl]; exact k2_hasslot (q4 k hk)) rfl rfl hd fin
theorem x_cf_puti {n0 : Nat} {oa : Nat → Nat → Nat} {h : xH} {K k j : Nat} {v : Int32} {K' k' j' : Nat} (hne : ¬ (K' = K ∧ k' = k ∧ j' = j)) : x_cf n0 oa (x_puti h K k j v) K' k' j' = x_cf n0 oa h K' k' j' := by
  unfold x_cf
  rw [show x_vi (x_puti h K k j v) K' k' j' = x_vi h K' k' j' by show x_u3 (x_vi h) K k j v K' k' j' = _; unfold x_u3; rw [if_neg hne]]
  rfl
theorem x_ae_puti {n0 : Nat} {oa : Nat → Nat → Nat} {h : xH} {K k j : Nat} {v : Int32} {K' j' i : Nat} (hne : ¬ (K' = K ∧ j' = k ∧ i = j)) : x_ae n0 oa (x_puti h K k j v) K' j' i = x_ae n0 oa h K' j' i := by
  unfold x_ae
  rw [show x_vi (x_puti h K k j v) K' j' i = x_vi h K' j' i by show x_u3 (x_vi h) K k j v K' j' i = _; unfold x_u3; rw [if_neg hne]]
  rfl
theorem x_cf_putr {n0 : Nat} {oa : Nat → Nat → Nat} {h : xH} {K k j v K' k' j' : Nat} (hne : ¬ (K' = K ∧ k' = k ∧ j' = j)) : x_cf n0 oa (x_putr h K k j v) K' k' j' = x_cf n0 oa h K' k' j' := by
  unfold x_cf
  rw [show x_vr (x_putr h K k j v) K' k' j' = x_vr h K' k' j' by show x_u3 (x_vr h) K k j v K' k' j' = _; unfold x_u3; rw [if_neg hne]]
  rfl
theorem x_ae_putr {n0 : Nat} {oa : Nat → Nat → Nat} {h : xH} {K k j v K' j' i : Nat} (hne : ¬ (K' = K ∧ j' = k ∧ i = j)) : x_ae n0 oa (x_putr h K k j v) K' j' i = x_ae n0 oa h K' j' i := by
  unfold x_ae
  rw [show x_vr (x_putr h K k j v) K' j' i = x_vr h K' j' i by show x_u3 (x_vr h) K k j v K' j' i = _; unfold x_u3; rw [if_neg hne]]
  rfl
theorem x_o_ne_a {K K' : Nat} (h : xk_o K) (h' : xk_a K') : K' ≠ K := by
  simp only [xk_o, xk_a] at h h'; omega
theorem x_o_ne10 {K : Nat} (h : xk_o K) : K ≠ 10 := by simp only [xk_o] at h; omega
theorem x_a_ne10 {K : Nat} (h : xk_a K) : K ≠ 10 := by simp only [xk_a] at h; omega
theorem x_pfi0 {n0 : Nat} {oa : Nat → Nat → Nat} {D : (Nat → ClassId) × (Nat → Nat → Nat) × (Nat → ClassId)} {p : Program} {l : Launch} {e : Env} {R : Room} {s : State} {m : MethodId} {args : Array Value} {below : List Frame} {meth : Method} {c : Code} {h0 : xH} {Q : State → Prop}
    (C : x_Cx n0 oa D M h0 p l R s m args meth c) {K k idx : Nat} (hK : xk_o K) (hk : k < xk_N K) (hft : x_ft K k = 0) (hw : Cond.fieldLink M.own idx (xk_T K k).1 (xk_T K k).2.1 (xk_T K k).2.2.1 ∈ x_big) (hd : decode M.cd pc = .ok (.putfield idx, 3))
    (hfin : (xk_T K k).2.2.2 = false ∨ ((xk_T K k).2.2.2 = true ∧ M.ini = true ∧ (xk_T K k).1 = M.own)) {n : Int32} (hn : narrow (xk_ty K k) (.int n) = .int n) (hv : fits (xk_ty K k) (.int n) = true)
    {ls st : List xV} {h : xH} {j : Nat} (hj : x_live h K j) (hq : x_At n0 oa D p l e R s m args below meth c M h0 Q (pc + 3) (ls, st, x_puti h K k j n)) : x_At n0 oa D p l e R s m args below meth c M h0 Q pc (ls, .inl n :: .inr (.inr (K, j)) :: st, h) := by
  intro H locs fl hR hle hL h1 h2 hS hc hs
  dsimp only at hR hle hL h1 h2 hc hs ⊢
  refine x_put0 (h' := x_puti h K k j n) C hK hk hw hd hfin hR hle hS hj hn hv rfl rfl rfl rfl (fun K' k' j' z => x_cf_puti z) ?_ (fun K' j' i ha => x_ae_puti (fun z => x_o_ne_a hK ha z.1)) (fun K j k a b => hR.2.2.2.2.1 K j k a b) (fun K j i a b => hR.2.2.2.2.2.1 K j i a b) fun H1 locs1 hR1 hS1 => ?_
  · unfold x_cf
    rw [if_pos hft]
    show Value.int (x_u3 (x_vi h) K k j n K k j) = _
    unfold x_u3
    rw [if_pos ⟨rfl, rfl, rfl⟩]
    rfl
  · have hl := x_le.puti (h := h) (k := k) (i := j) (v := n) (x_o_ne10 hK)
    exact hq H1 locs1 fl hR1 (hle.tr hl) (hL.le hl h1) (x_lvs_le hl h1) (x_lvs_le hl (x_tl (x_tl h2))) hS1 hc hs
theorem snd_pfi {K k idx : Nat} (hK : xk_o K) (hk : k < xk_N K) (hft : x_ft K k = 0) (hty : xk_ty K k = .int) (hw : Cond.fieldLink M.own idx (xk_T K k).1 (xk_T K k).2.1 (xk_T K k).2.2.1 ∈ x_big)
    (hfin : (xk_T K k).2.2.2 = false ∨ ((xk_T K k).2.2.2 = true ∧ M.ini = true ∧ (xk_T K k).1 = M.own)) (hd : decode M.cd pc = .ok (.putfield idx, 3)) : x_Snd xm M pc (pc + 3) (x_pfi K k) := by
  rintro n0 oa D p l e R s m args below meth c Γ Z J q h0 ⟨ls, st, h⟩ C - hf hq -
  unfold x_pfi at hf
  dsimp only at hf
  split at hf
  · obtain ⟨rfl, hj, hf⟩ := hf
    exact x_pfi0 C hK hk hft hw hd hfin (by rw [hty]; rfl) (by rw [hty]; rfl) hj (hq _ hf)
  · exact hf.elim
theorem snd_pfz {K k idx : Nat} (hK : xk_o K) (hk : k < xk_N K) (hft : x_ft K k = 0) (hty : xk_ty K k = .boolean) (hw : Cond.fieldLink M.own idx (xk_T K k).1 (xk_T K k).2.1 (xk_T K k).2.2.1 ∈ x_big)
    (hfin : (xk_T K k).2.2.2 = false ∨ ((xk_T K k).2.2.2 = true ∧ M.ini = true ∧ (xk_T K k).1 = M.own)) (hd : decode M.cd pc = .ok (.putfield idx, 3)) : x_Snd xm M pc (pc + 3) (x_pfz K k) := by
  rintro n0 oa D p l e R s m args below meth c Γ Z J q h0 ⟨ls, st, h⟩ C - hf hq -
  unfold x_pfz at hf
  dsimp only at hf
  split at hf
  · obtain ⟨rfl, hj, hz, hf⟩ := hf
    exact x_pfi0 C hK hk hft hw hd hfin (by rw [hty]; rcases hz with rfl | rfl <;> rfl) (by rw [hty]; rcases hz with rfl | rfl <;> rfl) hj (hq _ hf)
  · exact hf.elim
theorem snd_pfr {K k T idx : Nat} (hK : xk_o K) (hk : k < xk_N K) (hft : x_ft K k = T) (hT : T ≠ 0) (hty : (xk_ty K k).isReference = true) (hw : Cond.fieldLink M.own idx (xk_T K k).1 (xk_T K k).2.1 (xk_T K k).2.2.1 ∈ x_big)
    (hfin : (xk_T K k).2.2.2 = false ∨ ((xk_T K k).2.2.2 = true ∧ M.ini = true ∧ (xk_T K k).1 = M.own)) (hd : decode M.cd pc = .ok (.putfield idx, 3)) : x_Snd xm M pc (pc + 3) (x_pfr K k T) := by
  rintro n0 oa D p l e R s m args below meth c Γ Z J q h0 ⟨ls, st, h⟩ C - hf hq - H locs fl hR hle hL h1 h2 hS hc hs
  unfold x_pfr at hf
  dsimp only at hf hR hle hL h1 h2 hc hs ⊢
  split at hf
  · rename_i t' j' t j st
    obtain ⟨rfl, rfl, hj, hf⟩ := hf
    have hv2 : j' ≤ x_cn h t' := h2 _ List.mem_cons_self
    refine x_put0 (h' := x_putr h t k j j') C hK hk hw hd hfin hR hle hS hj ?_ ?_ rfl rfl rfl rfl (fun K' k' j' z => x_cf_putr z) ?_ (fun K' j' i ha => x_ae_putr (fun z => x_o_ne_a hK ha z.1)) ?_ ?_ fun H1 locs1 hR1 hS1 => ?_
    · show narrow (xk_ty t k) (x_cr n0 oa h t' j') = x_cr n0 oa h t' j'
      rcases x_cr_or n0 oa h t' j' with e9 | ⟨a9, e9⟩ <;> rw [e9] <;> (cases h9 : xk_ty t k <;> rw [h9] at hty <;> first | rfl | (cases hty))
    · show fits (xk_ty t k) (x_cr n0 oa h t' j') = true
      rcases x_cr_or n0 oa h t' j' with e9 | ⟨a9, e9⟩ <;> rw [e9] <;> (cases h9 : xk_ty t k <;> rw [h9] at hty <;> first | rfl | (cases hty))
    · unfold x_cf
      rw [if_neg (by rw [hft]; exact hT), hft]
      show x_cr n0 oa h t' (x_u3 (x_vr h) t k j j' t k j) = x_cr n0 oa h t' j'
      unfold x_u3
      rw [if_pos ⟨rfl, rfl, rfl⟩]
    · intro K9 j9 k9 a9 b9
      show x_u3 (x_vr h) t k j j' K9 k9 j9 ≤ _
      unfold x_u3
      by_cases z : K9 = t ∧ k9 = k ∧ j9 = j
      · rw [if_pos z, z.1, z.2.1, hft]; exact hv2
      · rw [if_neg z]; exact hR.2.2.2.2.1 K9 j9 k9 a9 b9
    · intro K9 j9 i9 a9 b9
      show x_u3 (x_vr h) t k j j' K9 j9 i9 ≤ _
      unfold x_u3
      rw [if_neg (fun z => x_o_ne_a hK a9 z.1)]
      exact hR.2.2.2.2.2.1 K9 j9 i9 a9 b9
    · have hl := x_le.putr (h := h) (K := t) (k := k) (i := j) (v := j')
      exact hq _ hf H1 locs1 fl hR1 (hle.tr hl) (hL.le hl h1) (x_lvs_le hl h1) (x_lvs_le hl (x_tl (x_tl h2))) hS1 hc hs
  · exact hf.elim
theorem snd_stage {j idx : Nat} (h1 : 1 ≤ j) (h6 : j ≤ 6) (hw : Cond.fieldLink M.own idx "CrossbarNet$Stage" (x_sn j) "LCrossbarNet$Stage;" ∈ x_big) (hd : decode M.cd pc = .ok (.getstatic idx, 3)) : x_Snd xm M pc (pc + 3) (x_stage j) := by
  rintro n0 oa D p l e R s m args below meth c Γ Z J q h0 ⟨ls, st, h⟩ C - hf hq - H locs fl hR hle hL h1' h2 hS hc hs
  obtain ⟨hx, hb, -, hown, hts, -, -, -, -, -, hSt, -⟩ := C
  dsimp only at hR hle hL h1' h2 hc hs ⊢
  refine va_gets hx hb (hSt.1 j h1 h6) hS hown (hts _ hw) (fun _ z => z) hd ?_
  have e9 : x_cv n0 oa h (.inr (.inr (9, j))) = .ref (oa 9 j) := by
    show x_cr n0 oa h 9 j = _
    unfold x_cr x_addr
    rw [if_neg (by omega), if_pos (Or.inl rfl)]
  have := hq _ hf H locs fl hR hle hL h1' (x_lvs_cons (show j ≤ x_cn h 9 from ?_) h2) hS hc hs
  · rw [List.map_cons, e9] at this
    exact this
  · rw [hR.2.2.2.2.2.2]; exact h6
end XS2
