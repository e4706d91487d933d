/-! THE KINDS: 1 Call, 2 Line, 3 Office, 4 Route, 5 Row, 6 Trunk, 7 the net, 8 the reference; 9 a stage, 10 the script (both from outside); 11 .. arrays, by the field that holds them -/
def xk_C : Nat → String := fun K => match K with
  | 1 => RX0
  | 2 => RX1
  | 3 => RX2
  | 4 => RX3
  | 5 => RX4
  | 6 => RX6
  | 7 => RX7
  | _ => RX8
def xk_T : Nat → u_T := fun K => match K with
  | 1 => TX0
  | 2 => TX1
  | 3 => TX2
  | 4 => TX3
  | 5 => TX4
  | 6 => TX6
  | 7 => TX7
  | _ => TX8
def xk_N : Nat → Nat := fun K => match K with
  | 1 => 15
  | 2 => 6
  | 3 => 9
  | 4 => 5
  | 5 => 2
  | 6 => 4
  | 7 => 5
  | _ => 49
def xk_ty : Nat → Nat → FieldType := fun K => match K with
  | 1 => tyX0
  | 2 => tyX1
  | 3 => tyX2
  | 4 => tyX3
  | 5 => tyX4
  | 6 => tyX6
  | 7 => tyX7
  | _ => tyX8
def xk_o (K : Nat) : Prop := 1 ≤ K ∧ K ≤ 8
def xk_a (K : Nat) : Prop := 11 ≤ K ∧ K ≤ 64
/-- the kind of what a field refers to; 0: an int or a boolean -/
def x_ftl : List (List Nat) := [[2, 5, 9, 2, 4, 0, 0, 0, 0, 0, 0, 0, 0, 0, 0], [0, 0, 0, 0, 0, 1], [0, 16, 17, 18, 19, 5, 5, 0, 0], [0, 0, 5, 0, 0], [20, 0], [0, 0, 0, 1], [11, 12, 13, 14, 0], [0, 0, 0, 22, 23, 24, 25, 26, 27, 28, 29, 30, 31, 32, 33, 34, 35, 36, 37, 38, 0, 39, 40, 41, 42, 43, 44, 45, 46, 47, 48, 49, 50, 51, 52, 53, 54, 55, 56, 57, 58, 59, 60, 61, 62, 63, 64, 0, 0]]
def x_ft (K k : Nat) : Nat := ((x_ftl[K - 1]?.getD [])[k]?).getD 0
/-- the kind of what an array refers to -/
def x_et (K : Nat) : Nat := match K with
  | 11 => 3
  | 12 => 1
  | 13 => 6
  | 14 => 15
  | 16 => 2
  | 17 => 1
  | 18 => 4
  | 19 => 5
  | _ => 0
def xk_ety (K : Nat) : FieldType := match K with
  | 11 => .object RX2
  | 12 => .object RX0
  | 13 => .object RX6
  | 14 => .array .int
  | 16 => .object RX1
  | 17 => .object RX0
  | 18 => .object RX3
  | 19 => .object RX4
  | 21 => .long
  | 22 => .boolean
  | 34 => .boolean
  | 42 => .boolean
  | 60 => .boolean
  | _ => .int
/-! WHAT A HEAP OF THE MACHINE SAYS OF THE HEAP -/
section XR
variable (n0 : Nat) (oa : Nat → Nat → Nat)
def x_addr (h : xH) (t j : Nat) : Nat := if t = 9 ∨ t = 10 then oa t j else n0 + x_ad h t j
def x_cr (h : xH) (t j : Nat) : Value := if j = 0 then .null else .ref (x_addr n0 oa h t j)
def x_cv (h : xH) (v : xV) : Value := match v with
  | .inl n => .int n
  | .inr (.inl n) => .long n
  | .inr (.inr r) => x_cr n0 oa h r.1 r.2
/-- what field k of the object j of kind K holds -/
def x_cf (h : xH) (K k j : Nat) : Value := if x_ft K k = 0 then .int (x_vi h K k j) else x_cr n0 oa h (x_ft K k) (x_vr h K k j)
/-- what place i of the array j of kind K holds -/
def x_ae (h : xH) (K j i : Nat) : Value := if K = 21 then .long (x_lg h) else if x_et K = 0 then .int (x_vi h K j i) else x_cr n0 oa h (x_et K) (x_vr h K j i)
def x_Rep (D : (Nat → ClassId) × (Nat → Nat → Nat) × (Nat → ClassId)) (h : xH) (H : Heap) : Prop :=
  H.size = n0 + x_sz h ∧
  (∀ K j, xk_o K → x_live h K j → x_ad h K j < x_sz h ∧ t_OB (n0 + x_ad h K j) (D.1 K) (xk_N K) (D.2.1 K) H (fun k => x_cf n0 oa h K k j)) ∧
  (∀ K j, xk_a K → x_live h K j → x_ad h K j < x_sz h ∧ H[n0 + x_ad h K j]? = some (arrV (D.2.2 K) (x_ln h K j) (fun i => x_ae n0 oa h K j i))) ∧
  (∀ K j K' j', (xk_o K ∨ xk_a K) → (xk_o K' ∨ xk_a K') → x_live h K j → x_live h K' j' → x_ad h K j = x_ad h K' j' → K = K' ∧ j = j') ∧
  (∀ K j k, xk_o K → x_live h K j → x_vr h K k j ≤ x_cn h (x_ft K k)) ∧
  (∀ K j i, xk_a K → x_live h K j → x_vr h K j i ≤ x_cn h (x_et K)) ∧ x_cn h 9 = 6
/-- a value's reference is null or there -/
def x_lv (h : xH) (v : xV) : Prop := match v with
  | .inr (.inr r) => r.2 ≤ x_cn h r.1
  | _ => True
/-- a later heap: what was there is where it was -/
def x_le (h h' : xH) : Prop := (∀ K, x_cn h K ≤ x_cn h' K) ∧ (∀ K j, j ≤ x_cn h K → x_ad h' K j = x_ad h K j) ∧ x_vi h' 10 = x_vi h 10 ∧ x_ln h' 10 = x_ln h 10
end XR
theorem x_le.rf {h : xH} : x_le h h := ⟨fun _ => Nat.le_refl _, fun _ _ _ => rfl, rfl, rfl⟩
theorem x_le.tr {a b c : xH} (h1 : x_le a b) (h2 : x_le b c) : x_le a c :=
  ⟨fun K => Nat.le_trans (h1.1 K) (h2.1 K), fun K j hj => (h2.2.1 K j (Nat.le_trans hj (h1.1 K))).trans (h1.2.1 K j hj), h2.2.2.1.trans h1.2.2.1, h2.2.2.2.trans h1.2.2.2⟩
theorem x_cr_le {n0 : Nat} {oa : Nat → Nat → Nat} {h h' : xH} (hl : x_le h h') {t j : Nat} (hj : j ≤ x_cn h t) : x_cr n0 oa h' t j = x_cr n0 oa h t j := by
  unfold x_cr x_addr
  rw [hl.2.1 t j hj]
theorem x_cv_le {n0 : Nat} {oa : Nat → Nat → Nat} {h h' : xH} (hl : x_le h h') {v : xV} (hv : x_lv h v) : x_cv n0 oa h' v = x_cv n0 oa h v := by
  match v, hv with
  | .inl n, _ => rfl
  | .inr (.inl n), _ => rfl
  | .inr (.inr r), hv => exact x_cr_le hl hv
theorem x_lv_le {h h' : xH} (hl : x_le h h') {v : xV} (hv : x_lv h v) : x_lv h' v := by
  match v, hv with
  | .inl n, _ => trivial
  | .inr (.inl n), _ => trivial
  | .inr (.inr r), hv => exact Nat.le_trans hv (hl.1 r.1)
theorem x_cvs_le {n0 : Nat} {oa : Nat → Nat → Nat} {h h' : xH} (hl : x_le h h') : ∀ {l : List xV}, (∀ v ∈ l, x_lv h v) → l.map (x_cv n0 oa h') = l.map (x_cv n0 oa h)
  | [], _ => rfl
  | v :: r, hv => by
    rw [List.map_cons, List.map_cons, x_cv_le hl (hv v List.mem_cons_self), x_cvs_le hl (fun w hw => hv w (List.mem_cons_of_mem _ hw))]
theorem x_lvs_le {h h' : xH} (hl : x_le h h') {l : List xV} (hv : ∀ v ∈ l, x_lv h v) : ∀ v ∈ l, x_lv h' v := fun v h => x_lv_le hl (hv v h)
theorem x_live_le {h h' : xH} (hl : x_le h h') {K j : Nat} (hv : x_live h K j) : x_live h' K j := ⟨hv.1, Nat.le_trans hv.2 (hl.1 K)⟩
theorem x_addr_in {n0 : Nat} {oa : Nat → Nat → Nat} {h : xH} {K j : Nat} (hK : xk_o K ∨ xk_a K) : x_addr n0 oa h K j = n0 + x_ad h K j := by
  unfold x_addr
  rw [if_neg]
  rcases hK with h | h <;> (simp only [xk_o, xk_a] at h; omega)
theorem x_cr_in {n0 : Nat} {oa : Nat → Nat → Nat} {h : xH} {K j : Nat} (hK : xk_o K ∨ xk_a K) (hj : x_live h K j) : x_cr n0 oa h K j = .ref (n0 + x_ad h K j) := by
  unfold x_cr
  rw [if_neg (by have := hj.1; omega), x_addr_in hK]
-- puts leave all but the contents
theorem x_le.puti {h : xH} {K k i : Nat} {v : Int32} (hK : K ≠ 10) : x_le h (x_puti h K k i v) :=
  ⟨fun _ => Nat.le_refl _, fun _ _ _ => rfl, by funext a b; show x_u3 (x_vi h) K k i v 10 a b = x_vi h 10 a b; unfold x_u3; rw [if_neg (fun q => hK q.1.symm)], rfl⟩
theorem x_le.putr {h : xH} {K k i v : Nat} : x_le h (x_putr h K k i v) := ⟨fun _ => Nat.le_refl _, fun _ _ _ => rfl, rfl, rfl⟩
theorem x_le.putl {h : xH} {v : Int64} : x_le h (x_putl h v) := ⟨fun _ => Nat.le_refl _, fun _ _ _ => rfl, rfl, rfl⟩
theorem x_le.setc {h : xH} {a b : Nat} : x_le h (x_setc h a b) := ⟨fun _ => Nat.le_refl _, fun _ _ _ => rfl, rfl, rfl⟩
theorem x_le.exc {h : xH} {d : Nat} : x_le h (x_exc h d) := ⟨fun _ => Nat.le_refl _, fun _ _ _ => rfl, rfl, rfl⟩
theorem x_le.new {h : xH} {K N : Nat} (hK : K ≠ 10) : x_le h (x_new h K N) := by
  refine ⟨fun K' => ?_, fun K' j hj => ?_, ?_, rfl⟩
  · show x_cn h K' ≤ x_u1 (x_cn h) K (x_cn h K + 1) K'
    unfold x_u1
    by_cases e : K' = K
    · rw [if_pos e, e]; omega
    · rw [if_neg e]; exact Nat.le_refl _
  · show x_u2 (x_ad h) K (x_cn h K + 1) _ K' j = x_ad h K' j
    unfold x_u2
    rw [if_neg]
    rintro ⟨rfl, rfl⟩
    omega
  · funext a b
    show (if 10 = K ∧ b = x_cn h K + 1 then 0 else x_vi h 10 a b) = x_vi h 10 a b
    rw [if_neg (fun q => hK q.1.symm)]
theorem x_le.newa {h : xH} {K n : Nat} (hK : K ≠ 10) : x_le h (x_newa h K n) := by
  refine ⟨fun K' => ?_, fun K' j hj => ?_, ?_, ?_⟩
  · show x_cn h K' ≤ x_u1 (x_cn h) K (x_cn h K + 1) K'
    unfold x_u1
    by_cases e : K' = K
    · rw [if_pos e, e]; omega
    · rw [if_neg e]; exact Nat.le_refl _
  · show x_u2 (x_ad h) K (x_cn h K + 1) _ K' j = x_ad h K' j
    unfold x_u2
    rw [if_neg]
    rintro ⟨rfl, rfl⟩
    omega
  · funext a b
    show (if 10 = K ∧ a = x_cn h K + 1 then 0 else x_vi h 10 a b) = x_vi h 10 a b
    rw [if_neg (fun q => hK q.1.symm)]
  · funext a
    show x_u2 (x_ln h) K (x_cn h K + 1) n 10 a = x_ln h 10 a
    unfold x_u2
    rw [if_neg (fun q => hK q.1.symm)]
/-- one cell's contents change -/
theorem x_Rep.put {n0 : Nat} {oa : Nat → Nat → Nat} {D : (Nat → ClassId) × (Nat → Nat → Nat) × (Nat → ClassId)} {h h' : xH} {H H' : Heap} (hR : x_Rep n0 oa D h H) {K j : Nat}
    (e1 : x_cn h' = x_cn h) (e2 : x_ln h' = x_ln h) (e3 : x_ad h' = x_ad h) (e4 : x_sz h' = x_sz h) (hK : xk_o K ∨ xk_a K) (hj : x_live h K j)
    (hz : H'.size = H.size) (ho : ∀ q, q ≠ n0 + x_ad h K j → H'[q]? = H[q]?)
    (f1 : ∀ K' k j', xk_o K' → x_live h K' j' → ¬ (K' = K ∧ j' = j) → x_cf n0 oa h' K' k j' = x_cf n0 oa h K' k j')
    (f2 : ∀ K' j' i, xk_a K' → x_live h K' j' → ¬ (K' = K ∧ j' = j) → x_ae n0 oa h' K' j' i = x_ae n0 oa h K' j' i)
    (g1 : xk_o K → t_OB (n0 + x_ad h K j) (D.1 K) (xk_N K) (D.2.1 K) H' (fun k => x_cf n0 oa h' K k j))
    (g2 : xk_a K → H'[n0 + x_ad h K j]? = some (arrV (D.2.2 K) (x_ln h K j) (fun i => x_ae n0 oa h' K j i)))
    (l1 : ∀ K j k, xk_o K → x_live h K j → x_vr h' K k j ≤ x_cn h (x_ft K k)) (l2 : ∀ K j i, xk_a K → x_live h K j → x_vr h' K j i ≤ x_cn h (x_et K)) : x_Rep n0 oa D h' H' := by
  obtain ⟨a1, a2, a3, a4, -, -, a7⟩ := hR
  have lv : ∀ K j, x_live h' K j → x_live h K j := fun K j q => by unfold x_live at *; rw [e1] at q; exact q
  refine ⟨by rw [hz, a1, e4], fun K' j' hK' hj' => ?_, fun K' j' hK' hj' => ?_, fun K1 j1 K2 j2 b1 b2 b3 b4 b5 => ?_, fun K' j' k b1 b2 => ?_, fun K' j' k b1 b2 => ?_, by rw [e1]; exact a7⟩
  · have hl := lv _ _ hj'
    rw [e3, e4]
    refine ⟨(a2 K' j' hK' hl).1, ?_⟩
    by_cases e : K' = K ∧ j' = j
    · obtain ⟨rfl, rfl⟩ := e
      exact g1 hK'
    · have hne : n0 + x_ad h K' j' ≠ n0 + x_ad h K j := fun q => e (a4 K' j' K j (Or.inl hK') hK hl hj (by omega))
      exact t_OB.to ((a2 K' j' hK' hl).2.kept (ho _ hne)) (fun k _ => (f1 K' k j' hK' hl e).symm)
  · have hl := lv _ _ hj'
    rw [e3, e4, e2]
    refine ⟨(a3 K' j' hK' hl).1, ?_⟩
    by_cases e : K' = K ∧ j' = j
    · obtain ⟨rfl, rfl⟩ := e
      exact g2 hK'
    · have hne : n0 + x_ad h K' j' ≠ n0 + x_ad h K j := fun q => e (a4 K' j' K j (Or.inr hK') hK hl hj (by omega))
      rw [ho _ hne, (a3 K' j' hK' hl).2]
      exact congrArg some (congrArg (arrV _ _) (funext fun i => (f2 K' j' i hK' hl e).symm))
  · rw [e3] at b5
    exact a4 K1 j1 K2 j2 b1 b2 (lv _ _ b3) (lv _ _ b4) b5
  · rw [e1]; exact l1 K' j' k b1 (lv _ _ b2)
  · rw [e1]; exact l2 K' j' k b1 (lv _ _ b2)
