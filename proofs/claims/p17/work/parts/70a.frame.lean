/-! WHAT COMES OUT OF A METHOD, WHERE IT COMES TO AN END: that it does is known from the rows before; here are words about the end alone -/
def Bn (n μ pc : Nat) (S : xS) (Q : xO → xH → Prop) : Prop := ∀ Z, xR n μ pc S Z → xR n μ pc S (fun o g => Z o g ∧ Q o g)
def En (μ : Nat) (a : List xV) (h : xH) (Q : xO → xH → Prop) : Prop := ∀ n Z, xC n μ a h Z → xC n μ a h (fun o g => Z o g ∧ Q o g)
def Tn (n μ : Nat) (L : List (Nat × xI)) (S : xS) (Q : xO → xH → Prop) : Prop := ∀ Z, x_seq L (xC n) Z (fun pc' S' => xR n μ pc' S' Z) S → x_seq L (xC n) (fun o g => Z o g ∧ Q o g) (fun pc' S' => xR n μ pc' S' (fun o g => Z o g ∧ Q o g)) S
section XE
variable {σ : Type}
/-- a word on the heap in terms of a state; it must not see the method's own counts -/
def RS (R : σ → xH → Prop) : Prop := (∀ s h a b, R s h → R s (x_setc h a b)) ∧ (∀ s h d, R s h → R s (x_exc h d))
def EC (R : σ → xH → Prop) (μ : Nat) (a : List xV) (s : σ) (G : xO → σ → Prop) : Prop := ∀ h, R s h → En μ a h (fun o g => ∃ s', R s' g ∧ G o s')
/-- .. one end alone -/
abbrev ED (R : σ → xH → Prop) (μ : Nat) (a : List xV) (s : σ) (o : xO) (s' : σ) : Prop := EC R μ a s (fun o' t => o' = o ∧ t = s')
def BC (R : σ → xH → Prop) (n μ pc : Nat) (ls st : List xV) (s : σ) (G : xO → σ → Prop) : Prop := ∀ h, R s h → Bn n μ pc (ls, st, h) (fun o g => ∃ s', R s' g ∧ G o s')
def TC (R : σ → xH → Prop) (n μ : Nat) (L : List (Nat × xI)) (ls st : List xV) (s : σ) (G : xO → σ → Prop) : Prop := ∀ h, R s h → Tn n μ L (ls, st, h) (fun o g => ∃ s', R s' g ∧ G o s')
variable {R : σ → xH → Prop} {m μ nx : Nat} {r : List (Nat × xI)} {ls st : List xV} {s : σ} {G : xO → σ → Prop}
theorem EC.mk {a : List xV} (k : ∀ n, BC R n μ 0 (x_init (x_xm μ).mL a) [] s G) : EC R μ a s G := fun h C n Z H => ⟨H.1, H.2.1, H.2.2.1, k n h C Z H.2.2.2⟩
theorem BC.blk {n pc : Nat} {L : List (Nat × xI)} (hc : x_cd μ pc = L) (k : ∀ m, m < n → TC R m μ L ls st s G) : BC R n μ pc ls st s G := by
  intro h C Z H
  cases n with
  | zero => exact H.elim
  | succ m =>
    have H : x_seq (x_cd μ pc) (xC m) Z (fun pc' S' => xR m μ pc' S' Z) (ls, st, h) := H
    rw [hc] at H
    exact xR.blk hc (k m (Nat.lt_succ_self m) h C Z H)
theorem EC.mono {a : List xV} {G' : xO → σ → Prop} (e : EC R μ a s G) (k : ∀ o t, G o t → G' o t) : EC R μ a s G' := fun h C n Z H => (e h C n Z H).mono (Nat.le_refl n) (fun _ _ z => ⟨z.1, z.2.elim (fun t q => ⟨t, q.1, k _ t q.2⟩)⟩)
theorem BC.mono {n pc : Nat} {G' : xO → σ → Prop} (e : BC R n μ pc ls st s G) (k : ∀ o t, G o t → G' o t) : BC R n μ pc ls st s G' := fun h C Z H => (e h C Z H).mono (Nat.le_refl n) (fun _ _ z => ⟨z.1, z.2.elim (fun t q => ⟨t, q.1, k _ t q.2⟩)⟩)
theorem c_iload {a : Nat} {n : Int32} (ha : ls[a]? = some (.inl n)) (kk : TC R m μ r ls (.inl n :: st) s G) : TC R m μ ((nx, x_iload a) :: r) ls st s G := by
  intro h C Z H
  have H : x_iload a (xC m) Z (fun pc' S' => xR m μ pc' S' Z) (fun S' => x_seq r (xC m) Z (fun pc' S' => xR m μ pc' S' Z) S') (ls, st, h) := H
  unfold x_iload at H
  simp only [ha] at H
  exact q_iload ha (kk h C Z H)
theorem c_aload {a t j : Nat} (ha : ls[a]? = some (.inr (.inr (t, j)))) (kk : TC R m μ r ls (.inr (.inr (t, j)) :: st) s G) : TC R m μ ((nx, x_aload a) :: r) ls st s G := by
  intro h C Z H
  have H : x_aload a (xC m) Z (fun pc' S' => xR m μ pc' S' Z) (fun S' => x_seq r (xC m) Z (fun pc' S' => xR m μ pc' S' Z) S') (ls, st, h) := H
  unfold x_aload at H
  simp only [ha] at H
  exact q_aload ha H.1 (kk h C Z H.2)
theorem c_istore {a : Nat} {n : Int32} {ls' : List xV} (hl : ls.set a (.inl n) = ls') (kk : TC R m μ r ls' st s G) : TC R m μ ((nx, x_istore a) :: r) ls (.inl n :: st) s G := by
  subst hl
  intro h C Z H
  obtain ⟨h1, H⟩ := H
  exact ⟨h1, kk h C Z H⟩
theorem c_astore {a : Nat} {v : Nat × Nat} {ls' : List xV} (hl : ls.set a (.inr (.inr v)) = ls') (kk : TC R m μ r ls' st s G) : TC R m μ ((nx, x_astore a) :: r) ls (.inr (.inr v) :: st) s G := by
  subst hl
  intro h C Z H
  obtain ⟨h1, H⟩ := H
  exact ⟨h1, kk h C Z H⟩
theorem c_iinc {a : Nat} {v n : Int32} {ls' : List xV} (ha : ls[a]? = some (.inl n)) (hl : ls.set a (.inl (n + v)) = ls') (kk : TC R m μ r ls' st s G) : TC R m μ ((nx, x_iinc a v) :: r) ls st s G := by
  subst hl
  intro h C Z H
  have H : x_iinc a v (xC m) Z (fun pc' S' => xR m μ pc' S' Z) (fun S' => x_seq r (xC m) Z (fun pc' S' => xR m μ pc' S' Z) S') (ls, st, h) := H
  unfold x_iinc at H
  simp only [ha] at H
  exact q_iinc ha (kk h C Z H)
theorem c_iconst {v : Int32} (kk : TC R m μ r ls (.inl v :: st) s G) : TC R m μ ((nx, x_iconst v) :: r) ls st s G := fun h C Z H => kk h C Z H
theorem c_null {t : Nat} (kk : TC R m μ r ls (.inr (.inr (t, 0)) :: st) s G) : TC R m μ ((nx, x_null t) :: r) ls st s G := fun h C Z H => kk h C Z H
theorem c_stage {t : Nat} (kk : TC R m μ r ls (.inr (.inr (9, t)) :: st) s G) : TC R m μ ((nx, x_stage t) :: r) ls st s G := fun h C Z H => kk h C Z H
theorem c_bin {f : Int32 → Int32 → Int32} {x y z : Int32} (e : f x y = z) (kk : TC R m μ r ls (.inl z :: st) s G) : TC R m μ ((nx, x_bin f) :: r) ls (.inl y :: .inl x :: st) s G := by
  subst e
  exact fun h C Z H => kk h C Z H
theorem c_idiv {x y z : Int32} (e : x / y = z) (kk : TC R m μ r ls (.inl z :: st) s G) : TC R m μ ((nx, x_idiv) :: r) ls (.inl y :: .inl x :: st) s G := by
  subst e
  intro h C Z H
  obtain ⟨h1, H⟩ := H
  exact ⟨h1, kk h C Z H⟩
theorem c_irem {x y z : Int32} (e : x - x / y * y = z) (kk : TC R m μ r ls (.inl z :: st) s G) : TC R m μ ((nx, x_irem) :: r) ls (.inl y :: .inl x :: st) s G := by
  subst e
  intro h C Z H
  obtain ⟨h1, H⟩ := H
  exact ⟨h1, kk h C Z H⟩
theorem c_dup {v : xV} (kk : TC R m μ r ls (v :: v :: st) s G) : TC R m μ ((nx, x_dup) :: r) ls (v :: st) s G := by
  intro h C Z H
  obtain ⟨h1, H⟩ := H
  exact ⟨h1, kk h C Z H⟩
theorem c_dup2 {v w : xV} (kk : TC R m μ r ls (v :: w :: v :: w :: st) s G) : TC R m μ ((nx, x_dup2) :: r) ls (v :: w :: st) s G := by
  intro h C Z H
  obtain ⟨h1, h2, H⟩ := H
  exact ⟨h1, h2, kk h C Z H⟩
theorem c_pop {v : xV} (kk : TC R m μ r ls st s G) : TC R m μ ((nx, x_pop) :: r) ls (v :: st) s G := by
  intro h C Z H
  obtain ⟨h1, H⟩ := H
  exact ⟨h1, kk h C Z H⟩
theorem c_goto {a : Nat} (kk : BC R m μ a ls st s G) : TC R m μ ((nx, x_goto a) :: r) ls st s G := fun h C Z H => kk h C Z H
theorem c_if {c : Int32 → Prop} {a : Nat} {x : Int32} (kt : c x → BC R m μ a ls st s G) (kf : ¬ c x → TC R m μ r ls st s G) : TC R m μ ((nx, x_if c a) :: r) ls (.inl x :: st) s G := by
  intro h C Z H
  obtain ⟨h1, h2⟩ := H
  exact ⟨fun z => kt z h C Z (h1 z), fun z => kf z h C Z (h2 z)⟩
theorem c_icmp {c : Int32 → Int32 → Prop} {a : Nat} {x y : Int32} (kt : c x y → BC R m μ a ls st s G) (kf : ¬ c x y → TC R m μ r ls st s G) : TC R m μ ((nx, x_icmp c a) :: r) ls (.inl y :: .inl x :: st) s G := by
  intro h C Z H
  obtain ⟨h1, h2⟩ := H
  exact ⟨fun z => kt z h C Z (h1 z), fun z => kf z h C Z (h2 z)⟩
theorem c_aeq {T a j j' : Nat} (kt : j' = j → BC R m μ a ls st s G) (kf : ¬ j' = j → TC R m μ r ls st s G) : TC R m μ ((nx, x_aeq T a) :: r) ls (.inr (.inr (T, j)) :: .inr (.inr (T, j')) :: st) s G := by
  intro h C Z H
  obtain ⟨e1, e2, h1, h2⟩ := H
  exact ⟨e1, e2, fun z => kt z h C Z (h1 z), fun z => kf z h C Z (h2 z)⟩
theorem c_ane {T a j j' : Nat} (kt : ¬ j' = j → BC R m μ a ls st s G) (kf : j' = j → TC R m μ r ls st s G) : TC R m μ ((nx, x_ane T a) :: r) ls (.inr (.inr (T, j)) :: .inr (.inr (T, j')) :: st) s G := by
  intro h C Z H
  obtain ⟨e1, e2, h1, h2⟩ := H
  exact ⟨e1, e2, fun z => kt z h C Z (h1 z), fun z => kf z h C Z (h2 z)⟩
theorem c_ifnull {a t j : Nat} (kt : j = 0 → BC R m μ a ls st s G) (kf : ¬ j = 0 → TC R m μ r ls st s G) : TC R m μ ((nx, x_ifnull a) :: r) ls (.inr (.inr (t, j)) :: st) s G := by
  intro h C Z H
  obtain ⟨h1, h2⟩ := H
  exact ⟨fun z => kt z h C Z (h1 z), fun z => kf z h C Z (h2 z)⟩
theorem c_ifnonnull {a t j : Nat} (kt : ¬ j = 0 → BC R m μ a ls st s G) (kf : j = 0 → TC R m μ r ls st s G) : TC R m μ ((nx, x_ifnonnull a) :: r) ls (.inr (.inr (t, j)) :: st) s G := by
  intro h C Z H
  obtain ⟨h1, h2⟩ := H
  exact ⟨fun z => kt z h C Z (h1 z), fun z => kf z h C Z (h2 z)⟩
theorem c_switch {lo : Int} {tg : List Nat} {d : Nat} {x : Int32} (kt : ∀ k a : Nat, tg[k]? = some a → x.toInt = lo + k → BC R m μ a ls st s G) (kd : x.toInt < lo ∨ lo + tg.length ≤ x.toInt → BC R m μ d ls st s G) : TC R m μ ((nx, x_switch lo tg d) :: r) ls (.inl x :: st) s G := by
  intro h C Z H
  obtain ⟨h1, h2⟩ := H
  exact ⟨fun k a e z => kt k a e z h C Z (h1 k a e z), fun z => kd z h C Z (h2 z)⟩
theorem c_gfi {K k j : Nat} {x : Int32} (hv : ∀ h, R s h → x_live h K j → x_vi h K k j = x) (kk : TC R m μ r ls (.inl x :: st) s G) : TC R m μ ((nx, x_gfi K k) :: r) ls (.inr (.inr (K, j)) :: st) s G := by
  intro h C Z H
  obtain ⟨e, l, H⟩ := H
  have H : x_seq r (xC m) Z (fun pc' S' => xR m μ pc' S' Z) (ls, .inl (x_vi h K k j) :: st, h) := H
  rw [hv h C l] at H
  refine q_gfi l ?_
  rw [hv h C l]
  exact kk h C Z H
theorem c_gfr {K k T j j' : Nat} (hv : ∀ h, R s h → x_live h K j → x_vr h K k j = j') (kk : TC R m μ r ls (.inr (.inr (T, j')) :: st) s G) : TC R m μ ((nx, x_gfr K k T) :: r) ls (.inr (.inr (K, j)) :: st) s G := by
  intro h C Z H
  obtain ⟨e, l, H⟩ := H
  have H : x_seq r (xC m) Z (fun pc' S' => xR m μ pc' S' Z) (ls, .inr (.inr (T, x_vr h K k j)) :: st, h) := H
  rw [hv h C l] at H
  refine q_gfr l ?_
  rw [hv h C l]
  exact kk h C Z H
/-- .. and what the reading shows -/
theorem c_gfiP {K k j : Nat} {x : Int32} {P : Prop} (hv : ∀ h, R s h → x_live h K j → P ∧ x_vi h K k j = x) (kk : P → TC R m μ r ls (.inl x :: st) s G) : TC R m μ ((nx, x_gfi K k) :: r) ls (.inr (.inr (K, j)) :: st) s G := by
  intro h C Z H
  obtain ⟨e, l, H⟩ := id H
  exact c_gfi (x := x) (nx := nx) (fun h' C' l' => (hv h' C' l').2) (kk (hv h C l).1) h C Z ⟨e, l, H⟩
theorem c_gfrP {K k T j j' : Nat} {P : Prop} (hv : ∀ h, R s h → x_live h K j → P ∧ x_vr h K k j = j') (kk : P → TC R m μ r ls (.inr (.inr (T, j')) :: st) s G) : TC R m μ ((nx, x_gfr K k T) :: r) ls (.inr (.inr (K, j)) :: st) s G := by
  intro h C Z H
  obtain ⟨e, l, H⟩ := id H
  exact c_gfr (nx := nx) (fun h' C' l' => (hv h' C' l').2) (kk (hv h C l).1) h C Z ⟨e, l, H⟩
theorem c_pfi {K k j : Nat} {n : Int32} {s' : σ} (hv : ∀ h, R s h → x_live h K j → R s' (x_puti h K k j n)) (kk : TC R m μ r ls st s' G) : TC R m μ ((nx, x_pfi K k) :: r) ls (.inl n :: .inr (.inr (K, j)) :: st) s G := by
  intro h C Z H
  obtain ⟨e, l, H⟩ := H
  exact q_pfi l (kk _ (hv h C l) Z H)
theorem c_pfz {K k j : Nat} {n : Int32} {s' : σ} (hv : ∀ h, R s h → x_live h K j → R s' (x_puti h K k j n)) (kk : TC R m μ r ls st s' G) : TC R m μ ((nx, x_pfz K k) :: r) ls (.inl n :: .inr (.inr (K, j)) :: st) s G := by
  intro h C Z H
  obtain ⟨e, l, z, H⟩ := H
  exact q_pfz l z (kk _ (hv h C l) Z H)
theorem c_pfr {K k T j j' : Nat} {s' : σ} (hv : ∀ h, R s h → x_live h K j → R s' (x_putr h K k j j')) (kk : TC R m μ r ls st s' G) : TC R m μ ((nx, x_pfr K k T) :: r) ls (.inr (.inr (T, j')) :: .inr (.inr (K, j)) :: st) s G := by
  intro h C Z H
  obtain ⟨e, e2, l, H⟩ := H
  exact q_pfr l (kk _ (hv h C l) Z H)
/-- an int of an array; where it is read, the place is one of the array's -/
theorem c_ald {K j : Nat} {i x : Int32} {P : Prop} (hv : ∀ h, R s h → x_live h K j → x_in h K j i → P ∧ x_vi h K j i.toNatClampNeg = x) (kk : P → TC R m μ r ls (.inl x :: st) s G) : TC R m μ ((nx, x_ald K) :: r) ls (.inl i :: .inr (.inr (K, j)) :: st) s G := by
  intro h C Z H
  obtain ⟨e, l, hi, H⟩ := H
  obtain ⟨p, hx⟩ := hv h C l hi
  have H : x_seq r (xC m) Z (fun pc' S' => xR m μ pc' S' Z) (ls, .inl (x_vi h K j i.toNatClampNeg) :: st, h) := H
  rw [hx] at H
  refine q_ald l hi ?_
  rw [hx]
  exact kk p h C Z H
theorem c_ast {K j : Nat} {i n : Int32} {P : Prop} {s' : σ} (hv : ∀ h, R s h → x_live h K j → x_in h K j i → P ∧ R s' (x_puti h K j i.toNatClampNeg n)) (kk : P → TC R m μ r ls st s' G) : TC R m μ ((nx, x_ast K) :: r) ls (.inl n :: .inl i :: .inr (.inr (K, j)) :: st) s G := by
  intro h C Z H
  obtain ⟨e, l, hi, H⟩ := H
  obtain ⟨p, hx⟩ := hv h C l hi
  exact q_ast l hi (kk p _ hx Z H)
theorem c_zst {K j : Nat} {i n : Int32} {P : Prop} {s' : σ} (hv : ∀ h, R s h → x_live h K j → x_in h K j i → P ∧ R s' (x_puti h K j i.toNatClampNeg n)) (kk : P → TC R m μ r ls st s' G) : TC R m μ ((nx, x_zst K) :: r) ls (.inl n :: .inl i :: .inr (.inr (K, j)) :: st) s G := by
  intro h C Z H
  obtain ⟨e, l, hi, z, H⟩ := H
  obtain ⟨p, hx⟩ := hv h C l hi
  exact q_zst l hi z (kk p _ hx Z H)
theorem c_aald {K T j j' : Nat} {i : Int32} {P : Prop} (hv : ∀ h, R s h → x_live h K j → x_in h K j i → P ∧ x_vr h K j i.toNatClampNeg = j') (kk : P → TC R m μ r ls (.inr (.inr (T, j')) :: st) s G) : TC R m μ ((nx, x_aald K T) :: r) ls (.inl i :: .inr (.inr (K, j)) :: st) s G := by
  intro h C Z H
  obtain ⟨e, l, hi, H⟩ := H
  obtain ⟨p, hx⟩ := hv h C l hi
  have H : x_seq r (xC m) Z (fun pc' S' => xR m μ pc' S' Z) (ls, .inr (.inr (T, x_vr h K j i.toNatClampNeg)) :: st, h) := H
  rw [hx] at H
  refine q_aald l hi ?_
  rw [hx]
  exact kk p h C Z H
theorem c_aast {K T j j' : Nat} {i : Int32} {P : Prop} {s' : σ} (hv : ∀ h, R s h → x_live h K j → x_in h K j i → P ∧ R s' (x_putr h K j i.toNatClampNeg j')) (kk : P → TC R m μ r ls st s' G) : TC R m μ ((nx, x_aast K T) :: r) ls (.inr (.inr (T, j')) :: .inl i :: .inr (.inr (K, j)) :: st) s G := by
  intro h C Z H
  obtain ⟨e, e2, l, hi, H⟩ := H
  obtain ⟨p, hx⟩ := hv h C l hi
  exact q_aast l hi (kk p _ hx Z H)
theorem c_alen {K j : Nat} {x : Int32} (hv : ∀ h, R s h → x_live h K j → Int32.ofNat (x_ln h K j) = x) (kk : TC R m μ r ls (.inl x :: st) s G) : TC R m μ ((nx, x_alen K) :: r) ls (.inr (.inr (K, j)) :: st) s G := by
  intro h C Z H
  obtain ⟨e, l, H⟩ := H
  have H : x_seq r (xC m) Z (fun pc' S' => xR m μ pc' S' Z) (ls, .inl (Int32.ofNat (x_ln h K j)) :: st, h) := H
  rw [hv h C l] at H
  refine q_alen l ?_
  rw [hv h C l]
  exact kk h C Z H
theorem c_call {y n mc ms bc bs : Nat} {P : xO → σ → Prop} (hR : RS R) (he : EC R y (st.take n).reverse s P) (kk : ∀ w s', P (.inl w) s' → TC R m μ r ls (w.toList ++ st.drop n) s' G) (kx : ∀ k s', P (.inr k) s' → G (.inr k) s') : TC R m μ ((nx, x_call y n mc ms bc bs) :: r) ls st s G := by
  intro h C Z H
  obtain ⟨h1, h2, h3, h4, H⟩ := H
  refine ⟨h1, h2, h3, h4, (he _ (hR.1 _ _ _ _ C) m _ H).mono (Nat.le_refl m) ?_⟩
  rintro (w | k) g ⟨z, s', C', p⟩
  · exact kk w s' p _ (hR.1 _ _ _ _ C') Z z
  · exact ⟨z, s', hR.1 _ _ _ _ C', kx k s' p⟩
theorem c_callv {K y n mc ms bc bs : Nat} {P : xO → σ → Prop} (hR : RS R) (he : EC R y (st.take n).reverse s P) (kk : ∀ w s', P (.inl w) s' → TC R m μ r ls (w.toList ++ st.drop n) s' G) (kx : ∀ k s', P (.inr k) s' → G (.inr k) s') : TC R m μ ((nx, x_callv K y n mc ms bc bs) :: r) ls st s G := by
  intro h C Z H
  obtain ⟨h0, H⟩ := H
  exact ⟨h0, c_call (nx := nx) (mc := mc) (ms := ms) (bc := bc) (bs := bs) hR he kk kx h C Z H⟩
theorem c_calln {y n mc ms bc bs : Nat} {P : xO → σ → Prop} (hR : RS R) (he : EC R y (st.take n).reverse s P) (kk : ∀ w s', P (.inl w) s' → TC R m μ r ls (w.toList ++ st.drop n) s' G) : TC R m μ ((nx, x_calln y n mc ms bc bs) :: r) ls st s G := by
  intro h C Z H
  obtain ⟨h1, h2, h3, h4, H⟩ := H
  refine ⟨h1, h2, h3, h4, (he _ (hR.1 _ _ _ _ C) m _ H).mono (Nat.le_refl m) ?_⟩
  rintro (w | k) g ⟨z, s', C', p⟩
  · exact kk w s' p _ (hR.1 _ _ _ _ C') Z z
  · exact z.elim
-- calls with one end
theorem d_call {y n mc ms bc bs : Nat} {w : Option xV} {s' : σ} (hR : RS R) (he : ED R y (st.take n).reverse s (.inl w) s') (kk : TC R m μ r ls (w.toList ++ st.drop n) s' G) : TC R m μ ((nx, x_call y n mc ms bc bs) :: r) ls st s G :=
  c_call hR he (fun w' t p => by obtain ⟨e, rfl⟩ := p; cases e; exact kk) (fun k t p => by cases p.1)
theorem d_callv {K y n mc ms bc bs : Nat} {w : Option xV} {s' : σ} (hR : RS R) (he : ED R y (st.take n).reverse s (.inl w) s') (kk : TC R m μ r ls (w.toList ++ st.drop n) s' G) : TC R m μ ((nx, x_callv K y n mc ms bc bs) :: r) ls st s G :=
  c_callv hR he (fun w' t p => by obtain ⟨e, rfl⟩ := p; cases e; exact kk) (fun k t p => by cases p.1)
theorem d_calln {y n mc ms bc bs : Nat} {w : Option xV} {s' : σ} (hR : RS R) (he : ED R y (st.take n).reverse s (.inl w) s') (kk : TC R m μ r ls (w.toList ++ st.drop n) s' G) : TC R m μ ((nx, x_calln y n mc ms bc bs) :: r) ls st s G :=
  c_calln hR he (fun w' t p => by obtain ⟨e, rfl⟩ := p; cases e; exact kk)
/-- a call that throws -/
theorem d_callX {y n mc ms bc bs k : Nat} {s' : σ} (hR : RS R) (he : ED R y (st.take n).reverse s (.inr k) s') (kk : G (.inr k) s') : TC R m μ ((nx, x_call y n mc ms bc bs) :: r) ls st s G :=
  c_call hR he (fun w' t p => by cases p.1) (fun k' t p => by obtain ⟨e, rfl⟩ := p; cases e; exact kk)
theorem d_callvX {K y n mc ms bc bs k : Nat} {s' : σ} (hR : RS R) (he : ED R y (st.take n).reverse s (.inr k) s') (kk : G (.inr k) s') : TC R m μ ((nx, x_callv K y n mc ms bc bs) :: r) ls st s G :=
  c_callv hR he (fun w' t p => by cases p.1) (fun k' t p => by obtain ⟨e, rfl⟩ := p; cases e; exact kk)
/-- the receiver is there -/
theorem d_callvP {K y n mc ms bc bs j : Nat} {P : Prop} {w : Option xV} {s' : σ} (hR : RS R) (h0 : (st.drop (n - 1)).head? = some (.inr (.inr (K, j)))) (hl : ∀ h, R s h → x_live h K j → P) (he : P → ED R y (st.take n).reverse s (.inl w) s') (kk : P → TC R m μ r ls (w.toList ++ st.drop n) s' G) : TC R m μ ((nx, x_callv K y n mc ms bc bs) :: r) ls st s G := by
  intro h C Z H
  obtain ⟨h1, H⟩ := id H
  have p : P := by
    have h1 : (match (st.drop (n - 1)).head? with
      | some (.inr (.inr (t, j))) => 1 ≤ n ∧ t = K ∧ x_live h K j
      | _ => False) := h1
    rw [h0] at h1
    exact hl h C h1.2.2
  exact d_callv (nx := nx) hR (he p) (kk p) h C Z ⟨h1, H⟩
theorem c_ret (kk : G (.inl none) s) : TC R m μ ((nx, x_ret) :: r) ls [] s G := fun h C Z H => ⟨H, s, C, kk⟩
theorem c_iret {n : Int32} (kk : G (.inl (some (.inl n))) s) : TC R m μ ((nx, x_iret) :: r) ls [.inl n] s G := fun h C Z H => ⟨H, s, C, kk⟩
theorem c_zret {n : Int32} (kk : G (.inl (some (.inl n))) s) : TC R m μ ((nx, x_zret) :: r) ls [.inl n] s G := by
  intro h C Z H
  obtain ⟨h1, H⟩ := H
  exact ⟨h1, H, s, C, kk⟩
theorem c_aret {T j : Nat} (kk : G (.inl (some (.inr (.inr (T, j))))) s) : TC R m μ ((nx, x_aret T) :: r) ls [.inr (.inr (T, j))] s G := by
  intro h C Z H
  obtain ⟨h1, H⟩ := H
  exact ⟨h1, H, s, C, kk⟩
theorem c_throw {E bc bs : Nat} (hR : RS R) (kk : G (.inr E) s) : TC R m μ ((nx, x_throw E bc bs) :: r) ls st s G := by
  intro h C Z H
  obtain ⟨h1, h2, h3, H⟩ := H
  exact ⟨h1, h2, h3, fun d => ⟨H d, s, hR.2 _ _ _ C, kk⟩⟩
-- comparisons, as of whole numbers
theorem c_if_lt {t : Nat} {x : Int32} (kt : x.toInt < 0 → BC R m μ t ls st s G) (kf : ¬ x.toInt < 0 → TC R m μ r ls st s G) : TC R m μ ((nx, x_if (fun x => x < 0) t) :: r) ls (.inl x :: st) s G := c_if (fun e => kt (i32_lt.mp e)) (fun e => kf (fun z => e (i32_lt.mpr z)))
theorem c_if_ge {t : Nat} {x : Int32} (kt : 0 ≤ x.toInt → BC R m μ t ls st s G) (kf : ¬ 0 ≤ x.toInt → TC R m μ r ls st s G) : TC R m μ ((nx, x_if (fun x => 0 ≤ x) t) :: r) ls (.inl x :: st) s G := c_if (fun e => kt (i32_le.mp e)) (fun e => kf (fun z => e (i32_le.mpr z)))
theorem c_if_gt {t : Nat} {x : Int32} (kt : 0 < x.toInt → BC R m μ t ls st s G) (kf : ¬ 0 < x.toInt → TC R m μ r ls st s G) : TC R m μ ((nx, x_if (fun x => 0 < x) t) :: r) ls (.inl x :: st) s G := c_if (fun e => kt (i32_lt.mp e)) (fun e => kf (fun z => e (i32_lt.mpr z)))
theorem c_if_le {t : Nat} {x : Int32} (kt : x.toInt ≤ 0 → BC R m μ t ls st s G) (kf : ¬ x.toInt ≤ 0 → TC R m μ r ls st s G) : TC R m μ ((nx, x_if (fun x => x ≤ 0) t) :: r) ls (.inl x :: st) s G := c_if (fun e => kt (i32_le.mp e)) (fun e => kf (fun z => e (i32_le.mpr z)))
theorem c_if_eq {t : Nat} {x : Int32} (kt : x = 0 → BC R m μ t ls st s G) (kf : ¬ x = 0 → TC R m μ r ls st s G) : TC R m μ ((nx, x_if (fun x => x = 0) t) :: r) ls (.inl x :: st) s G := c_if kt kf
theorem c_if_ne {t : Nat} {x : Int32} (kt : ¬ x = 0 → BC R m μ t ls st s G) (kf : x = 0 → TC R m μ r ls st s G) : TC R m μ ((nx, x_if (fun x => ¬ x = 0) t) :: r) ls (.inl x :: st) s G := c_if kt (fun e => kf (Classical.byContradiction e))
theorem c_icmp_lt {t : Nat} {x y : Int32} (kt : x.toInt < y.toInt → BC R m μ t ls st s G) (kf : ¬ x.toInt < y.toInt → TC R m μ r ls st s G) : TC R m μ ((nx, x_icmp (fun x y => x < y) t) :: r) ls (.inl y :: .inl x :: st) s G := c_icmp (fun e => kt (i32_lt.mp e)) (fun e => kf (fun z => e (i32_lt.mpr z)))
theorem c_icmp_ge {t : Nat} {x y : Int32} (kt : y.toInt ≤ x.toInt → BC R m μ t ls st s G) (kf : ¬ y.toInt ≤ x.toInt → TC R m μ r ls st s G) : TC R m μ ((nx, x_icmp (fun x y => y ≤ x) t) :: r) ls (.inl y :: .inl x :: st) s G := c_icmp (fun e => kt (i32_le.mp e)) (fun e => kf (fun z => e (i32_le.mpr z)))
theorem c_icmp_gt {t : Nat} {x y : Int32} (kt : y.toInt < x.toInt → BC R m μ t ls st s G) (kf : ¬ y.toInt < x.toInt → TC R m μ r ls st s G) : TC R m μ ((nx, x_icmp (fun x y => y < x) t) :: r) ls (.inl y :: .inl x :: st) s G := c_icmp (fun e => kt (i32_lt.mp e)) (fun e => kf (fun z => e (i32_lt.mpr z)))
theorem c_icmp_le {t : Nat} {x y : Int32} (kt : x.toInt ≤ y.toInt → BC R m μ t ls st s G) (kf : ¬ x.toInt ≤ y.toInt → TC R m μ r ls st s G) : TC R m μ ((nx, x_icmp (fun x y => x ≤ y) t) :: r) ls (.inl y :: .inl x :: st) s G := c_icmp (fun e => kt (i32_le.mp e)) (fun e => kf (fun z => e (i32_le.mpr z)))
-- .. with a constant
theorem c_icmpk_lt {t : Nat} {x y : Int32} {k : Int} (hk : y.toInt = k) (kt : x.toInt < k → BC R m μ t ls st s G) (kf : ¬ x.toInt < k → TC R m μ r ls st s G) : TC R m μ ((nx, x_icmp (fun x y => x < y) t) :: r) ls (.inl y :: .inl x :: st) s G := by
  subst hk
  exact c_icmp_lt kt kf
theorem c_icmpk_ge {t : Nat} {x y : Int32} {k : Int} (hk : y.toInt = k) (kt : k ≤ x.toInt → BC R m μ t ls st s G) (kf : ¬ k ≤ x.toInt → TC R m μ r ls st s G) : TC R m μ ((nx, x_icmp (fun x y => y ≤ x) t) :: r) ls (.inl y :: .inl x :: st) s G := by
  subst hk
  exact c_icmp_ge kt kf
theorem c_icmpk_gt {t : Nat} {x y : Int32} {k : Int} (hk : y.toInt = k) (kt : k < x.toInt → BC R m μ t ls st s G) (kf : ¬ k < x.toInt → TC R m μ r ls st s G) : TC R m μ ((nx, x_icmp (fun x y => y < x) t) :: r) ls (.inl y :: .inl x :: st) s G := by
  subst hk
  exact c_icmp_gt kt kf
theorem c_icmpk_le {t : Nat} {x y : Int32} {k : Int} (hk : y.toInt = k) (kt : x.toInt ≤ k → BC R m μ t ls st s G) (kf : ¬ x.toInt ≤ k → TC R m μ r ls st s G) : TC R m μ ((nx, x_icmp (fun x y => x ≤ y) t) :: r) ls (.inl y :: .inl x :: st) s G := by
  subst hk
  exact c_icmp_le kt kf
theorem c_icmp_eq {t : Nat} {x y : Int32} (kt : x = y → BC R m μ t ls st s G) (kf : ¬ x = y → TC R m μ r ls st s G) : TC R m μ ((nx, x_icmp (fun x y => x = y) t) :: r) ls (.inl y :: .inl x :: st) s G := c_icmp kt kf
theorem c_icmp_ne {t : Nat} {x y : Int32} (kt : ¬ x = y → BC R m μ t ls st s G) (kf : x = y → TC R m μ r ls st s G) : TC R m μ ((nx, x_icmp (fun x y => ¬ x = y) t) :: r) ls (.inl y :: .inl x :: st) s G := c_icmp kt (fun e => kf (Classical.byContradiction e))
/-- another state for the same heap -/
theorem TC.re {s' : σ} (hs : ∀ h, R s h → R s' h) (kk : TC R m μ r ls st s' G) : TC R m μ r ls st s G := fun h C => kk h (hs h C)
theorem BC.re {n pc : Nat} {s' : σ} (hs : ∀ h, R s h → R s' h) (kk : BC R n μ pc ls st s' G) : BC R n μ pc ls st s G := fun h C => kk h (hs h C)
/-- what the heap's word says of the state -/
theorem TC.kn {P : Prop} (hs : ∀ h, R s h → P) (kk : P → TC R m μ r ls st s G) : TC R m μ r ls st s G := fun h C => kk (hs h C) h C
theorem BC.kn {n pc : Nat} {P : Prop} (hs : ∀ h, R s h → P) (kk : P → BC R n μ pc ls st s G) : BC R n μ pc ls st s G := fun h C => kk (hs h C) h C
theorem EC.kn {a : List xV} {P : Prop} (hs : ∀ h, R s h → P) (kk : P → EC R μ a s G) : EC R μ a s G := fun h C => kk (hs h C) h C
/-- another word on the heap -/
theorem EC.sw {τ : Type} {R' : τ → xH → Prop} {a : List xV} (k : ∀ h, R s h → ∃ t, R' t h ∧ EC R' μ a t (fun o t' => ∀ g, R' t' g → ∃ s', R s' g ∧ G o s')) : EC R μ a s G := by
  intro h C n Z H
  obtain ⟨t, C', kk⟩ := k h C
  refine (kk h C' n Z H).mono (Nat.le_refl n) (fun o g z => ⟨z.1, ?_⟩)
  obtain ⟨t', c', q⟩ := z.2
  exact q g c'
/-- a loop: by the number of blocks -/
theorem BC.ind {α : Type} {pc : Nat} {f : α → List xV} {t : α → σ} {I : α → Prop} (k : ∀ n, (∀ n', n' < n → ∀ x, I x → BC R n' μ pc (f x) [] (t x) G) → ∀ x, I x → BC R n μ pc (f x) [] (t x) G) : ∀ n x, I x → BC R n μ pc (f x) [] (t x) G := by
  intro n
  induction n using Nat.strongRecOn with
  | ind n ih => exact fun x hx => k n ih x hx
end XE
/-- a call's end and the words about it -/
theorem xC.en {n μ : Nat} {a : List xV} {h : xH} {Z : xO → xH → Prop} {σ : Type} {R : σ → xH → Prop} {s : σ} {G : xO → σ → Prop} (H : xC n μ a h Z) (e : EC R μ a s G) (C : R s h) : xC n μ a h (fun o g => Z o g ∧ ∃ s', R s' g ∧ G o s') := e h C n Z H
