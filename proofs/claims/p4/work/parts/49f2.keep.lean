/-! WHAT A METHOD LEAVES ALONE, where it matters which object is written: values of a good kind on the stack and in the locals -/
def x_gd (G : xV → Prop) (d : Nat) (st : List xV) : Prop := ∀ v ∈ st.drop d, G v
def x_go (Gv : xV → Prop) (o : xO) : Prop := ∀ v, o = .inl (some v) → Gv v
def x_sg (P : xH → Prop) (G : xV → Prop) (d : Nat) (S : xS) : Prop := (∀ v ∈ S.1, G v) ∧ x_gd G d S.2.1 ∧ P S.2.2
def x_kq (P : xH → Prop) (G Gv : xV → Prop) (T0 T1 : Nat → Bool) (d d' : Nat) (f : xI) : Prop := ∀ (Γ : xG) (Z : xO → xH → Prop) (J : Nat → xS → Prop) (q : xS → Prop) (S : xS),
  (∀ μ a h Y, T0 μ = true → P h → Γ μ a h Y → Γ μ a h (fun o g => Y o g ∧ P g ∧ x_go Gv o)) →
  (∀ μ a h Y, T1 μ = true → P h → (∀ v ∈ a, G v) → Γ μ a h Y → Γ μ a h (fun o g => Y o g ∧ P g ∧ x_go Gv o)) →
  (∀ μ a h Y Y', (∀ o g, Y o g → Y' o g) → Γ μ a h Y → Γ μ a h Y') → x_sg P G d S → f Γ Z J q S →
  f Γ (fun o g => Z o g ∧ P g ∧ x_go Gv o) (fun pc S' => J pc S' ∧ x_sg P G 0 S') (fun S' => q S' ∧ x_sg P G d' S') S
/-- ints are good, good ones are good, counters and exceptions don't matter -/
def x_gB (P : xH → Prop) (G Gv : xV → Prop) : Prop := (∀ n, Gv (.inl n)) ∧ (∀ v, Gv v → G v) ∧ (∀ h a b, P h → P (x_setc h a b)) ∧ (∀ h d, P h → P (x_exc h d))
section XKQ
variable {P : xH → Prop} {G Gv : xV → Prop} {T0 T1 : Nat → Bool} {v u : xV} {st ls : List xV} {d n a : Nat}
theorem gd_h (g : x_gd G 0 (v :: st)) : G v := g v List.mem_cons_self
theorem gd_t (g : x_gd G 0 (v :: st)) : x_gd G 0 st := fun w hw => g w (List.mem_cons_of_mem _ hw)
theorem gd_c (a : G v) (g : x_gd G 0 st) : x_gd G 0 (v :: st) := fun w hw => by
  rcases List.mem_cons.mp hw with rfl | hw
  · exact a
  · exact g w hw
theorem gd_s (g : x_gd G d st) : x_gd G (d + 1) (v :: st) := g
theorem gd_n (g : x_gd G d st) (hd : d ≤ n) : x_gd G 0 (st.drop n) := fun w hw => g w (by
  have e : st.drop n = (st.drop d).drop (n - d) := by rw [List.drop_drop]; congr 1; omega
  have hw : w ∈ st.drop n := hw
  rw [e] at hw
  exact List.mem_of_mem_drop hw)
theorem gd_r {o : Option xV} (B : x_gB P G Gv) (z : x_go Gv (.inl o)) (g : x_gd G d st) (hd : d ≤ n) : x_gd G 0 (o.toList ++ st.drop n) := by
  intro w hw
  rcases List.mem_append.mp (show w ∈ o.toList ++ st.drop n from hw) with q | q
  · cases o with
    | none => cases q
    | some x =>
      have e : w = x := List.mem_singleton.mp q
      rw [e]
      exact B.2.1 _ (z x rfl)
  · exact gd_n g hd w q
theorem gd_set (g : ∀ w ∈ ls, G w) (a : G v) : ∀ w ∈ ls.set n v, G w := fun w hw => by
  rcases List.mem_or_eq_of_mem_set hw with q | q
  · exact g w q
  · rw [q]; exact a
theorem gd_tk (g : x_gd G 0 st) : ∀ w ∈ (st.take n).reverse, G w := fun w hw => g w (List.mem_of_mem_take (List.mem_reverse.mp hw))
theorem kq_iload (B : x_gB P G Gv) : x_kq P G Gv T0 T1 0 0 (x_iload a) := by
  rintro Γ Z J q S h0 h1 hM ⟨g1, g2, g3⟩
  unfold x_iload
  split
  · exact fun h => ⟨h, g1, gd_c (B.2.1 _ (B.1 _)) g2, g3⟩
  · exact id
theorem kq_iloadb (B : x_gB P G Gv) : x_kq P G Gv T0 T1 1 2 (x_iload a) := by
  rintro Γ Z J q S h0 h1 hM ⟨g1, g2, g3⟩
  unfold x_iload
  split
  · exact fun h => ⟨h, g1, gd_s g2, g3⟩
  · exact id
theorem kq_aload : x_kq P G Gv T0 T1 0 0 (x_aload a) := by
  rintro Γ Z J q S h0 h1 hM ⟨g1, g2, g3⟩
  unfold x_aload
  split
  · rename_i t j heq
    exact fun h => ⟨h.1, h.2, g1, gd_c (g1 _ (List.mem_of_getElem? heq)) g2, g3⟩
  · exact id
theorem kq_istore (B : x_gB P G Gv) : x_kq P G Gv T0 T1 0 0 (x_istore a) := by
  rintro Γ Z J q S h0 h1 hM ⟨g1, g2, g3⟩
  unfold x_istore
  split
  · rename_i heq
    rw [heq] at g2
    exact fun h => ⟨h.1, h.2, gd_set g1 (B.2.1 _ (B.1 _)), gd_t g2, g3⟩
  · exact id
theorem kq_astore : x_kq P G Gv T0 T1 0 0 (x_astore a) := by
  rintro Γ Z J q S h0 h1 hM ⟨g1, g2, g3⟩
  unfold x_astore
  split
  · rename_i heq
    rw [heq] at g2
    exact fun h => ⟨h.1, h.2, gd_set g1 (gd_h g2), gd_t g2, g3⟩
  · exact id
theorem kq_iinc {x : Int32} (B : x_gB P G Gv) : x_kq P G Gv T0 T1 0 0 (x_iinc a x) := by
  rintro Γ Z J q S h0 h1 hM ⟨g1, g2, g3⟩
  unfold x_iinc
  split
  · exact fun h => ⟨h, gd_set g1 (B.2.1 _ (B.1 _)), g2, g3⟩
  · exact id
theorem kq_iconst {x : Int32} (B : x_gB P G Gv) : x_kq P G Gv T0 T1 0 0 (x_iconst x) := fun _ _ _ _ _ _ _ _ g h => ⟨h, g.1, gd_c (B.2.1 _ (B.1 _)) g.2.1, g.2.2⟩
theorem kq_null {t : Nat} (hg : G (.inr (.inr (t, 0)))) : x_kq P G Gv T0 T1 0 0 (x_null t) := fun _ _ _ _ _ _ _ _ g h => ⟨h, g.1, gd_c hg g.2.1, g.2.2⟩
theorem kq_stage {t : Nat} (hg : G (.inr (.inr (9, t)))) : x_kq P G Gv T0 T1 0 0 (x_stage t) := fun _ _ _ _ _ _ _ _ g h => ⟨h, g.1, gd_c hg g.2.1, g.2.2⟩
theorem kq_bin {f : Int32 → Int32 → Int32} (B : x_gB P G Gv) : x_kq P G Gv T0 T1 0 0 (x_bin f) := by
  rintro Γ Z J q S h0 h1 hM ⟨g1, g2, g3⟩
  unfold x_bin
  split
  · rename_i heq
    rw [heq] at g2
    exact fun h => ⟨h, g1, gd_c (B.2.1 _ (B.1 _)) (gd_t (gd_t g2)), g3⟩
  · exact id
theorem kq_idiv (B : x_gB P G Gv) : x_kq P G Gv T0 T1 0 0 x_idiv := by
  rintro Γ Z J q S h0 h1 hM ⟨g1, g2, g3⟩
  unfold x_idiv
  split
  · rename_i heq
    rw [heq] at g2
    exact fun h => ⟨h.1, h.2, g1, gd_c (B.2.1 _ (B.1 _)) (gd_t (gd_t g2)), g3⟩
  · exact id
theorem kq_irem (B : x_gB P G Gv) : x_kq P G Gv T0 T1 0 0 x_irem := by
  rintro Γ Z J q S h0 h1 hM ⟨g1, g2, g3⟩
  unfold x_irem
  split
  · rename_i heq
    rw [heq] at g2
    exact fun h => ⟨h.1, h.2, g1, gd_c (B.2.1 _ (B.1 _)) (gd_t (gd_t g2)), g3⟩
  · exact id
theorem kq_dup : x_kq P G Gv T0 T1 0 0 x_dup := by
  rintro Γ Z J q S h0 h1 hM ⟨g1, g2, g3⟩
  unfold x_dup
  split
  · rename_i heq
    rw [heq] at g2
    exact fun h => ⟨h.1, h.2, g1, gd_c (gd_h g2) g2, g3⟩
  · exact id
theorem kq_dup2 : x_kq P G Gv T0 T1 0 0 x_dup2 := by
  rintro Γ Z J q S h0 h1 hM ⟨g1, g2, g3⟩
  unfold x_dup2
  split
  · rename_i heq
    rw [heq] at g2
    exact fun h => ⟨h.1, h.2.1, h.2.2, g1, gd_c (gd_h g2) (gd_c (gd_h (gd_t g2)) g2), g3⟩
  · exact id
theorem kq_pop : x_kq P G Gv T0 T1 0 0 x_pop := by
  rintro Γ Z J q S h0 h1 hM ⟨g1, g2, g3⟩
  unfold x_pop
  split
  · rename_i heq
    rw [heq] at g2
    exact fun h => ⟨h.1, h.2, g1, gd_t g2, g3⟩
  · exact id
theorem kq_goto : x_kq P G Gv T0 T1 0 0 (x_goto a) := fun _ _ _ _ _ _ _ _ g h => ⟨h, g⟩
theorem kq_if {c : Int32 → Prop} : x_kq P G Gv T0 T1 0 0 (x_if c a) := by
  rintro Γ Z J q S h0 h1 hM ⟨g1, g2, g3⟩
  unfold x_if
  split
  · rename_i heq
    rw [heq] at g2
    exact fun h => ⟨fun z => ⟨h.1 z, g1, gd_t g2, g3⟩, fun z => ⟨h.2 z, g1, gd_t g2, g3⟩⟩
  · exact id
theorem kq_icmp {c : Int32 → Int32 → Prop} : x_kq P G Gv T0 T1 0 0 (x_icmp c a) := by
  rintro Γ Z J q S h0 h1 hM ⟨g1, g2, g3⟩
  unfold x_icmp
  split
  · rename_i heq
    rw [heq] at g2
    exact fun h => ⟨fun z => ⟨h.1 z, g1, gd_t (gd_t g2), g3⟩, fun z => ⟨h.2 z, g1, gd_t (gd_t g2), g3⟩⟩
  · exact id
theorem kq_aeq {t : Nat} : x_kq P G Gv T0 T1 0 0 (x_aeq t a) := by
  rintro Γ Z J q S h0 h1 hM ⟨g1, g2, g3⟩
  unfold x_aeq
  split
  · rename_i heq
    rw [heq] at g2
    exact fun h => ⟨h.1, h.2.1, fun z => ⟨h.2.2.1 z, g1, gd_t (gd_t g2), g3⟩, fun z => ⟨h.2.2.2 z, g1, gd_t (gd_t g2), g3⟩⟩
  · exact id
theorem kq_ane {t : Nat} : x_kq P G Gv T0 T1 0 0 (x_ane t a) := by
  rintro Γ Z J q S h0 h1 hM ⟨g1, g2, g3⟩
  unfold x_ane
  split
  · rename_i heq
    rw [heq] at g2
    exact fun h => ⟨h.1, h.2.1, fun z => ⟨h.2.2.1 z, g1, gd_t (gd_t g2), g3⟩, fun z => ⟨h.2.2.2 z, g1, gd_t (gd_t g2), g3⟩⟩
  · exact id
theorem kq_ifnull : x_kq P G Gv T0 T1 0 0 (x_ifnull a) := by
  rintro Γ Z J q S h0 h1 hM ⟨g1, g2, g3⟩
  unfold x_ifnull
  split
  · rename_i heq
    rw [heq] at g2
    exact fun h => ⟨fun z => ⟨h.1 z, g1, gd_t g2, g3⟩, fun z => ⟨h.2 z, g1, gd_t g2, g3⟩⟩
  · exact id
theorem kq_ifnonnull : x_kq P G Gv T0 T1 0 0 (x_ifnonnull a) := by
  rintro Γ Z J q S h0 h1 hM ⟨g1, g2, g3⟩
  unfold x_ifnonnull
  split
  · rename_i heq
    rw [heq] at g2
    exact fun h => ⟨fun z => ⟨h.1 z, g1, gd_t g2, g3⟩, fun z => ⟨h.2 z, g1, gd_t g2, g3⟩⟩
  · exact id
theorem kq_switch {lo : Int} {tg : List Nat} : x_kq P G Gv T0 T1 0 0 (x_switch lo tg d) := by
  rintro Γ Z J q S h0 h1 hM ⟨g1, g2, g3⟩
  unfold x_switch
  split
  · rename_i heq
    rw [heq] at g2
    exact fun h => ⟨fun k a z y => ⟨h.1 k a z y, g1, gd_t g2, g3⟩, fun z => ⟨h.2 z, g1, gd_t g2, g3⟩⟩
  · exact id
theorem kq_gfi {K k : Nat} (B : x_gB P G Gv) : x_kq P G Gv T0 T1 0 0 (x_gfi K k) := by
  rintro Γ Z J q S h0 h1 hM ⟨g1, g2, g3⟩
  unfold x_gfi
  split
  · rename_i heq
    rw [heq] at g2
    exact fun h => ⟨h.1, h.2.1, h.2.2, g1, gd_c (B.2.1 _ (B.1 _)) (gd_t g2), g3⟩
  · exact id
theorem kq_gfr {K k T : Nat} (w : ∀ h j, P h → x_live h K j → G (.inr (.inr (K, j))) → G (.inr (.inr (T, x_vr h K k j)))) : x_kq P G Gv T0 T1 0 0 (x_gfr K k T) := by
  rintro Γ Z J q S h0 h1 hM ⟨g1, g2, g3⟩
  unfold x_gfr
  split
  · rename_i heq
    rw [heq] at g2
    exact fun h => ⟨h.1, h.2.1, h.2.2, g1, gd_c (w _ _ g3 h.2.1 (by have := gd_h g2; rw [h.1] at this; exact this)) (gd_t g2), g3⟩
  · exact id
theorem kq_gfrb {K k T : Nat} : x_kq P G Gv T0 T1 0 1 (x_gfr K k T) := by
  rintro Γ Z J q S h0 h1 hM ⟨g1, g2, g3⟩
  unfold x_gfr
  split
  · rename_i heq
    rw [heq] at g2
    exact fun h => ⟨h.1, h.2.1, h.2.2, g1, gd_s (gd_t g2), g3⟩
  · exact id
theorem kq_pfi {K k : Nat} (w : ∀ h j n, P h → G (.inr (.inr (K, j))) → P (x_puti h K k j n)) : x_kq P G Gv T0 T1 0 0 (x_pfi K k) := by
  rintro Γ Z J q S h0 h1 hM ⟨g1, g2, g3⟩
  unfold x_pfi
  split
  · rename_i heq
    rw [heq] at g2
    exact fun h => ⟨h.1, h.2.1, h.2.2, g1, gd_t (gd_t g2), w _ _ _ g3 (by have := gd_h (gd_t g2); rw [h.1] at this; exact this)⟩
  · exact id
theorem kq_pfz {K k : Nat} (w : ∀ h j n, P h → G (.inr (.inr (K, j))) → P (x_puti h K k j n)) : x_kq P G Gv T0 T1 0 0 (x_pfz K k) := by
  rintro Γ Z J q S h0 h1 hM ⟨g1, g2, g3⟩
  unfold x_pfz
  split
  · rename_i heq
    rw [heq] at g2
    exact fun h => ⟨h.1, h.2.1, h.2.2.1, h.2.2.2, g1, gd_t (gd_t g2), w _ _ _ g3 (by have := gd_h (gd_t g2); rw [h.1] at this; exact this)⟩
  · exact id
theorem kq_pfr {K k T : Nat} (w : ∀ h j j', P h → G (.inr (.inr (K, j))) → G (.inr (.inr (T, j'))) → P (x_putr h K k j j')) : x_kq P G Gv T0 T1 0 0 (x_pfr K k T) := by
  rintro Γ Z J q S h0 h1 hM ⟨g1, g2, g3⟩
  unfold x_pfr
  split
  · rename_i heq
    rw [heq] at g2
    exact fun h => ⟨h.1, h.2.1, h.2.2.1, h.2.2.2, g1, gd_t (gd_t g2), w _ _ _ g3 (by have := gd_h (gd_t g2); rw [h.1] at this; exact this) (by have := gd_h g2; rw [h.2.1] at this; exact this)⟩
  · exact id
theorem kq_ald {K : Nat} (B : x_gB P G Gv) : x_kq P G Gv T0 T1 0 0 (x_ald K) := by
  rintro Γ Z J q S h0 h1 hM ⟨g1, g2, g3⟩
  unfold x_ald
  split
  · rename_i heq
    rw [heq] at g2
    exact fun h => ⟨h.1, h.2.1, h.2.2.1, h.2.2.2, g1, gd_c (B.2.1 _ (B.1 _)) (gd_t (gd_t g2)), g3⟩
  · exact id
theorem kq_ast {K : Nat} (w : ∀ h j i n, P h → G (.inr (.inr (K, j))) → P (x_puti h K j i n)) : x_kq P G Gv T0 T1 0 0 (x_ast K) := by
  rintro Γ Z J q S h0 h1 hM ⟨g1, g2, g3⟩
  unfold x_ast
  split
  · rename_i heq
    rw [heq] at g2
    exact fun h => ⟨h.1, h.2.1, h.2.2.1, h.2.2.2, g1, gd_t (gd_t (gd_t g2)), w _ _ _ _ g3 (by have := gd_h (gd_t (gd_t g2)); rw [h.1] at this; exact this)⟩
  · exact id
theorem kq_zst {K : Nat} (w : ∀ h j i n, P h → G (.inr (.inr (K, j))) → P (x_puti h K j i n)) : x_kq P G Gv T0 T1 0 0 (x_zst K) := by
  rintro Γ Z J q S h0 h1 hM ⟨g1, g2, g3⟩
  unfold x_zst
  split
  · rename_i heq
    rw [heq] at g2
    exact fun h => ⟨h.1, h.2.1, h.2.2.1, h.2.2.2.1, h.2.2.2.2, g1, gd_t (gd_t (gd_t g2)), w _ _ _ _ g3 (by have := gd_h (gd_t (gd_t g2)); rw [h.1] at this; exact this)⟩
  · exact id
theorem kq_aald {K T : Nat} (w : ∀ h j (i : Int32), P h → x_live h K j → x_in h K j i → G (.inr (.inr (K, j))) → G (.inr (.inr (T, x_vr h K j i.toNatClampNeg)))) : x_kq P G Gv T0 T1 0 0 (x_aald K T) := by
  rintro Γ Z J q S h0 h1 hM ⟨g1, g2, g3⟩
  unfold x_aald
  split
  · rename_i heq
    rw [heq] at g2
    exact fun h => ⟨h.1, h.2.1, h.2.2.1, h.2.2.2, g1, gd_c (w _ _ _ g3 h.2.1 h.2.2.1 (by have := gd_h (gd_t g2); rw [h.1] at this; exact this)) (gd_t (gd_t g2)), g3⟩
  · exact id
theorem kq_aast {K T : Nat} (w : ∀ h j i j', P h → G (.inr (.inr (K, j))) → G (.inr (.inr (T, j'))) → P (x_putr h K j i j')) : x_kq P G Gv T0 T1 0 0 (x_aast K T) := by
  rintro Γ Z J q S h0 h1 hM ⟨g1, g2, g3⟩
  unfold x_aast
  split
  · rename_i heq
    rw [heq] at g2
    exact fun h => ⟨h.1, h.2.1, h.2.2.1, h.2.2.2.1, h.2.2.2.2, g1, gd_t (gd_t (gd_t g2)), w _ _ _ _ g3 (by have := gd_h (gd_t (gd_t g2)); rw [h.1] at this; exact this) (by have := gd_h g2; rw [h.2.1] at this; exact this)⟩
  · exact id
theorem kq_alen {K : Nat} (B : x_gB P G Gv) : x_kq P G Gv T0 T1 0 0 (x_alen K) := by
  rintro Γ Z J q S h0 h1 hM ⟨g1, g2, g3⟩
  unfold x_alen
  split
  · rename_i heq
    rw [heq] at g2
    exact fun h => ⟨h.1, h.2.1, h.2.2, g1, gd_c (B.2.1 _ (B.1 _)) (gd_t g2), g3⟩
  · exact id
theorem kq_newo {K N bc bs : Nat} (w : ∀ h, P h → G (.inr (.inr (K, x_cn h K + 1))) ∧ P (x_new h K N)) : x_kq P G Gv T0 T1 0 0 (x_newo K N bc bs) := fun _ _ _ _ _ _ _ _ g h => ⟨h.1, h.2.1, h.2.2, g.1, gd_c (w _ g.2.2).1 g.2.1, (w _ g.2.2).2⟩
theorem kq_newr {K bc bs : Nat} (w : ∀ h n, P h → G (.inr (.inr (K, x_cn h K + 1))) ∧ P (x_newa h K n)) : x_kq P G Gv T0 T1 0 0 (x_newr K bc bs) := by
  rintro Γ Z J q S h0 h1 hM ⟨g1, g2, g3⟩
  unfold x_newr
  split
  · rename_i heq
    rw [heq] at g2
    exact fun h => ⟨h.1, h.2.1, h.2.2.1, h.2.2.2.1, h.2.2.2.2, g1, gd_c (w _ 0 g3).1 (gd_t g2), (w _ _ g3).2⟩
  · exact id
theorem kq_objinit : x_kq P G Gv T0 T1 0 0 x_objinit := by
  rintro Γ Z J q S h0 h1 hM ⟨g1, g2, g3⟩
  unfold x_objinit
  split
  · rename_i heq
    rw [heq] at g2
    exact fun h => ⟨h.1, h.2.1, h.2.2.1, h.2.2.2, g1, gd_t g2, g3⟩
  · exact id
theorem kq_call0 {y mc ms bc bs : Nat} (B : x_gB P G Gv) (hT : T0 y = true) (hd : d ≤ n) : x_kq P G Gv T0 T1 d 0 (x_call y n mc ms bc bs) := fun Γ Z J q S h0 h1 hM g h => ⟨h.1, h.2.1, h.2.2.1, h.2.2.2.1, hM _ _ _ _ _ (fun o g9 => match o with
  | .inl _ => fun z => ⟨z.1, g.1, gd_r B z.2.2 g.2.1 hd, B.2.2.1 _ _ _ z.2.1⟩
  | .inr _ => fun z => ⟨z.1, B.2.2.1 _ _ _ z.2.1, fun _ hv => by cases hv⟩) (h0 _ _ _ _ hT (B.2.2.1 _ _ _ g.2.2) h.2.2.2.2)⟩
theorem kq_call {y mc ms bc bs : Nat} (B : x_gB P G Gv) (hT : T1 y = true) : x_kq P G Gv T0 T1 0 0 (x_call y n mc ms bc bs) := fun Γ Z J q S h0 h1 hM g h => ⟨h.1, h.2.1, h.2.2.1, h.2.2.2.1, hM _ _ _ _ _ (fun o g9 => match o with
  | .inl _ => fun z => ⟨z.1, g.1, gd_r B z.2.2 g.2.1 (Nat.zero_le _), B.2.2.1 _ _ _ z.2.1⟩
  | .inr _ => fun z => ⟨z.1, B.2.2.1 _ _ _ z.2.1, fun _ hv => by cases hv⟩) (h1 _ _ _ _ hT (B.2.2.1 _ _ _ g.2.2) (gd_tk g.2.1) h.2.2.2.2)⟩
theorem kq_callv0 {K y mc ms bc bs : Nat} (B : x_gB P G Gv) (hT : T0 y = true) (hd : d ≤ n) : x_kq P G Gv T0 T1 d 0 (x_callv K y n mc ms bc bs) := fun Γ Z J q S h0 h1 hM g h => ⟨h.1, kq_call0 B hT hd Γ Z J q S h0 h1 hM g h.2⟩
theorem kq_callv {K y mc ms bc bs : Nat} (B : x_gB P G Gv) (hT : T1 y = true) : x_kq P G Gv T0 T1 0 0 (x_callv K y n mc ms bc bs) := fun Γ Z J q S h0 h1 hM g h => ⟨h.1, kq_call B hT Γ Z J q S h0 h1 hM g h.2⟩
theorem kq_calli {y mc ms bc bs : Nat} (B : x_gB P G Gv) (hT : T1 y = true) : x_kq P G Gv T0 T1 0 0 (x_calli y n mc ms bc bs) := fun Γ Z J q S h0 h1 hM g h => ⟨h.1, h.2.1, h.2.2.1, h.2.2.2.1, h.2.2.2.2.1, h.2.2.2.2.2.1, hM _ _ _ _ _ (fun o g9 => match o with
  | .inl _ => fun z => ⟨z.1, g.1, gd_r B z.2.2 g.2.1 (Nat.zero_le _), B.2.2.1 _ _ _ z.2.1⟩
  | .inr _ => fun z => z.1) (h1 _ _ _ _ hT (B.2.2.1 _ _ _ g.2.2) (gd_tk g.2.1) h.2.2.2.2.2.2)⟩
theorem kq_calln {y mc ms bc bs : Nat} (B : x_gB P G Gv) (hT : T1 y = true) : x_kq P G Gv T0 T1 0 0 (x_calln y n mc ms bc bs) := fun Γ Z J q S h0 h1 hM g h => ⟨h.1, h.2.1, h.2.2.1, h.2.2.2.1, hM _ _ _ _ _ (fun o g9 => match o with
  | .inl _ => fun z => ⟨z.1, g.1, gd_r B z.2.2 g.2.1 (Nat.zero_le _), B.2.2.1 _ _ _ z.2.1⟩
  | .inr _ => fun z => z.1) (h1 _ _ _ _ hT (B.2.2.1 _ _ _ g.2.2) (gd_tk g.2.1) h.2.2.2.2)⟩
theorem kq_calln0 {y mc ms bc bs : Nat} (B : x_gB P G Gv) (hT : T0 y = true) (hd : d ≤ n) : x_kq P G Gv T0 T1 d 0 (x_calln y n mc ms bc bs) := fun Γ Z J q S h0 h1 hM g h => ⟨h.1, h.2.1, h.2.2.1, h.2.2.2.1, hM _ _ _ _ _ (fun o g9 => match o with
  | .inl _ => fun z => ⟨z.1, g.1, gd_r B z.2.2 g.2.1 hd, B.2.2.1 _ _ _ z.2.1⟩
  | .inr _ => fun z => z.1) (h0 _ _ _ _ hT (B.2.2.1 _ _ _ g.2.2) h.2.2.2.2)⟩
theorem kq_ret : x_kq P G Gv T0 T1 0 0 x_ret := by
  rintro Γ Z J q S h0 h1 hM ⟨g1, g2, g3⟩
  unfold x_ret
  split
  · exact fun h => ⟨h, g3, fun _ hv => by cases hv⟩
  · exact id
theorem kq_iret (B : x_gB P G Gv) : x_kq P G Gv T0 T1 0 0 x_iret := by
  rintro Γ Z J q S h0 h1 hM ⟨g1, g2, g3⟩
  unfold x_iret
  split
  · exact fun h => ⟨h, g3, fun _ hv => by cases hv; exact B.1 _⟩
  · exact id
theorem kq_zret (B : x_gB P G Gv) : x_kq P G Gv T0 T1 0 0 x_zret := by
  rintro Γ Z J q S h0 h1 hM ⟨g1, g2, g3⟩
  unfold x_zret
  split
  · exact fun h => ⟨h.1, h.2, g3, fun _ hv => by cases hv; exact B.1 _⟩
  · exact id
theorem kq_aret {T : Nat} (w : ∀ j, Gv (.inr (.inr (T, j)))) : x_kq P G Gv T0 T1 0 0 (x_aret T) := by
  rintro Γ Z J q S h0 h1 hM ⟨g1, g2, g3⟩
  unfold x_aret
  split
  · exact fun h => ⟨h.1, h.2, g3, fun _ hv => by cases hv; rw [h.1]; exact w _⟩
  · exact id
theorem kq_throw {E bc bs : Nat} (B : x_gB P G Gv) : x_kq P G Gv T0 T1 0 0 (x_throw E bc bs) := fun _ _ _ _ _ _ _ _ g h => ⟨h.1, h.2.1, h.2.2.1, fun d => ⟨h.2.2.2 d, B.2.2.2 _ _ g.2.2, fun _ hv => by cases hv⟩⟩
def x_qL (P : xH → Prop) (G Gv : xV → Prop) (T0 T1 : Nat → Bool) : Nat → List (Nat × xI) → Prop
  | _, [] => True
  | d, f :: r => ∃ d', x_kq P G Gv T0 T1 d d' f.2 ∧ x_qL P G Gv T0 T1 d' r
theorem x_qlc {d' nx : Nat} {f : xI} {r : List (Nat × xI)} (a : x_kq P G Gv T0 T1 d d' f) (b : x_qL P G Gv T0 T1 d' r) : x_qL P G Gv T0 T1 d ((nx, f) :: r) := ⟨d', a, b⟩
theorem x_qln : x_qL P G Gv T0 T1 d [] := by unfold x_qL; trivial
theorem x_seq_q : ∀ (L : List (Nat × xI)), x_mL L → ∀ d, x_qL P G Gv T0 T1 d L → ∀ (Γ : xG) (Z : xO → xH → Prop) (J : Nat → xS → Prop) (S : xS), (∀ μ a h Y, T0 μ = true → P h → Γ μ a h Y → Γ μ a h (fun o g => Y o g ∧ P g ∧ x_go Gv o)) → (∀ μ a h Y, T1 μ = true → P h → (∀ v ∈ a, G v) → Γ μ a h Y → Γ μ a h (fun o g => Y o g ∧ P g ∧ x_go Gv o)) → (∀ μ a h Y Y', (∀ o g, Y o g → Y' o g) → Γ μ a h Y → Γ μ a h Y') → x_sg P G d S → x_seq L Γ Z J S → x_seq L Γ (fun o g => Z o g ∧ P g ∧ x_go Gv o) (fun pc S' => J pc S' ∧ x_sg P G 0 S') S
  | [], _, _, _, _, _, _, _, _, _, _, _, h => h
  | f :: r, hm, d, ⟨d', k1, k2⟩, Γ, Z, J, S, h0, h1, hM, hS, h => hm.1 Γ Γ _ _ _ _ _ _ S hM (fun _ _ z => z) (fun _ _ z => z) (fun S' h' => x_seq_q r hm.2 d' k2 Γ Z J S' h0 h1 hM h'.2 h'.1) (k1 Γ Z J _ S h0 h1 hM hS h)
theorem x_wp_q0 (hk : ∀ μ pc, T0 μ = true → x_qL P (fun _ => True) Gv T0 (fun _ => false) 0 (x_cd μ pc)) : ∀ (n μ pc : Nat) (S : xS) (Z : xO → xH → Prop), T0 μ = true → P S.2.2 → x_wp x_xm x_cd n μ pc S Z → x_wp x_xm x_cd n μ pc S (fun o g => Z o g ∧ P g ∧ x_go Gv o)
  | 0, _, _, _, _, _, _, h => h.elim
  | n + 1, μ, pc, S, Z, hT, hP, h => x_seq_mono (x_cd μ pc) (x_mcd μ pc) _ _ _ _ _ _ S (fun μ' a h' Y Y' hY hg => ⟨hg.1, hg.2.1, hg.2.2.1, x_wp_mono x_mcd n n (Nat.le_refl n) μ' 0 _ Y Y' hY hg.2.2.2⟩) (fun _ _ z => z) (fun pc' S' hg => x_wp_q0 hk n μ pc' S' Z hT hg.2.2.2 hg.1)
    (x_seq_q (x_cd μ pc) (x_mcd μ pc) 0 (hk μ pc hT) _ Z _ S (fun μ' a h' Y hT' hP' hg => ⟨hg.1, hg.2.1, hg.2.2.1, x_wp_q0 hk n μ' 0 _ Y hT' hP' hg.2.2.2⟩) (fun _ _ _ _ hT' => by cases hT') (fun μ' a h' Y Y' hY hg => ⟨hg.1, hg.2.1, hg.2.2.1, x_wp_mono x_mcd n n (Nat.le_refl n) μ' 0 _ Y Y' hY hg.2.2.2⟩) ⟨fun _ _ => trivial, fun _ _ => trivial, hP⟩ h)
theorem x_init_g {m : Nat} {as : List xV} (g0 : Gv (.inr (.inr (0, 0)))) (g : ∀ v ∈ as, Gv v) : ∀ v ∈ x_init m as, Gv v := fun w hw => by
  rcases List.mem_append.mp hw with q | q
  · exact g w q
  · rw [List.eq_of_mem_replicate q]; exact g0
theorem x_wp_q1 (g0 : Gv (.inr (.inr (0, 0)))) (hk : ∀ μ pc, T0 μ = true → x_qL P (fun _ => True) Gv T0 (fun _ => false) 0 (x_cd μ pc)) (hk1 : ∀ μ pc, T1 μ = true → x_qL P Gv Gv T0 T1 0 (x_cd μ pc)) : ∀ (n μ pc : Nat) (S : xS) (Z : xO → xH → Prop), T1 μ = true → x_sg P Gv 0 S → x_wp x_xm x_cd n μ pc S Z → x_wp x_xm x_cd n μ pc S (fun o g => Z o g ∧ P g ∧ x_go Gv o)
  | 0, _, _, _, _, _, _, h => h.elim
  | n + 1, μ, pc, S, Z, hT, hS, h => x_seq_mono (x_cd μ pc) (x_mcd μ pc) _ _ _ _ _ _ S (fun μ' a h' Y Y' hY hg => ⟨hg.1, hg.2.1, hg.2.2.1, x_wp_mono x_mcd n n (Nat.le_refl n) μ' 0 _ Y Y' hY hg.2.2.2⟩) (fun _ _ z => z) (fun pc' S' hg => x_wp_q1 g0 hk hk1 n μ pc' S' Z hT hg.2 hg.1)
    (x_seq_q (x_cd μ pc) (x_mcd μ pc) 0 (hk1 μ pc hT) _ Z _ S (fun μ' a h' Y hT' hP' hg => ⟨hg.1, hg.2.1, hg.2.2.1, x_wp_q0 hk n μ' 0 _ Y hT' hP' hg.2.2.2⟩) (fun μ' a h' Y hT' hP' ha hg => ⟨hg.1, hg.2.1, hg.2.2.1, x_wp_q1 g0 hk hk1 n μ' 0 _ Y hT' ⟨x_init_g g0 ha, fun w hw => by cases hw, hP'⟩ hg.2.2.2⟩) (fun μ' a h' Y Y' hY hg => ⟨hg.1, hg.2.1, hg.2.2.1, x_wp_mono x_mcd n n (Nat.le_refl n) μ' 0 _ Y Y' hY hg.2.2.2⟩) hS h)
theorem x_qlookup {l : List (Nat × List (Nat × xI))} (h : ∀ b ∈ l, x_qL P G Gv T0 T1 0 b.2) (pc : Nat) : x_qL P G Gv T0 T1 0 ((l.lookup pc).getD []) := by
  induction l with
  | nil => exact x_qln
  | cons b r ih =>
    rw [List.lookup_cons]
    by_cases e : pc = b.1
    · subst e
      simp only [beq_self_eq_true]
      exact h b List.mem_cons_self
    · rw [show (pc == b.1) = false from beq_eq_false_iff_ne.mpr e]
      exact ih (fun b hb => h b (List.mem_cons_of_mem _ hb))
theorem x_qcd {T : Nat → Bool} (ht : ∀ (i : Nat) (t : List (Nat × List (Nat × xI))), x_tbl[i]? = some t → T i = true → ∀ b ∈ t, x_qL P G Gv T0 T1 0 b.2) (μ pc : Nat) (hT : T μ = true) : x_qL P G Gv T0 T1 0 (x_cd μ pc) := by
  unfold x_cd
  refine x_qlookup ?_ pc
  cases hx : x_tbl[μ]? with
  | none => exact fun b hb => by cases hb
  | some t => exact ht μ t hx hT
end XKQ
