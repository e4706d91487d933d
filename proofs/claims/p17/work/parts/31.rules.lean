/-! RULES, goal first: one instruction of a block -/
section XQ
variable {nx : Nat} {r : List (Nat × xI)} {Γ : xG} {Z : xO → xH → Prop} {J : Nat → xS → Prop} {ls st : List xV} {h : xH}
theorem q_iload {a : Nat} {n : Int32} (ha : ls[a]? = some (.inl n)) (k : x_seq r Γ Z J (ls, .inl n :: st, h)) : x_seq ((nx, x_iload a) :: r) Γ Z J (ls, st, h) := by
  show x_iload a Γ Z J _ (ls, st, h)
  unfold x_iload
  simp only [ha]
  exact k
theorem q_aload {a t j : Nat} (ha : ls[a]? = some (.inr (.inr (t, j)))) (ht : t ≠ 0) (k : x_seq r Γ Z J (ls, .inr (.inr (t, j)) :: st, h)) : x_seq ((nx, x_aload a) :: r) Γ Z J (ls, st, h) := by
  show x_aload a Γ Z J _ (ls, st, h)
  unfold x_aload
  simp only [ha]
  exact ⟨ht, k⟩
theorem q_istore {a : Nat} {n : Int32} (ha : a < ls.length) (k : x_seq r Γ Z J (ls.set a (.inl n), st, h)) : x_seq ((nx, x_istore a) :: r) Γ Z J (ls, .inl n :: st, h) := ⟨ha, k⟩
theorem q_astore {a : Nat} {v : Nat × Nat} (ha : a < ls.length) (k : x_seq r Γ Z J (ls.set a (.inr (.inr v)), st, h)) : x_seq ((nx, x_astore a) :: r) Γ Z J (ls, .inr (.inr v) :: st, h) := ⟨ha, k⟩
theorem q_iinc {a : Nat} {v n : Int32} (ha : ls[a]? = some (.inl n)) (k : x_seq r Γ Z J (ls.set a (.inl (n + v)), st, h)) : x_seq ((nx, x_iinc a v) :: r) Γ Z J (ls, st, h) := by
  show x_iinc a v Γ Z J _ (ls, st, h)
  unfold x_iinc
  simp only [ha]
  exact k
theorem q_iconst {v : Int32} (k : x_seq r Γ Z J (ls, .inl v :: st, h)) : x_seq ((nx, x_iconst v) :: r) Γ Z J (ls, st, h) := k
theorem q_null {t : Nat} (k : x_seq r Γ Z J (ls, .inr (.inr (t, 0)) :: st, h)) : x_seq ((nx, x_null t) :: r) Γ Z J (ls, st, h) := k
theorem q_stage {t : Nat} (k : x_seq r Γ Z J (ls, .inr (.inr (9, t)) :: st, h)) : x_seq ((nx, x_stage t) :: r) Γ Z J (ls, st, h) := k
theorem q_bin {f : Int32 → Int32 → Int32} {x y : Int32} (k : x_seq r Γ Z J (ls, .inl (f x y) :: st, h)) : x_seq ((nx, x_bin f) :: r) Γ Z J (ls, .inl y :: .inl x :: st, h) := k
theorem q_idiv {x y : Int32} (hy : ¬ y = 0) (k : x_seq r Γ Z J (ls, .inl (x / y) :: st, h)) : x_seq ((nx, x_idiv) :: r) Γ Z J (ls, .inl y :: .inl x :: st, h) := ⟨hy, k⟩
theorem q_irem {x y : Int32} (hy : ¬ y = 0) (k : x_seq r Γ Z J (ls, .inl (x - x / y * y) :: st, h)) : x_seq ((nx, x_irem) :: r) Γ Z J (ls, .inl y :: .inl x :: st, h) := ⟨hy, k⟩
theorem q_dup {v : xV} (hv : x_cat v = 1) (k : x_seq r Γ Z J (ls, v :: v :: st, h)) : x_seq ((nx, x_dup) :: r) Γ Z J (ls, v :: st, h) := ⟨hv, k⟩
theorem q_dup2 {v w : xV} (hv : x_cat v = 1) (hw : x_cat w = 1) (k : x_seq r Γ Z J (ls, v :: w :: v :: w :: st, h)) : x_seq ((nx, x_dup2) :: r) Γ Z J (ls, v :: w :: st, h) := ⟨hv, hw, k⟩
theorem q_pop {v : xV} (hv : x_cat v = 1) (k : x_seq r Γ Z J (ls, st, h)) : x_seq ((nx, x_pop) :: r) Γ Z J (ls, v :: st, h) := ⟨hv, k⟩
theorem q_goto {a : Nat} (k : J a (ls, st, h)) : x_seq ((nx, x_goto a) :: r) Γ Z J (ls, st, h) := k
theorem q_if {c : Int32 → Prop} {a : Nat} {x : Int32} (kt : c x → J a (ls, st, h)) (kf : ¬ c x → x_seq r Γ Z J (ls, st, h)) : x_seq ((nx, x_if c a) :: r) Γ Z J (ls, .inl x :: st, h) := ⟨kt, kf⟩
theorem q_icmp {c : Int32 → Int32 → Prop} {a : Nat} {x y : Int32} (kt : c x y → J a (ls, st, h)) (kf : ¬ c x y → x_seq r Γ Z J (ls, st, h)) : x_seq ((nx, x_icmp c a) :: r) Γ Z J (ls, .inl y :: .inl x :: st, h) := ⟨kt, kf⟩
theorem q_aeq {T a j j' : Nat} (kt : j' = j → J a (ls, st, h)) (kf : ¬ j' = j → x_seq r Γ Z J (ls, st, h)) : x_seq ((nx, x_aeq T a) :: r) Γ Z J (ls, .inr (.inr (T, j)) :: .inr (.inr (T, j')) :: st, h) := ⟨rfl, rfl, kt, kf⟩
theorem q_ane {T a j j' : Nat} (kt : ¬ j' = j → J a (ls, st, h)) (kf : j' = j → x_seq r Γ Z J (ls, st, h)) : x_seq ((nx, x_ane T a) :: r) Γ Z J (ls, .inr (.inr (T, j)) :: .inr (.inr (T, j')) :: st, h) := ⟨rfl, rfl, kt, kf⟩
theorem q_ifnull {a t j : Nat} (kt : j = 0 → J a (ls, st, h)) (kf : ¬ j = 0 → x_seq r Γ Z J (ls, st, h)) : x_seq ((nx, x_ifnull a) :: r) Γ Z J (ls, .inr (.inr (t, j)) :: st, h) := ⟨kt, kf⟩
theorem q_ifnonnull {a t j : Nat} (kt : ¬ j = 0 → J a (ls, st, h)) (kf : j = 0 → x_seq r Γ Z J (ls, st, h)) : x_seq ((nx, x_ifnonnull a) :: r) Γ Z J (ls, .inr (.inr (t, j)) :: st, h) := ⟨kt, kf⟩
theorem q_gfi {K k j : Nat} (hj : x_live h K j) (kk : x_seq r Γ Z J (ls, .inl (x_vi h K k j) :: st, h)) : x_seq ((nx, x_gfi K k) :: r) Γ Z J (ls, .inr (.inr (K, j)) :: st, h) := ⟨rfl, hj, kk⟩
theorem q_gfr {K k T j : Nat} (hj : x_live h K j) (kk : x_seq r Γ Z J (ls, .inr (.inr (T, x_vr h K k j)) :: st, h)) : x_seq ((nx, x_gfr K k T) :: r) Γ Z J (ls, .inr (.inr (K, j)) :: st, h) := ⟨rfl, hj, kk⟩
theorem q_pfi {K k j : Nat} {n : Int32} (hj : x_live h K j) (kk : x_seq r Γ Z J (ls, st, x_puti h K k j n)) : x_seq ((nx, x_pfi K k) :: r) Γ Z J (ls, .inl n :: .inr (.inr (K, j)) :: st, h) := ⟨rfl, hj, kk⟩
theorem q_pfz {K k j : Nat} {n : Int32} (hj : x_live h K j) (hn : n = 0 ∨ n = 1) (kk : x_seq r Γ Z J (ls, st, x_puti h K k j n)) : x_seq ((nx, x_pfz K k) :: r) Γ Z J (ls, .inl n :: .inr (.inr (K, j)) :: st, h) := ⟨rfl, hj, hn, kk⟩
theorem q_pfr {K k T j j' : Nat} (hj : x_live h K j) (kk : x_seq r Γ Z J (ls, st, x_putr h K k j j')) : x_seq ((nx, x_pfr K k T) :: r) Γ Z J (ls, .inr (.inr (T, j')) :: .inr (.inr (K, j)) :: st, h) := ⟨rfl, rfl, hj, kk⟩
theorem q_ald {K j : Nat} {i : Int32} (hj : x_live h K j) (hi : x_in h K j i) (kk : x_seq r Γ Z J (ls, .inl (x_vi h K j i.toNatClampNeg) :: st, h)) : x_seq ((nx, x_ald K) :: r) Γ Z J (ls, .inl i :: .inr (.inr (K, j)) :: st, h) := ⟨rfl, hj, hi, kk⟩
theorem q_ast {K j : Nat} {i n : Int32} (hj : x_live h K j) (hi : x_in h K j i) (kk : x_seq r Γ Z J (ls, st, x_puti h K j i.toNatClampNeg n)) : x_seq ((nx, x_ast K) :: r) Γ Z J (ls, .inl n :: .inl i :: .inr (.inr (K, j)) :: st, h) := ⟨rfl, hj, hi, kk⟩
theorem q_zst {K j : Nat} {i n : Int32} (hj : x_live h K j) (hi : x_in h K j i) (hn : n = 0 ∨ n = 1) (kk : x_seq r Γ Z J (ls, st, x_puti h K j i.toNatClampNeg n)) : x_seq ((nx, x_zst K) :: r) Γ Z J (ls, .inl n :: .inl i :: .inr (.inr (K, j)) :: st, h) := ⟨rfl, hj, hi, hn, kk⟩
theorem q_aald {K T j : Nat} {i : Int32} (hj : x_live h K j) (hi : x_in h K j i) (kk : x_seq r Γ Z J (ls, .inr (.inr (T, x_vr h K j i.toNatClampNeg)) :: st, h)) : x_seq ((nx, x_aald K T) :: r) Γ Z J (ls, .inl i :: .inr (.inr (K, j)) :: st, h) := ⟨rfl, hj, hi, kk⟩
theorem q_aast {K T j j' : Nat} {i : Int32} (hj : x_live h K j) (hi : x_in h K j i) (kk : x_seq r Γ Z J (ls, st, x_putr h K j i.toNatClampNeg j')) : x_seq ((nx, x_aast K T) :: r) Γ Z J (ls, .inr (.inr (T, j')) :: .inl i :: .inr (.inr (K, j)) :: st, h) := ⟨rfl, rfl, hj, hi, kk⟩
theorem q_alen {K j : Nat} (hj : x_live h K j) (kk : x_seq r Γ Z J (ls, .inl (Int32.ofNat (x_ln h K j)) :: st, h)) : x_seq ((nx, x_alen K) :: r) Γ Z J (ls, .inr (.inr (K, j)) :: st, h) := ⟨rfl, hj, kk⟩
theorem q_call {y n mc ms bc bs : Nat} (h1 : n ≤ st.length) (h2 : x_cats (st.drop n) ≤ 8) (h3 : x_ce h + mc ≤ bc) (h4 : x_so h + ms ≤ bs)
    (kk : Γ y (st.take n).reverse (x_setc h 0 0) (fun o g => match o with
      | .inl v => x_seq r Γ Z J (ls, v.toList ++ st.drop n, x_setc g (x_ce h + mc) (x_so h + ms))
      | .inr k => Z (.inr k) (x_setc g (x_ce h + mc) (x_so h + ms)))) : x_seq ((nx, x_call y n mc ms bc bs) :: r) Γ Z J (ls, st, h) := ⟨h1, h2, h3, h4, kk⟩
theorem q_callv {K y n mc ms bc bs j : Nat} (h0 : (st.drop (n - 1)).head? = some (.inr (.inr (K, j)))) (hn : 1 ≤ n) (hj : x_live h K j) (h1 : n ≤ st.length) (h2 : x_cats (st.drop n) ≤ 8) (h3 : x_ce h + mc ≤ bc) (h4 : x_so h + ms ≤ bs)
    (kk : Γ y (st.take n).reverse (x_setc h 0 0) (fun o g => match o with
      | .inl v => x_seq r Γ Z J (ls, v.toList ++ st.drop n, x_setc g (x_ce h + mc) (x_so h + ms))
      | .inr k => Z (.inr k) (x_setc g (x_ce h + mc) (x_so h + ms)))) : x_seq ((nx, x_callv K y n mc ms bc bs) :: r) Γ Z J (ls, st, h) := by
  refine ⟨?_, h1, h2, h3, h4, kk⟩
  dsimp only
  rw [h0]
  exact ⟨hn, rfl, hj⟩
theorem q_calli {y n mc ms bc bs t j : Nat} (h0 : (st.drop (n - 1)).head? = some (.inr (.inr (t, j)))) (ht : t ≠ 0) (hj : 1 ≤ j) (hn : 1 ≤ n) (h1 : n ≤ st.length) (h2 : x_cats (st.drop n) ≤ 8) (h3 : x_ce h + mc ≤ bc) (h4 : x_so h + ms ≤ bs)
    (kk : Γ y (st.take n).reverse (x_setc h 0 0) (fun o g => match o with
      | .inl v => x_seq r Γ Z J (ls, v.toList ++ st.drop n, x_setc g (x_ce h + mc) (x_so h + ms))
      | .inr _ => False)) : x_seq ((nx, x_calli y n mc ms bc bs) :: r) Γ Z J (ls, st, h) := by
  refine ⟨h1, hn, h2, h3, h4, ?_, kk⟩
  dsimp only
  rw [h0]
  exact ⟨ht, hj⟩
theorem q_calln {y n mc ms bc bs : Nat} (h1 : n ≤ st.length) (h2 : x_cats (st.drop n) ≤ 8) (h3 : x_ce h + mc ≤ bc) (h4 : x_so h + ms ≤ bs)
    (kk : Γ y (st.take n).reverse (x_setc h 0 0) (fun o g => match o with
      | .inl v => x_seq r Γ Z J (ls, v.toList ++ st.drop n, x_setc g (x_ce h + mc) (x_so h + ms))
      | .inr _ => False)) : x_seq ((nx, x_calln y n mc ms bc bs) :: r) Γ Z J (ls, st, h) := ⟨h1, h2, h3, h4, kk⟩
theorem q_newo {K N bc bs : Nat} (h3 : x_ce h + 1 ≤ bc) (h4 : x_so h + N ≤ bs) (kk : x_seq r Γ Z J (ls, .inr (.inr (K, x_cn h K + 1)) :: st, x_new h K N)) : x_seq ((nx, x_newo K N bc bs) :: r) Γ Z J (ls, st, h) := ⟨h3, h4, kk⟩
theorem q_newr {K bc bs : Nat} {n : Int32} (h1 : 0 ≤ n.toInt) (h2 : n.toInt ≤ 100000) (h3 : x_ce h + 1 ≤ bc) (h4 : x_so h + n.toNatClampNeg ≤ bs) (kk : x_seq r Γ Z J (ls, .inr (.inr (K, x_cn h K + 1)) :: st, x_newa h K n.toNatClampNeg)) : x_seq ((nx, x_newr K bc bs) :: r) Γ Z J (ls, .inl n :: st, h) := ⟨h1, h2, h3, h4, kk⟩
theorem q_objinit {t j : Nat} (ht : t ≠ 0) (hj : 1 ≤ j) (hs : x_cats st ≤ 8) (kk : x_seq r Γ Z J (ls, st, h)) : x_seq ((nx, x_objinit) :: r) Γ Z J (ls, .inr (.inr (t, j)) :: st, h) := ⟨ht, hj, hs, kk⟩
theorem q_ret (kk : Z (.inl none) h) : x_seq ((nx, x_ret) :: r) Γ Z J (ls, [], h) := kk
theorem q_iret {n : Int32} (kk : Z (.inl (some (.inl n))) h) : x_seq ((nx, x_iret) :: r) Γ Z J (ls, [.inl n], h) := kk
theorem q_zret {n : Int32} (hn : n = 0 ∨ n = 1) (kk : Z (.inl (some (.inl n))) h) : x_seq ((nx, x_zret) :: r) Γ Z J (ls, [.inl n], h) := ⟨hn, kk⟩
theorem q_aret {T j : Nat} (kk : Z (.inl (some (.inr (.inr (T, j))))) h) : x_seq ((nx, x_aret T) :: r) Γ Z J (ls, [.inr (.inr (T, j))], h) := ⟨rfl, kk⟩
theorem q_throw {E bc bs : Nat} (h2 : x_cats st ≤ 8) (h3 : x_ce h + 1 ≤ bc) (h4 : x_so h + 6 ≤ bs) (kk : ∀ d, Z (.inr E) (x_exc h d)) : x_seq ((nx, x_throw E bc bs) :: r) Γ Z J (ls, st, h) := ⟨h2, h3, h4, kk⟩
end XQ
/-- a contract at a fuel is one at any more, and with a weaker end -/
theorem xC.mono {n m μ : Nat} {a : List xV} {h : xH} {Z Z' : xO → xH → Prop} (hc : xC n μ a h Z) (hn : n ≤ m) (hZ : ∀ o g, Z o g → Z' o g) : xC m μ a h Z' := ⟨hc.1, hc.2.1, hc.2.2.1, hc.2.2.2.mono hn hZ⟩
