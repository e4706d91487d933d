/-! THE REFERENCE: its ints as one function F of kind and place over a heap that stays -/
abbrev xF : Type := Nat → Nat → Int32
/-- the heap h with the reference's ints F -/
def mh (h : xH) (F : xF) : xH := (h.1, h.2.1, fun K k i => if K = 8 ∧ i = 1 then F 8 k else if (22 ≤ K ∧ K ≤ 64) ∧ k = 1 then F K i else h.2.2.1 K k i, h.2.2.2)
/-- field, kind, length -/
def msl : List (Nat × Nat × Nat) := [(3, 22, 72), (4, 23, 72), (5, 24, 72), (6, 25, 72), (7, 26, 12), (8, 27, 72), (9, 28, 72), (10, 29, 3), (11, 30, 36), (12, 31, 36), (13, 32, 36), (14, 33, 36), (15, 34, 36), (16, 35, 108), (17, 36, 36), (18, 37, 15), (19, 38, 9), (21, 39, 16), (22, 40, 16), (23, 41, 16), (24, 42, 16), (25, 43, 3), (26, 44, 9), (27, 45, 3), (28, 46, 216), (29, 47, 72), (30, 48, 72), (31, 49, 576), (32, 50, 72), (33, 51, 72), (34, 52, 72), (35, 53, 72), (36, 54, 72), (37, 55, 72), (38, 56, 72), (39, 57, 72), (40, 58, 72), (41, 59, 72), (42, 60, 72), (43, 61, 72), (44, 62, 72), (45, 63, 72), (46, 64, 1152)]
def MS (h : xH) : Prop := x_cn h 8 = 1 ∧ (∀ k K n, (k, K, n) ∈ msl → x_vr h 8 k 1 = 1 ∧ x_cn h K = 1 ∧ x_ln h K 1 = n) ∧ x_ce h = 0 ∧ x_so h = 0
theorem MS.set {h : xH} (S : MS h) : MS (x_setc h 0 0) := ⟨S.1, S.2.1, rfl, rfl⟩
theorem msl_K {k K n : Nat} (hm : (k, K, n) ∈ msl) : 22 ≤ K ∧ K ≤ 64 := by
  simp only [msl, List.mem_cons, Prod.mk.injEq, List.not_mem_nil, or_false] at hm
  omega
theorem mh_put8 {h : xH} {F : xF} {k : Nat} {v : Int32} : x_puti (mh h F) 8 k 1 v = mh h (x_u2 F 8 k v) := by
  refine Prod.ext rfl (Prod.ext rfl (Prod.ext ?_ rfl))
  funext K k' i
  show (if K = 8 ∧ k' = k ∧ i = 1 then v else if K = 8 ∧ i = 1 then F 8 k' else if (22 ≤ K ∧ K ≤ 64) ∧ k' = 1 then F K i else h.2.2.1 K k' i) = (if K = 8 ∧ i = 1 then x_u2 F 8 k v 8 k' else if (22 ≤ K ∧ K ≤ 64) ∧ k' = 1 then x_u2 F 8 k v K i else h.2.2.1 K k' i)
  unfold x_u2
  by_cases e : K = 8 ∧ i = 1
  · obtain ⟨rfl, rfl⟩ := e
    by_cases e2 : k' = k <;> simp [e2]
  · rw [if_neg (fun z => e ⟨z.1, z.2.2⟩), if_neg e, if_neg e]
    by_cases e2 : (22 ≤ K ∧ K ≤ 64) ∧ k' = 1
    · rw [if_pos e2, if_pos e2, if_neg (by omega)]
    · rw [if_neg e2, if_neg e2]
theorem mh_puta {h : xH} {F : xF} {K i : Nat} {v : Int32} (hK : 22 ≤ K ∧ K ≤ 64) : x_puti (mh h F) K 1 i v = mh h (x_u2 F K i v) := by
  refine Prod.ext rfl (Prod.ext rfl (Prod.ext ?_ rfl))
  funext K' k' i'
  show (if K' = K ∧ k' = 1 ∧ i' = i then v else if K' = 8 ∧ i' = 1 then F 8 k' else if (22 ≤ K' ∧ K' ≤ 64) ∧ k' = 1 then F K' i' else h.2.2.1 K' k' i') = (if K' = 8 ∧ i' = 1 then x_u2 F K i v 8 k' else if (22 ≤ K' ∧ K' ≤ 64) ∧ k' = 1 then x_u2 F K i v K' i' else h.2.2.1 K' k' i')
  unfold x_u2
  by_cases e : K' = 8 ∧ i' = 1
  · rw [if_neg (by omega), if_pos e, if_pos e, if_neg (by omega)]
  · rw [if_neg e, if_neg e]
    by_cases e2 : (22 ≤ K' ∧ K' ≤ 64) ∧ k' = 1
    · rw [if_pos e2, if_pos e2]
      by_cases e3 : K' = K ∧ i' = i
      · rw [if_pos ⟨e3.1, e2.2, e3.2⟩, if_pos e3]
      · rw [if_neg (fun z => e3 ⟨z.1, z.2.2⟩), if_neg e3]
    · rw [if_neg e2, if_neg e2, if_neg (by omega)]
section XM
variable {nx : Nat} {r : List (Nat × xI)} {Γ : xG} {Z : xO → xH → Prop} {J : Nat → xS → Prop} {ls st : List xV} {h : xH} {F : xF}
theorem m_gfr {k K n : Nat} (S : MS h) (hm : (k, K, n) ∈ msl) (kk : x_seq r Γ Z J (ls, .inr (.inr (K, 1)) :: st, mh h F)) : x_seq ((nx, x_gfr 8 k K) :: r) Γ Z J (ls, .inr (.inr (8, 1)) :: st, mh h F) := by
  refine q_gfr ⟨Nat.le_refl 1, Nat.le_of_eq S.1.symm⟩ ?_
  show x_seq r Γ Z J (ls, .inr (.inr (K, x_vr h 8 k 1)) :: st, mh h F)
  rw [(S.2.1 k K n hm).1]
  exact kk
theorem m_gfi {k : Nat} (S : MS h) (kk : x_seq r Γ Z J (ls, .inl (F 8 k) :: st, mh h F)) : x_seq ((nx, x_gfi 8 k) :: r) Γ Z J (ls, .inr (.inr (8, 1)) :: st, mh h F) := q_gfi ⟨Nat.le_refl 1, Nat.le_of_eq S.1.symm⟩ kk
theorem m_pfi {k : Nat} {v : Int32} (S : MS h) (kk : x_seq r Γ Z J (ls, st, mh h (x_u2 F 8 k v))) : x_seq ((nx, x_pfi 8 k) :: r) Γ Z J (ls, .inl v :: .inr (.inr (8, 1)) :: st, mh h F) := by
  refine q_pfi ⟨Nat.le_refl 1, Nat.le_of_eq S.1.symm⟩ ?_
  rw [mh_put8]
  exact kk
theorem m_ald {k K n : Nat} {i : Int32} (S : MS h) (hm : (k, K, n) ∈ msl) (h0 : 0 ≤ i.toInt) (h1 : i.toInt < n) (kk : x_seq r Γ Z J (ls, .inl (F K i.toNatClampNeg) :: st, mh h F)) : x_seq ((nx, x_ald K) :: r) Γ Z J (ls, .inl i :: .inr (.inr (K, 1)) :: st, mh h F) := by
  have hK := msl_K hm
  obtain ⟨-, e2, e3⟩ := S.2.1 k K n hm
  refine q_ald ⟨Nat.le_refl 1, Nat.le_of_eq e2.symm⟩ ⟨h0, by show i.toInt < (x_ln h K 1 : Int); rw [e3]; exact h1⟩ ?_
  have e : x_vi (mh h F) K 1 i.toNatClampNeg = F K i.toNatClampNeg := by
    show (if K = 8 ∧ _ then _ else if (22 ≤ K ∧ K ≤ 64) ∧ 1 = 1 then F K _ else _) = _
    rw [if_neg (by omega), if_pos ⟨hK, rfl⟩]
  rw [e]
  exact kk
theorem m_ast {k K n : Nat} {i v : Int32} (S : MS h) (hm : (k, K, n) ∈ msl) (h0 : 0 ≤ i.toInt) (h1 : i.toInt < n) (kk : x_seq r Γ Z J (ls, st, mh h (x_u2 F K i.toNatClampNeg v))) : x_seq ((nx, x_ast K) :: r) Γ Z J (ls, .inl v :: .inl i :: .inr (.inr (K, 1)) :: st, mh h F) := by
  have hK := msl_K hm
  obtain ⟨-, e2, e3⟩ := S.2.1 k K n hm
  refine q_ast ⟨Nat.le_refl 1, Nat.le_of_eq e2.symm⟩ ⟨h0, by show i.toInt < (x_ln h K 1 : Int); rw [e3]; exact h1⟩ ?_
  rw [mh_puta hK]
  exact kk
theorem m_zst {k K n : Nat} {i v : Int32} (S : MS h) (hm : (k, K, n) ∈ msl) (h0 : 0 ≤ i.toInt) (h1 : i.toInt < n) (hz : v = 0 ∨ v = 1) (kk : x_seq r Γ Z J (ls, st, mh h (x_u2 F K i.toNatClampNeg v))) : x_seq ((nx, x_zst K) :: r) Γ Z J (ls, .inl v :: .inl i :: .inr (.inr (K, 1)) :: st, mh h F) := by
  have hK := msl_K hm
  obtain ⟨-, e2, e3⟩ := S.2.1 k K n hm
  refine q_zst ⟨Nat.le_refl 1, Nat.le_of_eq e2.symm⟩ ⟨h0, by show i.toInt < (x_ln h K 1 : Int); rw [e3]; exact h1⟩ hz ?_
  rw [mh_puta hK]
  exact kk
end XM
theorem u2_ne {F : xF} {K i K' i' : Nat} {v : Int32} (hn : K' ≠ K) : x_u2 F K i v K' i' = F K' i' := if_neg (fun z => hn z.1)
theorem u2_eq {F : xF} {K i : Nat} {v : Int32} : x_u2 F K i v K i = v := if_pos ⟨rfl, rfl⟩
theorem u2_ni {F : xF} {K i K' i' : Nat} {v : Int32} (hn : i' ≠ i) : x_u2 F K i v K' i' = F K' i' := if_neg (fun z => hn z.2)
/-- ints with bounds, whatever the place -/
def mrl : List (Nat × Int × Int) := [(26, 0, 6), (27, 0, 23), (28, -1, 71), (29, 0, 12), (33, 0, 3), (35, 0, 2), (38, -1, 71), (41, -1, 71), (42, 0, 1), (43, 0, 3), (45, 0, 72), (46, 0, 71), (47, 0, 5), (48, 0, 5), (49, 0, 9), (51, 0, 2), (53, 0, 2), (54, 0, 2), (55, 0, 7), (57, -1, 71), (58, 0, 35), (63, 0, 16)]
def mfl : List (Nat × Int × Int) := [(20, 0, 16), (47, 0, 3), (48, 0, 3)]
/-- a code of a thing -/
def VC (x : Int) : Prop := (5000 ≤ x ∧ x ≤ 5015) ∨ (0 ≤ x ∧ x < 3000 ∧ (x % 1000 ≤ 11 ∨ (20 ≤ x % 1000 ∧ x % 1000 ≤ 24) ∨ (30 ≤ x % 1000 ∧ x % 1000 ≤ 32)))
/-- how many offices -/
def mpop (v : Int) : Int := v % 2 + v / 2 % 2 + v / 4 % 2
/-- a line's own -/
def SL (F : xF) (c : Nat) : Prop := ((F 47 c).toInt = 1 → (F 48 c).toInt ≤ 4) ∧ (1 ≤ (F 47 c).toInt ∧ (F 47 c).toInt ≤ 3 → (F 63 c).toInt ≤ 3 * mpop (F 55 c).toInt - 2) ∧ (4 ≤ (F 47 c).toInt → 0 ≤ (F 57 c).toInt) ∧ (0 ≤ (F 24 c).toInt → (F 47 c).toInt = 0)
/-- c has no job -/
def NJ (F : xF) (c : Nat) : Prop := ∀ o k : Nat, o < 3 → (k : Int) < (F 45 o).toInt → (F 46 (72 * o + k)).toNatClampNeg ≠ c
def JL (F : xF) : Prop := ∀ o k : Nat, o < 3 → (k : Int) < (F 45 o).toInt → (F 47 (F 46 (72 * o + k)).toNatClampNeg).toInt = 2 ∧ ∀ k' : Nat, k < k' → (k' : Int) < (F 45 o).toInt → F 46 (72 * o + k) ≠ F 46 (72 * o + k')
/-- the reference's invariant but for line e -/
def MX (e : Nat) (F : xF) : Prop := (∀ K lo hi i, (K, lo, hi) ∈ mrl → lo ≤ (F K i).toInt ∧ (F K i).toInt ≤ hi) ∧ (∀ k lo hi, (k, lo, hi) ∈ mfl → lo ≤ (F 8 k).toInt ∧ (F 8 k).toInt ≤ hi) ∧ (∀ i, VC (F 64 i).toInt) ∧ (∀ c, c < 72 → c ≠ e → SL F c) ∧ NJ F e ∧ JL F
theorem MX.rg {e : Nat} {F : xF} (M : MX e F) {K : Nat} {lo hi : Int} (hm : (K, lo, hi) ∈ mrl) (i : Nat) : lo ≤ (F K i).toInt ∧ (F K i).toInt ≤ hi := M.1 K lo hi i hm
theorem MX.fl {e : Nat} {F : xF} (M : MX e F) {k : Nat} {lo hi : Int} (hm : (k, lo, hi) ∈ mfl) : lo ≤ (F 8 k).toInt ∧ (F 8 k).toInt ≤ hi := M.2.1 k lo hi hm
theorem MX.vc {e : Nat} {F : xF} (M : MX e F) (i : Nat) : VC (F 64 i).toInt := M.2.2.1 i
def mln (K : Nat) : Bool := K == 24 || K == 47 || K == 48 || K == 55 || K == 57 || K == 63
theorem MX.put {e : Nat} {F : xF} {K i : Nat} {v : Int32} (M : MX e F) (hr : ∀ lo hi, (K, lo, hi) ∈ mrl → lo ≤ v.toInt ∧ v.toInt ≤ hi) (h8 : K ≠ 8 ∧ K ≠ 45 ∧ K ≠ 46) (hv : K = 64 → VC v.toInt) (hs : mln K = false ∨ i = e) : MX e (x_u2 F K i v) := by
  obtain ⟨m1, m2, m3, m4, m5, m6⟩ := M
  have key : ∀ K', mln K' = true → ∀ c, c ≠ e → x_u2 F K i v K' c = F K' c := by
    intro K' hK' c hc
    refine if_neg ?_
    rintro ⟨rfl, rfl⟩
    rcases hs with q | q
    · rw [hK'] at q; cases q
    · exact hc q
  have e45 : ∀ o, x_u2 F K i v 45 o = F 45 o := fun o => u2_ne (Ne.symm h8.2.1)
  have e46 : ∀ o, x_u2 F K i v 46 o = F 46 o := fun o => u2_ne (Ne.symm h8.2.2)
  refine ⟨fun K' lo hi i' hm => ?_, fun k lo hi hm => ?_, fun i' => ?_, fun c h72 hc => ?_, fun o k ho hk => ?_, fun o k ho hk => ?_⟩
  · unfold x_u2
    by_cases q : K' = K ∧ i' = i
    · rw [if_pos q]; rw [q.1] at hm; exact hr lo hi hm
    · rw [if_neg q]; exact m1 K' lo hi i' hm
  · rw [u2_ne (Ne.symm h8.1)]; exact m2 k lo hi hm
  · unfold x_u2
    by_cases q : 64 = K ∧ i' = i
    · rw [if_pos q]; exact hv q.1.symm
    · rw [if_neg q]; exact m3 i'
  · have := m4 c h72 hc
    unfold SL at this ⊢
    rw [key 47 rfl c hc, key 48 rfl c hc, key 63 rfl c hc, key 55 rfl c hc, key 57 rfl c hc, key 24 rfl c hc]
    exact this
  · rw [e45] at hk
    rw [e46]
    exact m5 o k ho hk
  · rw [e45] at hk
    obtain ⟨q1, q2⟩ := m6 o k ho hk
    refine ⟨?_, fun k' h1 h2 => ?_⟩
    · rw [e46, key 47 rfl _ (m5 o k ho hk)]; exact q1
    · rw [e45] at h2
      rw [e46, e46]
      exact q2 k' h1 h2
theorem mrl_8 {K : Nat} {lo hi : Int} (hm : (K, lo, hi) ∈ mrl) : K ≠ 8 := by
  simp only [mrl, List.mem_cons, Prod.mk.injEq, List.not_mem_nil, or_false] at hm
  omega
theorem MX.putf {e : Nat} {F : xF} {k : Nat} {v : Int32} (M : MX e F) (hr : ∀ lo hi, (k, lo, hi) ∈ mfl → lo ≤ v.toInt ∧ v.toInt ≤ hi) : MX e (x_u2 F 8 k v) := by
  obtain ⟨m1, m2, m3, m4, m5, m6⟩ := M
  refine ⟨fun K' lo hi i' hm => ?_, fun k' lo hi hm => ?_, m3, m4, m5, m6⟩
  · rw [u2_ne (mrl_8 hm)]; exact m1 K' lo hi i' hm
  · unfold x_u2
    by_cases q : 8 = 8 ∧ k' = k
    · rw [if_pos q]; rw [q.2] at hm; exact hr lo hi hm
    · rw [if_neg q]; exact m2 k' lo hi hm
theorem MX.opnJ {F : xF} {c e : Nat} (M : MX e F) (he : e = c ∨ e = 72) (hn : NJ F c) : MX c F := by
  refine ⟨M.1, M.2.1, M.2.2.1, fun c' h72 hc => M.2.2.2.1 c' h72 ?_, hn, M.2.2.2.2.2⟩
  omega
theorem MX.opn {F : xF} {c : Nat} (M : MX 72 F) (hc : (F 47 c).toInt ≠ 2) : MX c F := by
  refine M.opnJ (Or.inr rfl) (fun o k ho hk z => hc ?_)
  rw [← z]
  exact (M.2.2.2.2.2 o k ho hk).1
theorem MX.close {F : xF} {c : Nat} (M : MX c F) (hs : SL F c) : MX 72 F := by
  refine ⟨M.1, M.2.1, M.2.2.1, fun c' h72 hc => ?_, fun o k ho hk z => ?_, M.2.2.2.2.2⟩
  · by_cases q : c' = c
    · rw [q]; exact hs
    · exact M.2.2.2.1 c' h72 q
  · have e := M.rg (K := 46) (lo := 0) (hi := 71) (by decide) (72 * o + k)
    have e2 := x_clamp e.1
    omega
/-- more than there is room for -/
theorem pig : ∀ (n : Nat) (f : Nat → Nat), (∀ i, i < n + 1 → f i < n) → ∃ i j, i < j ∧ j < n + 1 ∧ f i = f j := by
  intro n
  induction n with
  | zero => intro f hf; exact absurd (hf 0 (by omega)) (by omega)
  | succ n ih =>
    intro f hf
    by_cases q : ∃ i, i < n + 1 ∧ f i = f (n + 1)
    · obtain ⟨i, q1, q2⟩ := q
      exact ⟨i, n + 1, q1, by omega, q2⟩
    · have hne : ∀ i, i < n + 1 → f i ≠ f (n + 1) := fun i hi z => q ⟨i, hi, z⟩
      have hl := hf (n + 1) (by omega)
      obtain ⟨i, j, h1, h2, h3⟩ := ih (fun i => if f i < f (n + 1) then f i else f i - 1) (fun i hi => by
        have a := hne i hi
        have b := hf i (by omega)
        show (if f i < f (n + 1) then f i else f i - 1) < n
        by_cases z : f i < f (n + 1)
        · rw [if_pos z]; omega
        · rw [if_neg z]; omega)
      refine ⟨i, j, h1, by omega, ?_⟩
      have a := hne i (by omega)
      have b := hne j (by omega)
      have h3 : (if f i < f (n + 1) then f i else f i - 1) = (if f j < f (n + 1) then f j else f j - 1) := h3
      by_cases z : f i < f (n + 1)
      · by_cases z' : f j < f (n + 1)
        · rw [if_pos z, if_pos z'] at h3; exact h3
        · rw [if_pos z, if_neg z'] at h3; omega
      · by_cases z' : f j < f (n + 1)
        · rw [if_neg z, if_pos z'] at h3; omega
        · rw [if_neg z, if_neg z'] at h3; omega
theorem MX.room {F : xF} {c o : Nat} (M : MX c F) (hc : c < 72) (ho : o < 3) : (F 45 o).toInt ≤ 71 := by
  refine Classical.byContradiction fun hn => ?_
  have e1 := M.rg (K := 45) (lo := 0) (hi := 72) (by decide) o
  have hj : ∀ i : Nat, i < 72 → (F 46 (72 * o + i)).toNatClampNeg < 72 ∧ (F 46 (72 * o + i)).toNatClampNeg ≠ c := by
    intro i hi
    have e := M.rg (K := 46) (lo := 0) (hi := 71) (by decide) (72 * o + i)
    have e2 := x_clamp e.1
    exact ⟨by omega, M.2.2.2.2.1 o i ho (by omega)⟩
  obtain ⟨i, j, h1, h2, h3⟩ := pig 71 (fun i => if (F 46 (72 * o + i)).toNatClampNeg < c then (F 46 (72 * o + i)).toNatClampNeg else (F 46 (72 * o + i)).toNatClampNeg - 1) (fun i hi => by
    have a := hj i (by omega)
    show (if (F 46 (72 * o + i)).toNatClampNeg < c then (F 46 (72 * o + i)).toNatClampNeg else (F 46 (72 * o + i)).toNatClampNeg - 1) < 71
    by_cases z : (F 46 (72 * o + i)).toNatClampNeg < c
    · rw [if_pos z]; omega
    · rw [if_neg z]; omega)
  have h3 : (if (F 46 (72 * o + i)).toNatClampNeg < c then (F 46 (72 * o + i)).toNatClampNeg else (F 46 (72 * o + i)).toNatClampNeg - 1) = (if (F 46 (72 * o + j)).toNatClampNeg < c then (F 46 (72 * o + j)).toNatClampNeg else (F 46 (72 * o + j)).toNatClampNeg - 1) := h3
  have a := hj i (by omega)
  have b := hj j (by omega)
  have hq : (F 46 (72 * o + i)).toNatClampNeg = (F 46 (72 * o + j)).toNatClampNeg := by
    by_cases z : (F 46 (72 * o + i)).toNatClampNeg < c
    · by_cases z' : (F 46 (72 * o + j)).toNatClampNeg < c
      · rw [if_pos z, if_pos z'] at h3; exact h3
      · rw [if_pos z, if_neg z'] at h3; omega
    · by_cases z' : (F 46 (72 * o + j)).toNatClampNeg < c
      · rw [if_neg z, if_pos z'] at h3; omega
      · rw [if_neg z, if_neg z'] at h3; omega
  have ei := M.rg (K := 46) (lo := 0) (hi := 71) (by decide) (72 * o + i)
  have ej := M.rg (K := 46) (lo := 0) (hi := 71) (by decide) (72 * o + j)
  have ei2 := x_clamp ei.1
  have ej2 := x_clamp ej.1
  exact (M.2.2.2.2.2 o i ho (by omega)).2 j h1 (by omega) (i32_eq.mpr (by omega))
/-- what the inner methods leave alone -/
def mfr (K i : Nat) : Bool := K == 22 || K == 26 || K == 27 || (decide (29 ≤ K) && decide (K ≤ 35)) || K == 39 || K == 40 || K == 42 || (K == 8 && (i == 0 || i == 20))
def FR (F F' : xF) : Prop := ∀ K i, mfr K i = true → F' K i = F K i
theorem FR.rfl' {F : xF} : FR F F := fun _ _ _ => rfl
theorem FR.trans {F F' F'' : xF} (a : FR F F') (b : FR F' F'') : FR F F'' := fun K i hm => (b K i hm).trans (a K i hm)
theorem FR.put {F F' : xF} {K i : Nat} {v : Int32} (a : FR F F') (hn : mfr K i = false) : FR F (x_u2 F' K i v) := by
  intro K' i' hm
  rw [← a K' i' hm]
  refine if_neg ?_
  rintro ⟨rfl, rfl⟩
  rw [hn] at hm
  cases hm
theorem i32_12 {x : Int32} (h : 0 ≤ x.toInt ∧ x.toInt ≤ 2) : x = 0 ∨ x = 1 ∨ x = 2 := by
  rcases (show x.toInt = 0 ∨ x.toInt = 1 ∨ x.toInt = 2 by omega) with e | e | e
  · exact Or.inl (i32_eq.mpr e)
  · exact Or.inr (Or.inl (i32_eq.mpr e))
  · exact Or.inr (Or.inr (i32_eq.mpr e))
theorem i32_07 {x : Int32} (h : 0 ≤ x.toInt ∧ x.toInt ≤ 7) : x = 0 ∨ x = 1 ∨ x = 2 ∨ x = 3 ∨ x = 4 ∨ x = 5 ∨ x = 6 ∨ x = 7 := by
  rcases (show x.toInt = 0 ∨ x.toInt = 1 ∨ x.toInt = 2 ∨ x.toInt = 3 ∨ x.toInt = 4 ∨ x.toInt = 5 ∨ x.toInt = 6 ∨ x.toInt = 7 by omega) with e | e | e | e | e | e | e | e
  · exact Or.inl (i32_eq.mpr e)
  · exact Or.inr (Or.inl (i32_eq.mpr e))
  · exact Or.inr (Or.inr (Or.inl (i32_eq.mpr e)))
  · exact Or.inr (Or.inr (Or.inr (Or.inl (i32_eq.mpr e))))
  · exact Or.inr (Or.inr (Or.inr (Or.inr (Or.inl (i32_eq.mpr e)))))
  · exact Or.inr (Or.inr (Or.inr (Or.inr (Or.inr (Or.inl (i32_eq.mpr e))))))
  · exact Or.inr (Or.inr (Or.inr (Or.inr (Or.inr (Or.inr (Or.inl (i32_eq.mpr e)))))))
  · exact Or.inr (Or.inr (Or.inr (Or.inr (Or.inr (Or.inr (Or.inr (i32_eq.mpr e)))))))
theorem m_shl {x : Int32} (h : 0 ≤ x.toInt ∧ x.toInt ≤ 2) : (0 ≤ ((1 : Int32) <<< (x &&& 31)).toInt ∧ ((1 : Int32) <<< (x &&& 31)).toInt ≤ 7) ∧ mpop ((1 : Int32) <<< (x &&& 31)).toInt = 1 := by
  rcases i32_12 h with rfl | rfl | rfl <;> decide
theorem m_or {v x : Int32} (hv : 0 ≤ v.toInt ∧ v.toInt ≤ 7) (h : 0 ≤ x.toInt ∧ x.toInt ≤ 2) (hn : ¬ ((v >>> (x &&& 31)) &&& 1).toInt = 1) : (0 ≤ (v ||| (1 : Int32) <<< (x &&& 31)).toInt ∧ (v ||| (1 : Int32) <<< (x &&& 31)).toInt ≤ 7) ∧ mpop (v ||| (1 : Int32) <<< (x &&& 31)).toInt = mpop v.toInt + 1 := by
  rcases i32_12 h with rfl | rfl | rfl <;> rcases i32_07 hv with rfl | rfl | rfl | rfl | rfl | rfl | rfl | rfl <;> first | decide | exact absurd (by decide) hn
