/-! THE ABSTRACT MACHINE: values, heaps by components, instructions as transformers of predicates. -/
/-- an int, a long, or a reference (kind, place); place 0 is null; kind 0 is a local that is not set -/
abbrev xV : Type := Int32 ⊕ (Int64 ⊕ (Nat × Nat))
/-- how many there are of a kind; lengths of arrays; ints; references; addresses; cells made since the law's start; the method's own cells and slots; the long -/
abbrev xH : Type := (Nat → Nat) × (Nat → Nat → Nat) × (Nat → Nat → Nat → Int32) × (Nat → Nat → Nat → Nat) × (Nat → Nat → Nat) × Nat × Nat × Nat × Int64
abbrev xS : Type := List xV × List xV × xH
abbrev xO : Type := Option xV ⊕ Nat
abbrev xG : Type := Nat → List xV → xH → (xO → xH → Prop) → Prop
abbrev xI : Type := xG → (xO → xH → Prop) → (Nat → xS → Prop) → (xS → Prop) → xS → Prop
def x_cn (h : xH) : Nat → Nat := h.1
def x_ln (h : xH) : Nat → Nat → Nat := h.2.1
def x_vi (h : xH) : Nat → Nat → Nat → Int32 := h.2.2.1
def x_vr (h : xH) : Nat → Nat → Nat → Nat := h.2.2.2.1
def x_ad (h : xH) : Nat → Nat → Nat := h.2.2.2.2.1
def x_sz (h : xH) : Nat := h.2.2.2.2.2.1
def x_ce (h : xH) : Nat := h.2.2.2.2.2.2.1
def x_so (h : xH) : Nat := h.2.2.2.2.2.2.2.1
def x_lg (h : xH) : Int64 := h.2.2.2.2.2.2.2.2
def x_u1 {α : Type} (f : Nat → α) (k : Nat) (v : α) : Nat → α := fun k' => if k' = k then v else f k'
def x_u2 {α : Type} (f : Nat → Nat → α) (K k : Nat) (v : α) : Nat → Nat → α := fun K' k' => if K' = K ∧ k' = k then v else f K' k'
def x_u3 {α : Type} (f : Nat → Nat → Nat → α) (K k i : Nat) (v : α) : Nat → Nat → Nat → α := fun K' k' i' => if K' = K ∧ k' = k ∧ i' = i then v else f K' k' i'
def x_puti (h : xH) (K k i : Nat) (v : Int32) : xH := (h.1, h.2.1, x_u3 h.2.2.1 K k i v, h.2.2.2)
def x_putr (h : xH) (K k i : Nat) (v : Nat) : xH := (h.1, h.2.1, h.2.2.1, x_u3 h.2.2.2.1 K k i v, h.2.2.2.2)
def x_putl (h : xH) (v : Int64) : xH := (h.1, h.2.1, h.2.2.1, h.2.2.2.1, h.2.2.2.2.1, h.2.2.2.2.2.1, h.2.2.2.2.2.2.1, h.2.2.2.2.2.2.2.1, v)
def x_setc (h : xH) (a b : Nat) : xH := (h.1, h.2.1, h.2.2.1, h.2.2.2.1, h.2.2.2.2.1, h.2.2.2.2.2.1, a, b, h.2.2.2.2.2.2.2.2)
/-- a new object of kind K with N fields, all 0 or null -/
def x_new (h : xH) (K N : Nat) : xH := (x_u1 h.1 K (h.1 K + 1), h.2.1, fun K' k i => if K' = K ∧ i = h.1 K + 1 then 0 else h.2.2.1 K' k i, fun K' k i => if K' = K ∧ i = h.1 K + 1 then 0 else h.2.2.2.1 K' k i, x_u2 h.2.2.2.2.1 K (h.1 K + 1) h.2.2.2.2.2.1, h.2.2.2.2.2.1 + 1, h.2.2.2.2.2.2.1 + 1, h.2.2.2.2.2.2.2.1 + N, h.2.2.2.2.2.2.2.2)
/-- a new array of kind K with n places, all 0 or null -/
def x_newa (h : xH) (K n : Nat) : xH := (x_u1 h.1 K (h.1 K + 1), x_u2 h.2.1 K (h.1 K + 1) n, fun K' j i => if K' = K ∧ j = h.1 K + 1 then 0 else h.2.2.1 K' j i, fun K' j i => if K' = K ∧ j = h.1 K + 1 then 0 else h.2.2.2.1 K' j i, x_u2 h.2.2.2.2.1 K (h.1 K + 1) h.2.2.2.2.2.1, h.2.2.2.2.2.1 + 1, h.2.2.2.2.2.2.1 + 1, h.2.2.2.2.2.2.2.1 + n, if K = 21 then 0 else h.2.2.2.2.2.2.2.2)
/-- an exception is made: d cells more -/
def x_exc (h : xH) (d : Nat) : xH := (h.1, h.2.1, h.2.2.1, h.2.2.2.1, h.2.2.2.2.1, h.2.2.2.2.2.1 + d, h.2.2.2.2.2.2.1 + 1, h.2.2.2.2.2.2.2.1 + 6, h.2.2.2.2.2.2.2.2)
-- values
abbrev x_int (n : Int32) : xV := .inl n
abbrev x_ref (t j : Nat) : xV := .inr (.inr (t, j))
/-- the words that a value takes on the stack -/
def x_cat (v : xV) : Nat := match v with
  | .inl _ => 1
  | .inr (.inl _) => 2
  | .inr (.inr _) => 1
def x_cats (l : List xV) : Nat := match l with
  | [] => 0
  | v :: r => x_cat v + x_cats r
-- instructions
def x_iload (a : Nat) : xI := fun _ _ _ q S => match S.1[a]? with
  | some (.inl n) => q (S.1, .inl n :: S.2.1, S.2.2)
  | _ => False
def x_aload (a : Nat) : xI := fun _ _ _ q S => match S.1[a]? with
  | some (.inr (.inr (t, j))) => t ≠ 0 ∧ q (S.1, .inr (.inr (t, j)) :: S.2.1, S.2.2)
  | _ => False
def x_istore (a : Nat) : xI := fun _ _ _ q S => match S.2.1 with
  | .inl n :: st => a < S.1.length ∧ q (S.1.set a (.inl n), st, S.2.2)
  | _ => False
def x_astore (a : Nat) : xI := fun _ _ _ q S => match S.2.1 with
  | .inr (.inr r) :: st => a < S.1.length ∧ q (S.1.set a (.inr (.inr r)), st, S.2.2)
  | _ => False
def x_iinc (a : Nat) (v : Int32) : xI := fun _ _ _ q S => match S.1[a]? with
  | some (.inl n) => q (S.1.set a (.inl (n + v)), S.2.1, S.2.2)
  | _ => False
def x_iconst (v : Int32) : xI := fun _ _ _ q S => q (S.1, .inl v :: S.2.1, S.2.2)
def x_null (t : Nat) : xI := fun _ _ _ q S => q (S.1, .inr (.inr (t, 0)) :: S.2.1, S.2.2)
/-- an operation on two ints -/
def x_bin (f : Int32 → Int32 → Int32) : xI := fun _ _ _ q S => match S.2.1 with
  | .inl y :: .inl x :: st => q (S.1, .inl (f x y) :: st, S.2.2)
  | _ => False
def x_idiv : xI := fun _ _ _ q S => match S.2.1 with
  | .inl y :: .inl x :: st => ¬ y = 0 ∧ q (S.1, .inl (x / y) :: st, S.2.2)
  | _ => False
def x_irem : xI := fun _ _ _ q S => match S.2.1 with
  | .inl y :: .inl x :: st => ¬ y = 0 ∧ q (S.1, .inl (x - x / y * y) :: st, S.2.2)
  | _ => False
def x_dup : xI := fun _ _ _ q S => match S.2.1 with
  | v :: st => x_cat v = 1 ∧ q (S.1, v :: v :: st, S.2.2)
  | _ => False
def x_dup2 : xI := fun _ _ _ q S => match S.2.1 with
  | v :: w :: st => x_cat v = 1 ∧ x_cat w = 1 ∧ q (S.1, v :: w :: v :: w :: st, S.2.2)
  | _ => False
def x_pop : xI := fun _ _ _ q S => match S.2.1 with
  | v :: st => x_cat v = 1 ∧ q (S.1, st, S.2.2)
  | _ => False
def x_goto (a : Nat) : xI := fun _ _ J _ S => J a S
/-- a comparison with 0: where it holds, to a -/
def x_if (c : Int32 → Prop) (a : Nat) : xI := fun _ _ J q S => match S.2.1 with
  | .inl x :: st => (c x → J a (S.1, st, S.2.2)) ∧ (¬ c x → q (S.1, st, S.2.2))
  | _ => False
def x_icmp (c : Int32 → Int32 → Prop) (a : Nat) : xI := fun _ _ J q S => match S.2.1 with
  | .inl y :: .inl x :: st => (c x y → J a (S.1, st, S.2.2)) ∧ (¬ c x y → q (S.1, st, S.2.2))
  | _ => False
/-- two references of one kind: where they are one, to a -/
def x_aeq (T a : Nat) : xI := fun _ _ J q S => match S.2.1 with
  | .inr (.inr (t, j)) :: .inr (.inr (t', j')) :: st => t = T ∧ t' = T ∧ (j' = j → J a (S.1, st, S.2.2)) ∧ (¬ j' = j → q (S.1, st, S.2.2))
  | _ => False
def x_ane (T a : Nat) : xI := fun _ _ J q S => match S.2.1 with
  | .inr (.inr (t, j)) :: .inr (.inr (t', j')) :: st => t = T ∧ t' = T ∧ (¬ j' = j → J a (S.1, st, S.2.2)) ∧ (j' = j → q (S.1, st, S.2.2))
  | _ => False
def x_ifnull (a : Nat) : xI := fun _ _ J q S => match S.2.1 with
  | .inr (.inr (_, j)) :: st => (j = 0 → J a (S.1, st, S.2.2)) ∧ (¬ j = 0 → q (S.1, st, S.2.2))
  | _ => False
def x_ifnonnull (a : Nat) : xI := fun _ _ J q S => match S.2.1 with
  | .inr (.inr (_, j)) :: st => (¬ j = 0 → J a (S.1, st, S.2.2)) ∧ (j = 0 → q (S.1, st, S.2.2))
  | _ => False
/-- a switch: the targets from lo on, and the default's -/
def x_switch (lo : Int) (tg : List Nat) (d : Nat) : xI := fun _ _ J _ S => match S.2.1 with
  | .inl x :: st => (∀ k a : Nat, tg[k]? = some a → x.toInt = lo + k → J a (S.1, st, S.2.2)) ∧ (x.toInt < lo ∨ lo + tg.length ≤ x.toInt → J d (S.1, st, S.2.2))
  | _ => False
def x_live (h : xH) (K j : Nat) : Prop := 1 ≤ j ∧ j ≤ x_cn h K
def x_gfi (K k : Nat) : xI := fun _ _ _ q S => match S.2.1 with
  | .inr (.inr (t, j)) :: st => t = K ∧ x_live S.2.2 K j ∧ q (S.1, .inl (x_vi S.2.2 K k j) :: st, S.2.2)
  | _ => False
def x_gfr (K k T : Nat) : xI := fun _ _ _ q S => match S.2.1 with
  | .inr (.inr (t, j)) :: st => t = K ∧ x_live S.2.2 K j ∧ q (S.1, .inr (.inr (T, x_vr S.2.2 K k j)) :: st, S.2.2)
  | _ => False
def x_pfi (K k : Nat) : xI := fun _ _ _ q S => match S.2.1 with
  | .inl n :: .inr (.inr (t, j)) :: st => t = K ∧ x_live S.2.2 K j ∧ q (S.1, st, x_puti S.2.2 K k j n)
  | _ => False
/-- a field that holds a boolean -/
def x_pfz (K k : Nat) : xI := fun _ _ _ q S => match S.2.1 with
  | .inl n :: .inr (.inr (t, j)) :: st => t = K ∧ x_live S.2.2 K j ∧ (n = 0 ∨ n = 1) ∧ q (S.1, st, x_puti S.2.2 K k j n)
  | _ => False
def x_pfr (K k T : Nat) : xI := fun _ _ _ q S => match S.2.1 with
  | .inr (.inr (t', j')) :: .inr (.inr (t, j)) :: st => t = K ∧ t' = T ∧ x_live S.2.2 K j ∧ q (S.1, st, x_putr S.2.2 K k j j')
  | _ => False
def x_stage (j : Nat) : xI := fun _ _ _ q S => q (S.1, .inr (.inr (9, j)) :: S.2.1, S.2.2)
/-- a place of an array -/
def x_in (h : xH) (K j : Nat) (i : Int32) : Prop := 0 ≤ i.toInt ∧ i.toInt < x_ln h K j
def x_ald (K : Nat) : xI := fun _ _ _ q S => match S.2.1 with
  | .inl i :: .inr (.inr (t, j)) :: st => t = K ∧ x_live S.2.2 K j ∧ x_in S.2.2 K j i ∧ q (S.1, .inl (x_vi S.2.2 K j i.toNatClampNeg) :: st, S.2.2)
  | _ => False
def x_ast (K : Nat) : xI := fun _ _ _ q S => match S.2.1 with
  | .inl n :: .inl i :: .inr (.inr (t, j)) :: st => t = K ∧ x_live S.2.2 K j ∧ x_in S.2.2 K j i ∧ q (S.1, st, x_puti S.2.2 K j i.toNatClampNeg n)
  | _ => False
def x_zst (K : Nat) : xI := fun _ _ _ q S => match S.2.1 with
  | .inl n :: .inl i :: .inr (.inr (t, j)) :: st => t = K ∧ x_live S.2.2 K j ∧ x_in S.2.2 K j i ∧ (n = 0 ∨ n = 1) ∧ q (S.1, st, x_puti S.2.2 K j i.toNatClampNeg n)
  | _ => False
def x_aald (K T : Nat) : xI := fun _ _ _ q S => match S.2.1 with
  | .inl i :: .inr (.inr (t, j)) :: st => t = K ∧ x_live S.2.2 K j ∧ x_in S.2.2 K j i ∧ q (S.1, .inr (.inr (T, x_vr S.2.2 K j i.toNatClampNeg)) :: st, S.2.2)
  | _ => False
def x_aast (K T : Nat) : xI := fun _ _ _ q S => match S.2.1 with
  | .inr (.inr (t', j')) :: .inl i :: .inr (.inr (t, j)) :: st => t = K ∧ t' = T ∧ x_live S.2.2 K j ∧ x_in S.2.2 K j i ∧ q (S.1, st, x_putr S.2.2 K j i.toNatClampNeg j')
  | _ => False
def x_alen (K : Nat) : xI := fun _ _ _ q S => match S.2.1 with
  | .inr (.inr (t, j)) :: st => t = K ∧ x_live S.2.2 K j ∧ q (S.1, .inl (Int32.ofNat (x_ln S.2.2 K j)) :: st, S.2.2)
  | _ => False
/-- new; bc and bs: what the method may make -/
def x_newo (K N bc bs : Nat) : xI := fun _ _ _ q S => x_ce S.2.2 + 1 ≤ bc ∧ x_so S.2.2 + N ≤ bs ∧ q (S.1, .inr (.inr (K, x_cn S.2.2 K + 1)) :: S.2.1, x_new S.2.2 K N)
def x_newr (K bc bs : Nat) : xI := fun _ _ _ q S => match S.2.1 with
  | .inl n :: st => 0 ≤ n.toInt ∧ n.toInt ≤ 100000 ∧ x_ce S.2.2 + 1 ≤ bc ∧ x_so S.2.2 + n.toNatClampNeg ≤ bs ∧ q (S.1, .inr (.inr (K, x_cn S.2.2 K + 1)) :: st, x_newa S.2.2 K n.toNatClampNeg)
  | _ => False
/-- new int[n][k], the outer array of kind K, the inner ones of kind K' -/
def x_fill (h : xH) (K K' j c : Nat) (k : Nat) : Nat → xH
  | 0 => h
  | n + 1 => x_putr (x_newa (x_fill h K K' j c k n) K' k) K j n (c + n + 1)
def x_newm (K K' bc bs : Nat) : xI := fun _ _ _ q S => match S.2.1 with
  | .inl k :: .inl n :: st => 0 ≤ n.toInt ∧ n.toInt ≤ 1000 ∧ 0 ≤ k.toInt ∧ k.toInt ≤ 1000 ∧ x_ce S.2.2 + 1 + n.toNatClampNeg ≤ bc ∧ x_so S.2.2 + n.toNatClampNeg + n.toNatClampNeg * k.toNatClampNeg ≤ bs ∧
      q (S.1, .inr (.inr (K, x_cn S.2.2 K + 1)) :: st, x_fill (x_newa S.2.2 K n.toNatClampNeg) K K' (x_cn S.2.2 K + 1) (x_cn S.2.2 K') k.toNatClampNeg n.toNatClampNeg)
  | _ => False
/-- Object's constructor -/
def x_objinit : xI := fun _ _ _ q S => match S.2.1 with
  | .inr (.inr (t, j)) :: st => t ≠ 0 ∧ 1 ≤ j ∧ x_cats st ≤ 8 ∧ q (S.1, st, S.2.2)
  | _ => False
/-- a call of method y with n arguments, the receiver among them; mc, ms: what it may make -/
def x_call (y n mc ms bc bs : Nat) : xI := fun Γ Z _ q S => n ≤ S.2.1.length ∧ x_cats (S.2.1.drop n) ≤ 8 ∧ x_ce S.2.2 + mc ≤ bc ∧ x_so S.2.2 + ms ≤ bs ∧
  Γ y (S.2.1.take n).reverse (x_setc S.2.2 0 0) (fun o h => match o with
    | .inl v => q (S.1, v.toList ++ S.2.1.drop n, x_setc h (x_ce S.2.2 + mc) (x_so S.2.2 + ms))
    | .inr k => Z (.inr k) (x_setc h (x_ce S.2.2 + mc) (x_so S.2.2 + ms)))
/-- .. of a method of an object: the receiver is one of kind K -/
def x_callv (K y n mc ms bc bs : Nat) : xI := fun Γ Z J q S => (match (S.2.1.drop (n - 1)).head? with
    | some (.inr (.inr (t, j))) => 1 ≤ n ∧ t = K ∧ x_live S.2.2 K j
    | _ => False) ∧ x_call y n mc ms bc bs Γ Z J q S
/-- a constructor's call: it doesn't throw -/
def x_calli (y n mc ms bc bs : Nat) : xI := fun Γ _ _ q S => n ≤ S.2.1.length ∧ 1 ≤ n ∧ x_cats (S.2.1.drop n) ≤ 8 ∧ x_ce S.2.2 + mc ≤ bc ∧ x_so S.2.2 + ms ≤ bs ∧ (match (S.2.1.drop (n - 1)).head? with
    | some (.inr (.inr (t, j))) => t ≠ 0 ∧ 1 ≤ j
    | _ => False) ∧
  Γ y (S.2.1.take n).reverse (x_setc S.2.2 0 0) (fun o h => match o with
    | .inl v => q (S.1, v.toList ++ S.2.1.drop n, x_setc h (x_ce S.2.2 + mc) (x_so S.2.2 + ms))
    | .inr _ => False)
/-- a call of a nest mate's static method: it doesn't throw -/
def x_calln (y n mc ms bc bs : Nat) : xI := fun Γ _ _ q S => n ≤ S.2.1.length ∧ x_cats (S.2.1.drop n) ≤ 8 ∧ x_ce S.2.2 + mc ≤ bc ∧ x_so S.2.2 + ms ≤ bs ∧
  Γ y (S.2.1.take n).reverse (x_setc S.2.2 0 0) (fun o h => match o with
    | .inl v => q (S.1, v.toList ++ S.2.1.drop n, x_setc h (x_ce S.2.2 + mc) (x_so S.2.2 + ms))
    | .inr _ => False)
def x_ret : xI := fun _ Z _ _ S => match S.2.1 with
  | [] => Z (.inl none) S.2.2
  | _ => False
def x_iret : xI := fun _ Z _ _ S => match S.2.1 with
  | [.inl n] => Z (.inl (some (.inl n))) S.2.2
  | _ => False
def x_zret : xI := fun _ Z _ _ S => match S.2.1 with
  | [.inl n] => (n = 0 ∨ n = 1) ∧ Z (.inl (some (.inl n))) S.2.2
  | _ => False
def x_aret (T : Nat) : xI := fun _ Z _ _ S => match S.2.1 with
  | [.inr (.inr (t, j))] => t = T ∧ Z (.inl (some (.inr (.inr (t, j))))) S.2.2
  | _ => False
/-- throw new E() -/
def x_throw (E bc bs : Nat) : xI := fun _ Z _ _ S => x_cats S.2.1 ≤ 8 ∧ x_ce S.2.2 + 1 ≤ bc ∧ x_so S.2.2 + 6 ≤ bs ∧ ∀ d, Z (.inr E) (x_exc S.2.2 d)
-- a block
def x_seq (L : List (Nat × xI)) (Γ : xG) (Z : xO → xH → Prop) (J : Nat → xS → Prop) (S : xS) : Prop := match L with
  | [] => False
  | f :: r => f.2 Γ Z J (fun S' => x_seq r Γ Z J S') S
