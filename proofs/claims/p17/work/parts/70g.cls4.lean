/-! THE CLASS: its larger methods -/
def vlk (v : vS) (jo j : Nat) (x : Int32) : vS := if x = -1 then v else vlink v jo j x
abbrev ocd (jo : Nat) (x : Int32) : Int32 := Int32.ofNat (1000 * (jo - 1)) + x
def swo (v : vS) (jo j l s : Nat) : Int32 := if ilk v jo j s (-1) = -1 then -1 else ilk v jo l 0 (ilk v jo j s (-1))
def swF (v : vS) (jo j l : Nat) : Option Nat → Option vS
  | none => none
  | some s => some (vseize (vseize (vlk v jo j (ilk v jo j s (-1))) j (ocd jo (fidl v jo 20 25))) j (ocd jo (swo v jo j l s)))
def swR (v : vS) (jo j l : Nat) : Option vS := if fidl v jo 20 25 = -1 then none else swF v jo j l (fnd (fun s => !(swo v jo j l s == -1)) 0 4)
abbrev own (j jo : Nat) : Prop := Int32.ofNat ((j - 1) / 24) = Int32.ofNat (jo - 1)
/-- a way to the line called: whether there is one, and the state with it -/
def vcw (v : vS) (jo j l : Nat) : Int32 × vS := if own j jo then (bI (swR v jo j l).isSome, (swR v jo j l).getD v) else (bI (!(ilk v jo l 0 (-1) == -1)), vlk v jo j (ilk v jo l 0 (-1)))
def vring (v : vS) (j l : Nat) : vS := vpi (vpr (vpr (vpr (vrel v j (v.1 1 9 j)) 1 2 j 5) 1 3 j l) 2 5 l j) 2 3 j 2
def vcl (v : vS) (jo : Nat) (x : Int32) : Nat := 24 * (jo - 1) + (hfr v jo x).toNatClampNeg + 1
def vcall (v : vS) (jo j : Nat) (x : Int32) : vS :=
  if isl x = false then vend v j 5 else if frb v (vcl v jo x) = false then vend v j 3
  else if (vcw v jo j (vcl v jo x)).1 = 0 then vend (vcw v jo j (vcl v jo x)).2 j 4 else vring (vcw v jo j (vcl v jo x)).2 j (vcl v jo x)
theorem vlk_1 {v : vS} {jo j : Nat} {x : Int32} : ∀ k, (vlk v jo j x).1 1 k = v.1 1 k := by
  intro k
  unfold vlk
  split
  · rfl
  · unfold vlink
    funext j'
    show x_u3 (vseize v j (Int32.ofNat (1000 * (jo - 1)) + x)).1 3 8 jo (x + 1 - (x + 1) / 4 * 4) 1 k j' = _
    rw [u3_ne (fun z _ => absurd z (by decide)), vseize_1]
theorem swR_1 {v w : vS} {jo j l : Nat} (h : swR v jo j l = some w) : ∀ k, w.1 1 k = v.1 1 k := by
  unfold swR at h
  split at h
  · cases h
  · unfold swF at h
    split at h
    · cases h
    · cases h
      intro k
      rw [vseize_1, vseize_1, vlk_1]
theorem vcw_1 {v : vS} {jo j l : Nat} : ∀ k, (vcw v jo j l).2.1 1 k = v.1 1 k := by
  intro k
  unfold vcw
  split
  · show ((swR v jo j l).getD v).1 1 k = _
    cases e : swR v jo j l with
    | none => rfl
    | some w => exact swR_1 e k
  · exact vlk_1 k
/-- onward to another office -/
def vo1 (v : vS) (jo j : Nat) : vS := if own j jo then vlk v jo j (ilk v jo j 0 (-1)) else v
def vo2 (v : vS) (jo j jt : Nat) : vS := vseize (vo1 v jo j) j (5000 + fitr v (Int32.ofNat (jo - 1)) (Int32.ofNat (jt - 1)))
def vo3 (v : vS) (jo j jt : Nat) : vS := vgo (vseize (vpi (vo2 v jo j jt) 1 10 j (ocd jt (fidl v jt 30 33))) j (ocd jt (fidl v jt 30 33))) j (Int32.ofNat (jt - 1))
def vof (v : vS) (jo jt : Nat) : vS := vpi v 15 jo (Int32.ofNat (jt - 1)).toNatClampNeg (v.1 15 jo (Int32.ofNat (jt - 1)).toNatClampNeg + 1)
def von (v : vS) (jo j jt : Nat) : Int32 × vS :=
  if fitr v (Int32.ofNat (jo - 1)) (Int32.ofNat (jt - 1)) = -1 then (0, vof v jo jt)
  else if fidl v jt 30 33 = -1 then (0, v) else if own j jo ∧ ilk v jo j 0 (-1) = -1 then (0, v) else (1, vo3 v jo j jt)
theorem von_2 {v : vS} {jo j jt : Nat} (h : (von v jo j jt).1 = 0) : (von v jo j jt).2.2 = v.2 := by
  unfold von at h ⊢
  split
  · rfl
  · rename_i h1
    rw [if_neg h1] at h
    split
    · rfl
    · rename_i h2
      rw [if_neg h2] at h
      split
      · rfl
      · rename_i h3
        rw [if_neg h3] at h
        exact absurd (show (1 : Int32) = 0 from h) (by decide)
def hbb (v : vS) (j : Nat) (x : Int32) : Bool := decide (¬ (v.1 1 8 j >>> (x &&& 31)) &&& 1 = 0)
def iso (x : Int32) : Bool := decide (0 ≤ x.toInt ∧ x.toInt ≤ 2)
def vsent (v : vS) (j : Nat) : vS := vpr (vpi v 1 11 j (Int32.ofNat (cdg (v.1 1 6 j).toInt))) 1 2 j 4
def vsn (jo j m : Nat) : Nat → vS → Nat → vS
  | 0, v, _ => vend v j 4
  | n + 1, v, i => if (iso (rat (v.2.2.1 (v.2.1 4 2 m)) (Int32.ofNat i)) && !hbb v j (rat (v.2.2.1 (v.2.1 4 2 m)) (Int32.ofNat i))) = true then
      (if (von v jo j ((rat (v.2.2.1 (v.2.1 4 2 m)) (Int32.ofNat i)).toNatClampNeg + 1)).1 = 0 then vsn jo j m n (von v jo j ((rat (v.2.2.1 (v.2.1 4 2 m)) (Int32.ofNat i)).toNatClampNeg + 1)).2 (i + 1)
        else vsent (von v jo j ((rat (v.2.2.1 (v.2.1 4 2 m)) (Int32.ofNat i)).toNatClampNeg + 1)).2 j) else vsn jo j m n v (i + 1)
theorem vsn_end {jo j m N i : Nat} {v : vS} (h : N ≤ i) : vsn jo j m (N - i) v i = vend v j 4 := by rw [show N - i = 0 by omega]; rfl
theorem vsn_no {jo j m N i : Nat} {v : vS} {z : Int32} (h : i < N) (hz : rat (v.2.2.1 (v.2.1 4 2 m)) (Int32.ofNat i) = z) (hp : (iso z && !hbb v j z) = false) : vsn jo j m (N - i) v i = vsn jo j m (N - (i + 1)) v (i + 1) := by
  subst hz
  rw [show N - i = N - (i + 1) + 1 by omega]
  exact if_neg (by rw [hp]; decide)
theorem vsn_fl {jo j m N i : Nat} {v : vS} {z : Int32} (h : i < N) (hz : rat (v.2.2.1 (v.2.1 4 2 m)) (Int32.ofNat i) = z) (hp : (iso z && !hbb v j z) = true) (hf : (von v jo j (z.toNatClampNeg + 1)).1 = 0) : vsn jo j m (N - i) v i = vsn jo j m (N - (i + 1)) (von v jo j (z.toNatClampNeg + 1)).2 (i + 1) := by
  subst hz
  rw [show N - i = N - (i + 1) + 1 by omega]
  exact (if_pos hp).trans (if_pos hf)
theorem vsn_ok {jo j m N i : Nat} {v : vS} {z : Int32} (h : i < N) (hz : rat (v.2.2.1 (v.2.1 4 2 m)) (Int32.ofNat i) = z) (hp : (iso z && !hbb v j z) = true) (hf : ¬ (von v jo j (z.toNatClampNeg + 1)).1 = 0) : vsn jo j m (N - i) v i = vsent (von v jo j (z.toNatClampNeg + 1)).2 j := by
  subst hz
  rw [show N - i = N - (i + 1) + 1 by omega]
  exact (if_pos hp).trans (if_neg hf)
/-- the oldest job -/
def vj1 (v : vS) (jo : Nat) (x : Int32) : vS := vrw v (30 * (jo - 1) + 2) (rdel (v.2.2.1 (30 * (jo - 1) + 2)) x)
noncomputable def vjm (v : vS) (jo : Nat) (x : Int32) : Nat := fro v jo (rof v jo (v.1 1 6 (x.toNatClampNeg + 1)))
noncomputable def vdj (v : vS) (jo : Nat) (x : Int32) : vS :=
  if vjm v jo x = 0 ∨ (dbh v (vjm v jo x) (v.1 1 6 (x.toNatClampNeg + 1))).toInt < 2 then vend v (x.toNatClampNeg + 1) 5
  else if v.1 4 1 (vjm v jo x) = 0 then vsn jo (x.toNatClampNeg + 1) (vjm v jo x) (v.2.2.1 (v.2.1 4 2 (vjm v jo x))).length v 0
  else vcall v jo (x.toNatClampNeg + 1) (lbh (v.1 1 6 (x.toNatClampNeg + 1)) (dbh v (vjm v jo x) (v.1 1 6 (x.toNatClampNeg + 1))))
noncomputable def vdoj (v : vS) (jo : Nat) : vS := if (rat (v.2.2.1 (30 * (jo - 1) + 2)) 0).toInt < 0 ∨ 72 ≤ (rat (v.2.2.1 (30 * (jo - 1) + 2)) 0).toInt then v else vdj (vj1 v jo (rat (v.2.2.1 (30 * (jo - 1) + 2)) 0)) jo (rat (v.2.2.1 (30 * (jo - 1) + 2)) 0)
/-- something done n times, from i on -/
def itr (f : Nat → vS → vS) : Nat → Nat → vS → vS
  | _, 0, v => v
  | i, n + 1, v => itr f (i + 1) n (f i v)
theorem itr_end {f : Nat → vS → vS} {i N : Nat} {v : vS} (h : N ≤ i) : itr f i (N - i) v = v := by rw [show N - i = 0 by omega]; rfl
theorem itr_st {f : Nat → vS → vS} {i N : Nat} {v : vS} (h : i < N) : itr f i (N - i) v = itr f (i + 1) (N - (i + 1)) (f i v) := by rw [show N - i = N - (i + 1) + 1 by omega]; rfl
def vsd (o p : Nat) (v : vS) : vS := if v.2.1 17 (o + 1) p = 0 then v else if v.2.1 1 2 (v.2.1 17 (o + 1) p) = 4 then (if v.1 1 9 (v.2.1 17 (o + 1) p) = Int32.ofNat (1000 * (o + 1 - 1)) + Int32.ofNat p then vsend v (v.2.1 17 (o + 1) p) else v) else v
def vsds (o : Nat) (v : vS) : vS := itr (vsd o) 30 3 v
def vps (c : Nat) (v : vS) : vS := if v.2.1 1 2 (c + 1) = 2 then vwait v (c + 1) else if v.2.1 1 2 (c + 1) = 6 then vtalk v (c + 1) else v
def vgx (o : Nat) (v : vS) : Int32 := rat (v.2.2.1 (30 * (o + 1 - 1) + 1)) 0
def vgv (o p : Nat) (v : vS) : vS := if isl (vgx o v) = true ∧ v.2.1 17 (o + 1) p = 0 then vbeg (vrw v (30 * (o + 1 - 1) + 1) (rdel (v.2.2.1 (30 * (o + 1 - 1) + 1)) (vgx o v))) (o + 1) (24 * (o + 1 - 1) + (vgx o v).toNatClampNeg + 1) (Int32.ofNat p) else v
def vgvs (o : Nat) (v : vS) : vS := itr (vgv o) 30 3 v
noncomputable def vone (v : vS) : vS := itr vgvs 0 3 (itr vps 0 72 (itr vsds 0 3 (itr (fun o w => vdoj w (o + 1)) 0 3 v)))
/-- lines -/
def vask (v : vS) (jo l : Nat) : vS := if fidl v jo 30 33 = -1 ∨ 0 < (v.2.2.1 (30 * (jo - 1) + 1)).length then vrw v (30 * (jo - 1) + 1) (radd (cap (30 * (jo - 1) + 1)) (v.2.2.1 (30 * (jo - 1) + 1)) (Int32.ofNat ((l - 1) % 24))) else vbeg v jo l (fidl v jo 30 33)
def olift (v : vS) (x y : Int32) : xO := if lnok x y then (if v.1 2 2 (lno x y) = 0 then ov else .inr 2) else .inr 1
def vlif (v : vS) (x y : Int32) : vS := if v.2.1 2 5 (lno x y) = 0 then vask (vpi v 2 2 (lno x y) 1) (x.toNatClampNeg + 1) (lno x y) else if v.2.1 1 3 (v.2.1 2 5 (lno x y)) = lno x y then vans (vpi v 2 2 (lno x y) 1) (v.2.1 2 5 (lno x y)) else vpi v 2 2 (lno x y) 1
def vlift (v : vS) (x y : Int32) : vS := if lnok x y ∧ v.1 2 2 (lno x y) = 0 then vlif v x y else v
def ohang (v : vS) (x y : Int32) : xO := if lnok x y then (if v.1 2 2 (lno x y) = 0 then .inr 2 else ov) else .inr 1
def vh0 (v : vS) (l : Nat) : vS := vpi (vpi v 2 2 l 0) 2 3 l 0
def vhan (v : vS) (x y : Int32) : vS := if v.2.1 2 5 (lno x y) = 0 then vrw (vh0 v (lno x y)) (30 * (x.toNatClampNeg + 1 - 1) + 1) (rdel (v.2.2.1 (30 * (x.toNatClampNeg + 1 - 1) + 1)) y) else if v.2.1 1 3 (v.2.1 2 5 (lno x y)) = lno x y then vpi (vh0 v (lno x y)) 1 14 (v.2.1 2 5 (lno x y)) 0 else if v.1 1 5 (v.2.1 2 5 (lno x y)) = 0 then vend (vh0 v (lno x y)) (v.2.1 2 5 (lno x y)) 3 else vh0 v (lno x y)
def vhang (v : vS) (x y : Int32) : vS := if lnok x y ∧ ¬ v.1 2 2 (lno x y) = 0 then vhan v x y else v
def vd0 (v : vS) (j : Nat) (z : Int32) : vS := vpi (vpi (vpi v 1 6 j (v.1 1 6 j * 10 + z)) 1 12 j 0) 2 3 j 0
noncomputable def vdm (v : vS) (jo j : Nat) (z : Int32) : Nat := fro v jo (rof v jo (v.1 1 6 j * 10 + z))
noncomputable def vdig (v : vS) (jo j : Nat) (z : Int32) : vS :=
  if vdm v jo j z = 0 then (if (cbp v jo (v.1 1 6 j * 10 + z)).isSome = true then vd0 v j z else vend (vd0 v j z) j 5)
  else if (dbh v (vdm v jo j z) (v.1 1 6 j * 10 + z)).toInt < 2 then vd0 v j z else vjob (vpr (vd0 v j z) 1 4 j (vdm v jo j z)) jo j
def dgok (z : Int32) : Prop := 0 ≤ z.toInt ∧ z.toInt ≤ 9
def odial (v : vS) (x y z : Int32) : xO := if lnok x y ∧ (0 ≤ z.toInt ∧ z.toInt ≤ 9) then (if v.1 2 2 (lno x y) = 0 then .inr 2 else oi (b2i (¬ v.2.1 2 5 (lno x y) = 0 ∧ v.2.1 1 2 (v.2.1 2 5 (lno x y)) = 2))) else .inr 1
noncomputable def vdial (v : vS) (x y z : Int32) : vS := if (lnok x y ∧ (0 ≤ z.toInt ∧ z.toInt ≤ 9)) ∧ ¬ v.1 2 2 (lno x y) = 0 ∧ ¬ v.2.1 2 5 (lno x y) = 0 ∧ v.2.1 1 2 (v.2.1 2 5 (lno x y)) = 2 then vdig v (x.toNatClampNeg + 1) (v.2.1 2 5 (lno x y)) z else v
noncomputable def vtick (v : vS) (x : Int32) : vS := if 1 ≤ x.toInt ∧ x.toInt ≤ 100 then itr (fun _ w => vone w) 0 x.toInt.toNat v else v
def otick (x : Int32) : xO := if 1 ≤ x.toInt ∧ x.toInt ≤ 100 then ov else .inr 1
abbrev tok (v : vS) (x : Int32) : Prop := 0 ≤ x.toInt ∧ x.toInt ≤ (v.1 7 4 1 - 1).toInt
abbrev tob (v : vS) (x : Int32) : Nat := v.2.1 13 1 x.toNatClampNeg
def oout (v : vS) (x : Int32) : xO := if tok v x then oi (v.1 6 2 (tob v x)) else .inr 1
def vout (v : vS) (x b : Int32) : vS := if tok v x then (if ¬ b = 0 ∧ ¬ v.2.1 6 3 (tob v x) = 0 then vend (vpi v 6 2 (tob v x) b) (v.2.1 6 3 (tob v x)) 4 else vpi v 6 2 (tob v x) b) else v
abbrev hdd (v : vS) (l : Nat) : Prop := ¬ v.2.1 2 5 l = 0 ∧ v.2.1 1 3 (v.2.1 2 5 l) = l ∧ v.2.1 1 2 (v.2.1 2 5 l) = 6
def ohold (v : vS) (x y : Int32) : xO := if lnok x y then oi (b2i (hdd v (lno x y))) else .inr 1
def vhold (v : vS) (x y b : Int32) : vS := if lnok x y ∧ hdd v (lno x y) then (if b = 0 ∧ v.1 2 2 (v.2.1 2 5 (lno x y)) = 0 then vend (vpi v 1 5 (v.2.1 2 5 (lno x y)) b) (v.2.1 2 5 (lno x y)) 3 else vpi v 1 5 (v.2.1 2 5 (lno x y)) b) else v
def otone (v : vS) (x y : Int32) : xO := if lnok x y then oi (v.1 2 3 (lno x y)) else .inr 1
def ometer (v : vS) (x y : Int32) : xO := if lnok x y then oi (v.1 2 4 (lno x y)) else .inr 1
def orings (v : vS) (x y : Int32) : xO := if lnok x y then oi (b2i (¬ v.2.1 2 5 (lno x y) = 0 ∧ v.2.1 1 3 (v.2.1 2 5 (lno x y)) = lno x y ∧ v.2.1 1 2 (v.2.1 2 5 (lno x y)) = 5)) else .inr 1
abbrev tlk (v : vS) (k : Nat) : Prop := ¬ k = 0 ∧ v.2.1 1 2 k = 6 ∧ ¬ v.1 2 2 k = 0 ∧ (¬ v.2.1 1 3 k = 0 ∧ ¬ v.1 2 2 (v.2.1 1 3 k) = 0)
def otalks (v : vS) (x y : Int32) : xO := if lnok x y then oi (if tlk v (v.2.1 2 5 (lno x y)) then (if v.2.1 1 3 (v.2.1 2 5 (lno x y)) = lno x y then Int32.ofNat (v.2.1 2 5 (lno x y) - 1) else Int32.ofNat (v.2.1 1 3 (v.2.1 2 5 (lno x y)) - 1)) else -1) else .inr 1
def oseized (v : vS) (x y z : Int32) : xO := if lnok x y ∧ 0 ≤ z.toInt then oi (if ¬ v.2.1 2 5 (lno x y) = 0 ∧ v.2.1 2 5 (lno x y) = lno x y then rat (v.2.2.1 (ri (v.2.1 2 5 (lno x y) - 1))) z else -1) else .inr 1
def idl (v : vS) (j : Nat) (x y : Int32) : Int32 := if y = 0 then Int32.ofNat (cidl v j 30 33) else if y = 1 then Int32.ofNat (cidl v j 0 12) else if y = 2 then Int32.ofNat (cidl v j 20 25) else if y = 3 then Int32.ofNat (citr v x) else if y = 4 then Int32.ofNat (v.2.2.1 (30 * (j - 1) + 1)).length else Int32.ofNat (v.2.2.1 (30 * (j - 1) + 2)).length
def oidle (v : vS) (x y : Int32) : xO := if (0 ≤ x.toInt ∧ x.toInt ≤ 2) ∧ (0 ≤ y.toInt ∧ y.toInt ≤ 5) then oi (idl v (x.toNatClampNeg + 1) x y) else .inr 1
def ooverflow (v : vS) (x y : Int32) : xO := if (0 ≤ x.toInt ∧ x.toInt ≤ 2) ∧ (0 ≤ y.toInt ∧ y.toInt ≤ 2) then oi (v.1 15 (x.toNatClampNeg + 1) y.toNatClampNeg) else .inr 1
abbrev hnok (x y z : Int32) : Prop := (0 ≤ x.toInt ∧ x.toInt ≤ 2) ∧ (0 ≤ y.toInt ∧ y.toInt ≤ 3) ∧ (0 ≤ z.toInt ∧ z.toInt ≤ 23)
abbrev hrow (x y : Int32) : Nat := 30 * (x.toNatClampNeg + 1 - 1) + 3 + y.toNatClampNeg
abbrev hnal (v : vS) (x y z : Int32) : Prop := (v.2.2.1 (hrow x y)).length < 6 ∧ iah v (x.toNatClampNeg + 1) z = none
def vhunt (v : vS) (x y z : Int32) : vS := if hnok x y z ∧ hnal v x y z then vrw v (hrow x y) (radd (cap (hrow x y)) (v.2.2.1 (hrow x y)) z) else v
def ohunt (v : vS) (x y z : Int32) : xO := if hnok x y z then (if hnal v x y z then oi (Int32.ofNat (radd (cap (hrow x y)) (v.2.2.1 (hrow x y)) z).length) else .inr 2) else .inr 1
section XNL
variable {m μ nx mc ms bc bs : Nat} {r : List (Nat × xI)} {ls st : List xV} {v : vS} {G : xO → vS → Prop}
theorem n_line {x y : Int32} (kx : ¬ lnok x y → G (.inr 1) v) (kk : lnok x y → TC CR m μ r ls (rf 2 (lno x y) :: st) v G) : TC CR m μ ((nx, x_callv 7 51 3 mc ms bc bs) :: r) ls (.inl y :: .inl x :: rf 7 1 :: st) v G := by
  refine c_callv cr_rs (e51 (x := x) (y := y)) (fun w t p => ?_) (fun k t p => ?_)
  · obtain ⟨rfl, ⟨h, e⟩ | ⟨_, e⟩⟩ := p
    · cases e; exact kk h
    · cases e
  · obtain ⟨rfl, ⟨h, e⟩ | ⟨h, e⟩⟩ := p
    · cases e
    · cases e; exact kx h
end XNL
theorem vd0_6 {v : vS} {j : Nat} {z : Int32} : (vd0 v j z).1 1 6 j = v.1 1 6 j * 10 + z := by
  show (vpi v 1 6 j (v.1 1 6 j * 10 + z)).1 1 6 j = _
  exact vpi_same
theorem e64 {v : vS} {jo j : Nat} {x : Int32} : ED CR 64 [rf 7 1, rf 3 jo, rf 1 j, .inl x] v (oi (bI (!(x == -1)))) (vlk v jo j x) := by
  refine EC.mk (fun n0 => ?_)
  show BC _ n0 64 0 [rf 7 1, rf 3 jo, rf 1 j, .inl x] [] _ _
  refine BC.blk c64_0 (fun m1 hm1 => ?_)
  refine c_iload rfl ?_
  refine c_iconst ?_
  refine c_icmp_ne (fun d1 => ?_) (fun d1 => ?_)
  · skip
    refine BC.blk c64_7 (fun m2 hm2 => ?_)
    refine c_aload rfl ?_
    refine c_aload rfl ?_
    refine c_aload rfl ?_
    refine c_iload rfl ?_
    refine d_callv cr_rs (e14) ?_
    refine d_callv cr_rs (e53) ?_
    refine c_aload rfl ?_
    refine c_iload rfl ?_
    refine c_iconst ?_
    refine c_bin rfl ?_
    refine c_iconst ?_
    refine c_irem rfl ?_
    refine c_pfi (fun _ C _ => C.pi rfl) ?_
    refine c_iconst ?_
    exact c_zret ⟨by rw [show (x == -1) = false by simp only [beq_eq_false_iff_ne]; exact d1]; rfl, by rw [vlk, if_neg d1]; rfl⟩
  · skip
    refine c_iconst ?_
    exact c_zret ⟨by rw [show (x == -1) = true by simp only [beq_iff_eq]; exact d1]; rfl, by rw [vlk, if_pos d1]⟩
theorem e65 {v : vS} {jo j l : Nat} : ED CR 65 [rf 7 1, rf 3 jo, rf 1 j, rf 2 l] v (oi (bI (swR v jo j l).isSome)) ((swR v jo j l).getD v) := by
  refine EC.mk (fun n0 => ?_)
  show BC _ n0 65 0 [rf 7 1, rf 3 jo, rf 1 j, rf 2 l, rf 0 0, rf 0 0, rf 0 0, rf 0 0] [] _ _
  refine BC.blk c65_0 (fun m1 hm1 => ?_)
  refine c_aload rfl ?_
  refine c_iconst ?_
  refine c_iconst ?_
  refine d_callv cr_rs (show ED CR 29 [rf 3 jo, .inl 20, .inl 25] _ (oi (fidl _ jo 20 25)) _ from e29 (by decide)) ?_
  refine c_istore rfl ?_
  refine c_iload rfl ?_
  refine c_iconst ?_
  refine c_icmp_ne (fun d1 => ?_) (fun d1 => ?_)
  · skip
    refine BC.blk c65_18 (fun m2 hm2 => ?_)
    refine c_iconst ?_
    refine c_istore rfl ?_
    refine c_goto ?_
    have lp21 : ∀ (n : Nat) (i : Nat) (z6 z7 : xV), i ≤ 4 → BC CR n 65 21 [rf 7 1, rf 3 jo, rf 1 j, rf 2 l, .inl (fidl v jo 20 25), .inl (Int32.ofNat i), z6, z7] [] v (fun o t => o = oi (bI (swF v jo j l (fnd (fun s => !(swo v jo j l s == -1)) i (4 - i))).isSome) ∧ t = (swF v jo j l (fnd (fun s => !(swo v jo j l s == -1)) i (4 - i))).getD v) := by
      intro n21
      induction n21 using Nat.strongRecOn with
      | ind n21 ih21 =>
        intro i z6 z7 hi
        have o1 := ofN (n := i) (by omega)
        refine BC.blk c65_21 (fun m3 hm3 => ?_)
        refine c_iload rfl ?_
        refine c_iconst ?_
        refine c_icmpk_ge (k := 4) rfl (fun d2 => ?_) (fun d2 => ?_)
        · skip
          refine BC.blk c65_105 (fun m4 hm4 => ?_)
          refine c_iconst ?_
          exact c_zret ⟨by rw [fnd_end (by omega)]; rfl, by rw [fnd_end (by omega)]; rfl⟩
        · skip
          have jn58 : ∀ (n : Nat) (w : Int32), n < n21 → w = swo v jo j l i → BC CR n 65 58 [rf 7 1, rf 3 jo, rf 1 j, rf 2 l, .inl (fidl v jo 20 25), .inl (Int32.ofNat i), .inl (ilk v jo j i (-1)), z7] [.inl w] v (fun o t => o = oi (bI (swF v jo j l (fnd (fun s => !(swo v jo j l s == -1)) i (4 - i))).isSome) ∧ t = (swF v jo j l (fnd (fun s => !(swo v jo j l s == -1)) i (4 - i))).getD v) := by
            intro n58 w hn58 hw
            refine BC.blk c65_58 (fun m5 hm5 => ?_)
            refine c_istore rfl ?_
            refine c_iload rfl ?_
            refine c_iconst ?_
            refine c_icmp_eq (fun d3 => ?_) (fun d3 => ?_)
            · skip
              refine BC.blk c65_99 (fun m6 hm6 => ?_)
              refine c_iincN (i := i) (k := 1) rfl rfl rfl ?_
              refine c_goto ?_
              rw [fnd_no (by omega) (show (!(swo v jo j l i == -1)) = false by rw [← hw, d3]; rfl)]
              exact ih21 m6 (by omega) (i + 1) _ _ (by omega)
            · skip
              refine c_aload rfl ?_
              refine c_aload rfl ?_
              refine c_aload rfl ?_
              refine c_iload rfl ?_
              refine d_callv cr_rs (e64) ?_
              refine c_pop ?_
              refine c_aload rfl ?_
              refine c_aload rfl ?_
              refine c_aload rfl ?_
              refine c_iload rfl ?_
              refine d_callv cr_rs (e14) ?_
              refine d_callv cr_rs (e53) ?_
              refine c_aload rfl ?_
              refine c_aload rfl ?_
              refine c_aload rfl ?_
              refine c_iload rfl ?_
              refine d_callv cr_rs (e14) ?_
              refine d_callv cr_rs (e53) ?_
              refine c_iconst ?_
              rw [fnd_yes (by omega) (show (!(swo v jo j l i == -1)) = true by rw [← hw]; simp only [Bool.not_eq_true', beq_eq_false_iff_ne]; exact d3)]
              rw [hw]
              exact c_zret ⟨rfl, rfl⟩
          refine c_aload rfl ?_
          refine c_aload rfl ?_
          refine c_gfr (fun _ C l => C.r10 l) ?_
          refine c_iload rfl ?_
          refine c_iconst ?_
          refine d_callv cr_rs (e31 (s := i) (by omega)) ?_
          refine c_istore rfl ?_
          refine c_iload rfl ?_
          refine c_iconst ?_
          refine c_icmp_ne (fun d4 => ?_) (fun d4 => ?_)
          · skip
            refine BC.blk c65_50 (fun m7 hm7 => ?_)
            refine c_aload rfl ?_
            refine c_aload rfl ?_
            refine c_iconst ?_
            refine c_iload rfl ?_
            refine d_callv cr_rs (e31 (s := 0) (by omega)) ?_
            refine c_goto ?_
            exact jn58 m7 _ (by omega) (by rw [swo, if_neg d4])
          · skip
            refine c_iconst ?_
            refine c_goto ?_
            exact jn58 m3 _ (by omega) (by rw [swo, if_pos d4])
    have e9 := lp21 m2 0 (rf 0 0) (rf 0 0) (by omega)
    unfold swR
    rw [if_neg d1]
    exact e9
  · skip
    refine c_iconst ?_
    exact c_zret ⟨by rw [swR, if_pos d1]; rfl, by rw [swR, if_pos d1]; rfl⟩
theorem e67 {v : vS} {jo j : Nat} {x : Int32} : ED CR 67 [rf 7 1, rf 3 jo, rf 1 j, .inl x] v (ov) (vcall v jo j x) := by
  refine EC.mk (fun n0 => ?_)
  show BC _ n0 67 0 [rf 7 1, rf 3 jo, rf 1 j, .inl x, rf 0 0, rf 0 0] [] _ _
  refine BC.blk c67_0 (fun m1 hm1 => ?_)
  refine c_iload rfl ?_
  refine d_call cr_rs (e26) ?_
  refine c_if_ne (fun d1 => ?_) (fun d1 => ?_)
  · skip
    refine BC.blk c67_14 (fun m2 hm2 => ?_)
    refine c_aload rfl ?_
    refine c_gfr (fun _ C l => C.r3 (k := 1) rfl l) ?_
    refine c_aload rfl ?_
    refine c_iload rfl ?_
    refine d_callv cr_rs (e28) ?_
    refine c_aald (fun _ C l i => C.a16 l i) (fun p1 => ?_)
    refine c_astore rfl ?_
    refine c_aload rfl ?_
    refine d_callv cr_rs (e11) ?_
    refine c_if_ne (fun d2 => ?_) (fun d2 => ?_)
    · skip
      refine BC.blk c67_41 (fun m3 hm3 => ?_)
      have jn80 : ∀ (n : Nat) (b : Int32) (v1 : vS), n < n0 → vcw v jo j (vcl v jo x) = (b, v1) → BC CR n 67 80 [rf 7 1, rf 3 jo, rf 1 j, .inl x, rf 2 (vcl v jo x), rf 0 0] [.inl b] v1 (fun o t => o = ov ∧ t = vcall v jo j x) := by
        intro n80 b v1 hn80 hw
        refine BC.blk c67_80 (fun m4 hm4 => ?_)
        refine c_istore rfl ?_
        refine c_iload rfl ?_
        refine c_if_ne (fun d3 => ?_) (fun d3 => ?_)
        · skip
          refine BC.blk c67_94 (fun m5 hm5 => ?_)
          refine c_aload rfl ?_
          refine c_aload rfl ?_
          refine c_aload rfl ?_
          refine c_gfi (fun _ C _ => C.i rfl) ?_
          refine d_callv cr_rs (e66) ?_
          refine c_aload rfl ?_
          refine c_stage ?_
          refine c_pfr (fun _ C _ => C.pr rfl) ?_
          refine c_aload rfl ?_
          refine c_aload rfl ?_
          refine c_pfr (fun _ C _ => C.pr rfl) ?_
          refine c_aload rfl ?_
          refine c_aload rfl ?_
          refine c_pfr (fun _ C _ => C.pr rfl) ?_
          refine c_aload rfl ?_
          refine c_gfr (fun _ C l => C.r10 l) ?_
          refine c_iconst ?_
          refine c_pfi (fun _ C _ => C.pi rfl) ?_
          exact c_ret ⟨rfl, by rw [vcall, if_neg (by rw [show isl x = true from decide_eq_true (b2i1.mp d1)]; decide), if_neg (by rw [show frb v (vcl v jo x) = true from decide_eq_true (b2i1.mp d2)]; decide), hw, if_neg d3]; rfl⟩
        · skip
          refine c_aload rfl ?_
          refine c_aload rfl ?_
          refine c_iconst ?_
          refine d_callv cr_rs (e59) ?_
          exact c_ret ⟨rfl, by rw [vcall, if_neg (by rw [show isl x = true from decide_eq_true (b2i1.mp d1)]; decide), if_neg (by rw [show frb v (vcl v jo x) = true from decide_eq_true (b2i1.mp d2)]; decide), hw, if_pos d3]⟩
      refine c_aload rfl ?_
      refine c_gfr (fun _ C l => C.r10 l) ?_
      refine c_gfi (fun _ C l => (C.n20 l).2) ?_
      refine c_aload rfl ?_
      refine c_gfi (fun _ C l => (C.n30 l).2) ?_
      refine c_icmp_ne (fun d4 => ?_) (fun d4 => ?_)
      · skip
        refine BC.blk c67_66 (fun m6 hm6 => ?_)
        refine c_aload rfl ?_
        refine c_aload rfl ?_
        refine c_aload rfl ?_
        refine c_aload rfl ?_
        refine c_aload rfl ?_
        refine c_iconst ?_
        refine c_iconst ?_
        refine d_callv cr_rs (e31 (s := 0) (by omega)) ?_
        refine d_callv cr_rs (e64) ?_
        refine c_goto ?_
        exact jn80 m6 _ _ (by omega) (by rw [vcw, if_neg d4]; rfl)
      · skip
        refine c_aload rfl ?_
        refine c_aload rfl ?_
        refine c_aload rfl ?_
        refine c_aload rfl ?_
        refine d_callv cr_rs (e65) ?_
        refine c_goto ?_
        exact jn80 m3 _ _ (by omega) (by rw [vcw, if_pos d4]; rfl)
    · skip
      refine c_aload rfl ?_
      refine c_aload rfl ?_
      refine c_iconst ?_
      refine d_callv cr_rs (e59) ?_
      exact c_ret ⟨rfl, by rw [vcall, if_neg (by rw [show isl x = true from decide_eq_true (b2i1.mp d1)]; decide), if_pos (show frb v (vcl v jo x) = false from decide_eq_false (b2i0.mp d2))]⟩
  · skip
    refine c_aload rfl ?_
    refine c_aload rfl ?_
    refine c_iconst ?_
    refine d_callv cr_rs (e59) ?_
    exact c_ret ⟨rfl, by rw [vcall, if_pos (show isl x = false from decide_eq_false (b2i0.mp d1))]⟩
theorem e69 {v : vS} {jo j jt : Nat} : ED CR 69 [rf 7 1, rf 3 jo, rf 1 j, rf 3 jt] v (oi (von v jo j jt).1) ((von v jo j jt).2) := by
  refine EC.mk (fun n0 => ?_)
  show BC _ n0 69 0 [rf 7 1, rf 3 jo, rf 1 j, rf 3 jt, rf 0 0, rf 0 0] [] _ _
  refine BC.blk c69_0 (fun m1 hm1 => ?_)
  refine c_aload rfl ?_
  refine c_aload rfl ?_
  refine c_gfi (fun _ C l => (C.n30 l).2) ?_
  refine c_aload rfl ?_
  refine c_gfi (fun _ C l => (C.n30 l).2) ?_
  refine d_callv cr_rs (e68) ?_
  refine c_istore rfl ?_
  refine c_iload rfl ?_
  refine c_iconst ?_
  refine c_icmp_ne (fun d1 => ?_) (fun d1 => ?_)
  · skip
    refine BC.blk c69_40 (fun m2 hm2 => ?_)
    refine c_aload rfl ?_
    refine c_iconst ?_
    refine c_iconst ?_
    refine d_callv cr_rs (show ED CR 29 [rf 3 jt, .inl 30, .inl 33] _ (oi (fidl _ jt 30 33)) _ from e29 (by decide)) ?_
    refine c_istore rfl ?_
    refine c_iload rfl ?_
    refine c_iconst ?_
    refine c_icmp_ne (fun d2 => ?_) (fun d2 => ?_)
    · skip
      refine BC.blk c69_58 (fun m3 hm3 => ?_)
      have jn93 : ∀ (n : Nat) (v1 : vS), n < n0 → vo1 v jo j = v1 → ¬ (own j jo ∧ ilk v jo j 0 (-1) = -1) → BC CR n 69 93 [rf 7 1, rf 3 jo, rf 1 j, rf 3 jt, .inl (fitr v (Int32.ofNat (jo - 1)) (Int32.ofNat (jt - 1))), .inl (fidl v jt 30 33)] [] v1 (fun o t => o = oi (von v jo j jt).1 ∧ t = (von v jo j jt).2) := by
        intro n93 v1 hn93 hv1 hno
        refine BC.blk c69_93 (fun m4 hm4 => ?_)
        refine c_aload rfl ?_
        refine c_aload rfl ?_
        refine c_iconst ?_
        refine c_iload rfl ?_
        refine c_bin rfl ?_
        refine d_callv cr_rs (e53) ?_
        refine c_aload rfl ?_
        refine c_aload rfl ?_
        refine c_iload rfl ?_
        refine d_callv cr_rs (e14) ?_
        refine c_pfi (fun _ C _ => C.pi rfl) ?_
        refine c_aload rfl ?_
        refine c_aload rfl ?_
        refine c_aload rfl ?_
        refine c_gfi (fun _ C _ => (C.i rfl).trans vpi_same) ?_
        refine d_callv cr_rs (e53) ?_
        refine c_aload rfl ?_
        refine c_aload rfl ?_
        refine c_gfi (fun _ C l => (C.n30 l).2) ?_
        refine d_callv cr_rs (e2) ?_
        refine c_iconst ?_
        subst hv1
        exact c_zret ⟨by rw [von, if_neg d1, if_neg d2, if_neg hno], by rw [von, if_neg d1, if_neg d2, if_neg hno]; rfl⟩
      refine c_aload rfl ?_
      refine c_gfr (fun _ C l => C.r10 l) ?_
      refine c_gfi (fun _ C l => (C.n20 l).2) ?_
      refine c_aload rfl ?_
      refine c_gfi (fun _ C l => (C.n30 l).2) ?_
      refine c_icmp_ne (fun d3 => ?_) (fun d3 => ?_)
      · skip
        exact jn93 m3 _ (by omega) (by rw [vo1, if_neg d3]) (fun z => d3 z.1)
      · skip
        refine c_aload rfl ?_
        refine c_aload rfl ?_
        refine c_aload rfl ?_
        refine c_aload rfl ?_
        refine c_aload rfl ?_
        refine c_gfr (fun _ C l => C.r10 l) ?_
        refine c_iconst ?_
        refine c_iconst ?_
        refine d_callv cr_rs (e31 (s := 0) (by omega)) ?_
        refine d_callv cr_rs (e64) ?_
        refine c_if_ne (fun d4 => ?_) (fun d4 => ?_)
        · skip
          have d5 : ¬ ilk v jo j 0 (-1) = -1 := by have := bI1.mp d4; simpa using this
          exact jn93 m3 _ (by omega) (by rw [vo1, if_pos d3]) (fun z => d5 z.2)
        · skip
          refine c_iconst ?_
          have d5 : ilk v jo j 0 (-1) = -1 := by have := bI0.mp d4; simpa using this
          exact c_zret ⟨by rw [von, if_neg d1, if_neg d2, if_pos ⟨d3, d5⟩], by rw [von, if_neg d1, if_neg d2, if_pos ⟨d3, d5⟩]; show vlk v jo j (ilk v jo j 0 (-1)) = v; rw [vlk, if_pos d5]⟩
    · skip
      refine c_iconst ?_
      exact c_zret ⟨by rw [von, if_neg d1, if_pos d2], by rw [von, if_neg d1, if_pos d2]⟩
  · skip
    refine c_aload rfl ?_
    refine c_gfr (fun _ C l => C.r7 (k := 3) (by decide) l) ?_
    refine c_aload rfl ?_
    refine c_gfiP (fun _ C l => C.n30 l) fun hjo => ?_
    refine c_aald (fun _ C l i9 => ⟨(C.a14 l i9).1, (C.a14 l i9).2.trans (show _ = jo by rw [(ofN (n := jo - 1) (by omega)).2]; omega)⟩) (fun p1 => ?_)
    refine c_aload rfl ?_
    refine c_gfi (fun _ C l => (C.n30 l).2) ?_
    refine c_dup2 ?_
    refine c_ald (fun _ C l i => C.a15 l i) (fun p2 => ?_)
    refine c_iconst ?_
    refine c_bin rfl ?_
    refine c_ast (fun _ C l i => C.s15 l i) (fun p3 => ?_)
    refine c_iconst ?_
    exact c_zret ⟨by rw [von, if_pos d1], by rw [von, if_pos d1]; rfl⟩
theorem e70 {v : vS} {jo j m : Nat} : ED CR 70 [rf 7 1, rf 3 jo, rf 1 j, rf 4 m] v (ov) (vsn jo j m (v.2.2.1 (v.2.1 4 2 m)).length v 0) := by
  refine EC.mk (fun n0 => ?_)
  show BC _ n0 70 0 [rf 7 1, rf 3 jo, rf 1 j, rf 4 m, rf 0 0, rf 0 0] [] _ _
  refine BC.blk c70_0 (fun m1 hm1 => ?_)
  refine c_iconst ?_
  refine c_istore rfl ?_
  refine c_goto ?_
  have lp3 : ∀ (n : Nat) (i : Nat) (w : vS) (z5 : xV), i ≤ 1000 → BC CR n 70 3 [rf 7 1, rf 3 jo, rf 1 j, rf 4 m, .inl (Int32.ofNat i), z5] [] w (fun o t => o = ov ∧ t = vsn jo j m ((w.2.2.1 (w.2.1 4 2 m)).length - i) w i) := by
    intro n3
    induction n3 using Nat.strongRecOn with
    | ind n3 ih3 =>
      intro i w z5 hi
      have o1 := ofN (n := i) (by omega)
      refine BC.blk c70_3 (fun m2 hm2 => ?_)
      refine c_iload rfl ?_
      refine c_aload rfl ?_
      refine c_gfr (fun _ C _ => C.r rfl) ?_
      refine d_callvP cr_rs rfl (fun _ C l => And.intro (C.rl l) (C.rlen l)) (fun hr => e24) (fun hr => ?_)
      have o2 := ofN (n := (w.2.2.1 (w.2.1 4 2 m)).length) (by omega)
      refine c_icmp_ge (fun d1 => ?_) (fun d1 => ?_)
      · skip
        refine BC.blk c70_84 (fun m3 hm3 => ?_)
        refine c_aload rfl ?_
        refine c_aload rfl ?_
        refine c_iconst ?_
        refine d_callv cr_rs (e59) ?_
        exact c_ret ⟨rfl, by rw [vsn_end (by omega)]⟩
      · skip
        refine c_aload rfl ?_
        refine c_gfr (fun _ C _ => C.r rfl) ?_
        refine c_iload rfl ?_
        refine d_callv cr_rs (e23) ?_
        generalize hz : rat (w.2.2.1 (w.2.1 4 2 m)) (Int32.ofNat i) = z
        refine c_istore rfl ?_
        refine c_iload rfl ?_
        refine d_call cr_rs (e44) ?_
        refine c_if_eq (fun d2 => ?_) (fun d2 => ?_)
        · skip
          refine BC.blk c70_78 (fun m4 hm4 => ?_)
          refine c_iincN (i := i) (k := 1) rfl rfl rfl ?_
          refine c_goto ?_
          rw [vsn_no (by omega) hz (by rw [iso, decide_eq_false (b2i0.mp d2)]; rfl)]
          exact ih3 m4 (by omega) (i + 1) w _ (by omega)
        · skip
          refine c_aload rfl ?_
          refine c_iload rfl ?_
          refine d_callv cr_rs (e4) ?_
          refine c_if_ne (fun d3 => ?_) (fun d3 => ?_)
          · skip
            refine BC.blk c70_78 (fun m5 hm5 => ?_)
            refine c_iincN (i := i) (k := 1) rfl rfl rfl ?_
            refine c_goto ?_
            rw [vsn_no (by omega) hz (by rw [hbb, decide_eq_true (b2i1.mp d3), Bool.not_true, Bool.and_false])]
            exact ih3 m5 (by omega) (i + 1) w _ (by omega)
          · skip
            refine c_aload rfl ?_
            refine c_aload rfl ?_
            refine c_aload rfl ?_
            refine c_aload rfl ?_
            refine c_gfr (fun _ C l => C.r7 (k := 0) (by decide) l) ?_
            refine c_iload rfl ?_
            refine c_aald (fun _ C l i => C.a11 l i) (fun p1 => ?_)
            refine d_callv cr_rs (e69) ?_
            refine c_if_eq (fun d4 => ?_) (fun d4 => ?_)
            · skip
              refine BC.blk c70_78 (fun m6 hm6 => ?_)
              refine c_iincN (i := i) (k := 1) rfl rfl rfl ?_
              refine c_goto ?_
              have e9 := ih3 m6 (by omega) (i + 1) (von w jo j (z.toNatClampNeg + 1)).2 (.inl z) (by omega)
              rw [von_2 d4] at e9
              rw [vsn_fl (by omega) hz (by rw [iso, decide_eq_true (b2i1.mp d2), hbb, decide_eq_false (b2i0.mp d3)]; rfl) d4]
              exact e9
            · skip
              refine c_aload rfl ?_
              refine c_aload rfl ?_
              refine c_gfi (fun _ C _ => C.i rfl) ?_
              refine d_call cr_rs (e34) ?_
              refine c_pfi (fun _ C _ => C.pi rfl) ?_
              refine c_aload rfl ?_
              refine c_stage ?_
              refine c_pfr (fun _ C _ => C.pr rfl) ?_
              exact c_ret ⟨rfl, by rw [vsn_ok (by omega) hz (by rw [iso, decide_eq_true (b2i1.mp d2), hbb, decide_eq_false (b2i0.mp d3)]; rfl) d4]; rfl⟩
  exact lp3 m1 0 v _ (by omega)
theorem e71 {v : vS} {jo : Nat} : ED CR 71 [rf 7 1, rf 3 jo] v (ov) (vdoj v jo) := by
  refine EC.mk (fun n0 => ?_)
  show BC _ n0 71 0 [rf 7 1, rf 3 jo, rf 0 0, rf 0 0, rf 0 0] [] _ _
  refine BC.blk c71_0 (fun m1 hm1 => ?_)
  refine c_aload rfl ?_
  refine c_gfr (fun _ C l => C.r36 l) ?_
  refine c_iconst ?_
  refine d_callv cr_rs (e23) ?_
  generalize hx : rat (v.2.2.1 (30 * (jo - 1) + 2)) 0 = x
  have h72 : (72 : Int32).toInt = 72 := rfl
  refine c_istore rfl ?_
  refine c_iload rfl ?_
  refine c_if_lt (fun d1 => ?_) (fun d1 => ?_)
  · skip
    refine BC.blk c71_22 (fun m2 hm2 => ?_)
    exact c_ret ⟨rfl, by rw [vdoj, hx, if_pos (Or.inl d1)]⟩
  · skip
    refine c_iload rfl ?_
    refine c_aload rfl ?_
    refine c_gfr (fun _ C l => C.r7 (k := 1) (by decide) l) ?_
    refine c_alen (fun _ C l => C.l12 l) ?_
    refine c_icmp_lt (fun d2 => ?_) (fun d2 => ?_)
    · skip
      refine BC.blk c71_23 (fun m3 hm3 => ?_)
      refine c_aload rfl ?_
      refine c_gfr (fun _ C l => C.r36 l) ?_
      refine c_iload rfl ?_
      refine d_callvP cr_rs rfl (fun _ C l => C.rl l) (fun hr => e38 hr) (fun hr => ?_)
      refine c_aload rfl ?_
      refine c_gfr (fun _ C l => C.r7 (k := 1) (by decide) l) ?_
      refine c_iload rfl ?_
      refine c_aald (fun _ C l i => C.a12 l i) (fun p1 => ?_)
      refine c_astore rfl ?_
      refine c_aload rfl ?_
      refine c_aload rfl ?_
      refine c_gfi (fun _ C _ => C.i rfl) ?_
      refine d_callv cr_rs (e17) ?_
      refine c_astore rfl ?_
      refine c_aload rfl ?_
      refine c_ifnull (fun d3 => ?_) (fun d3 => ?_)
      · skip
        refine BC.blk c71_66 (fun m4 hm4 => ?_)
        refine c_aload rfl ?_
        refine c_aload rfl ?_
        refine c_iconst ?_
        refine d_callv cr_rs (e59) ?_
        refine c_goto ?_
        refine BC.blk c71_109 (fun m5 hm5 => ?_)
        refine c_ret ⟨rfl, ?_⟩
        rw [vdoj, hx, if_neg (fun z => z.elim d1 (fun y => by omega))]
        show _ = vdj (vj1 v jo x) jo x
        rw [vdj, if_pos (Or.inl (show vjm (vj1 v jo x) jo x = 0 from d3))]
        rfl
      · skip
        refine c_aload rfl ?_
        refine c_aload rfl ?_
        refine c_gfi (fun _ C _ => C.i rfl) ?_
        refine d_callv cr_rs (e35) ?_
        refine c_iconst ?_
        refine c_icmpk_ge (k := 2) rfl (fun d4 => ?_) (fun d4 => ?_)
        · skip
          refine BC.blk c71_75 (fun m6 hm6 => ?_)
          refine c_aload rfl ?_
          refine c_gfi (fun _ C _ => C.i rfl) ?_
          refine c_if_eq (fun d5 => ?_) (fun d5 => ?_)
          · skip
            refine BC.blk c71_101 (fun m7 hm7 => ?_)
            refine c_aload rfl ?_
            refine c_aload rfl ?_
            refine c_aload rfl ?_
            refine c_aload rfl ?_
            refine d_callv cr_rs (e70) ?_
            refine c_goto ?_
            refine BC.blk c71_109 (fun m8 hm8 => ?_)
            refine c_ret ⟨rfl, ?_⟩
            rw [vdoj, hx, if_neg (fun z => z.elim d1 (fun y => by omega))]
            show _ = vdj (vj1 v jo x) jo x
            rw [vdj, if_neg (fun z => z.elim (show ¬ vjm (vj1 v jo x) jo x = 0 from d3) (fun y => absurd y (Int.not_lt.mpr d4))), if_pos (show (vj1 v jo x).1 4 1 (vjm (vj1 v jo x) jo x) = 0 from d5)]
            rfl
          · skip
            refine c_aload rfl ?_
            refine c_aload rfl ?_
            refine c_aload rfl ?_
            refine c_aload rfl ?_
            refine c_aload rfl ?_
            refine c_gfi (fun _ C _ => C.i rfl) ?_
            refine d_callv cr_rs (e36) ?_
            refine d_callv cr_rs (e67) ?_
            refine c_goto ?_
            refine BC.blk c71_109 (fun m9 hm9 => ?_)
            refine c_ret ⟨rfl, ?_⟩
            rw [vdoj, hx, if_neg (fun z => z.elim d1 (fun y => by omega))]
            show _ = vdj (vj1 v jo x) jo x
            rw [vdj, if_neg (fun z => z.elim (show ¬ vjm (vj1 v jo x) jo x = 0 from d3) (fun y => absurd y (Int.not_lt.mpr d4))), if_neg (show ¬ (vj1 v jo x).1 4 1 (vjm (vj1 v jo x) jo x) = 0 from d5)]
            rfl
        · skip
          refine c_goto ?_
          refine BC.blk c71_66 (fun m10 hm10 => ?_)
          refine c_aload rfl ?_
          refine c_aload rfl ?_
          refine c_iconst ?_
          refine d_callv cr_rs (e59) ?_
          refine c_goto ?_
          refine BC.blk c71_109 (fun m11 hm11 => ?_)
          refine c_ret ⟨rfl, ?_⟩
          rw [vdoj, hx, if_neg (fun z => z.elim d1 (fun y => by omega))]
          show _ = vdj (vj1 v jo x) jo x
          rw [vdj, if_pos (Or.inr (show (dbh (vj1 v jo x) (vjm (vj1 v jo x) jo x) ((vj1 v jo x).1 1 6 (x.toNatClampNeg + 1))).toInt < 2 from Int.not_le.mp d4))]
          rfl
    · skip
      refine c_goto ?_
      refine BC.blk c71_22 (fun m12 hm12 => ?_)
      exact c_ret ⟨rfl, by rw [vdoj, hx, if_pos (Or.inr (by omega))]⟩
theorem e73 {v : vS}  : ED CR 73 [rf 7 1] v (ov) (itr vsds 0 3 v) := by
  refine EC.mk (fun n0 => ?_)
  show BC _ n0 73 0 [rf 7 1, rf 0 0, rf 0 0, rf 0 0] [] _ _
  refine BC.blk c73_0 (fun m1 hm1 => ?_)
  refine c_iconst ?_
  refine c_istore rfl ?_
  refine c_goto ?_
  have lp2 : ∀ (n : Nat) (o : Nat) (w : vS) (z2 z3 : xV), o ≤ 3 → BC CR n 73 2 [rf 7 1, .inl (Int32.ofNat o), z2, z3] [] w (fun q t => q = ov ∧ t = itr vsds o (3 - o) w) := by
    intro n2
    induction n2 using Nat.strongRecOn with
    | ind n2 ih2 =>
      intro o w z2 z3 ho
      have oo := ofN (n := o) (by omega)
      refine BC.blk c73_2 (fun m2 hm2 => ?_)
      refine c_iload rfl ?_
      refine c_iconst ?_
      refine c_icmpk_ge (k := 3) rfl (fun d1 => ?_) (fun d1 => ?_)
      · skip
        refine BC.blk c73_76 (fun m3 hm3 => ?_)
        exact c_ret ⟨rfl, by rw [itr_end (by omega)]⟩
      · skip
        refine c_iconst ?_
        refine c_istore rfl ?_
        refine c_goto ?_
        have lp10 : ∀ (n : Nat) (p : Nat) (u : vS) (z3 : xV), n < n2 → 30 ≤ p → p ≤ 33 → BC CR n 73 10 [rf 7 1, .inl (Int32.ofNat o), .inl (Int32.ofNat p), z3] [] u (fun q t => q = ov ∧ t = itr vsds (o + 1) (3 - (o + 1)) (itr (vsd o) p (33 - p) u)) := by
          intro n10
          induction n10 using Nat.strongRecOn with
          | ind n10 ih10 =>
            intro p u z3 hn10 hp1 hp2
            have op := ofN (n := p) (by omega)
            refine BC.blk c73_10 (fun m4 hm4 => ?_)
            refine c_iload rfl ?_
            refine c_iconst ?_
            refine c_icmpk_ge (k := 33) rfl (fun d2 => ?_) (fun d2 => ?_)
            · skip
              refine BC.blk c73_70 (fun m5 hm5 => ?_)
              refine c_iincN (i := o) (k := 1) rfl rfl rfl ?_
              refine c_goto ?_
              rw [itr_end (f := vsd o) (by omega)]
              exact ih2 m5 (by omega) (o + 1) _ _ _ (by omega)
            · skip
              refine c_aload rfl ?_
              refine c_gfr (fun _ C l => C.r7 (k := 0) (by decide) l) ?_
              refine c_iload rfl ?_
              refine c_aald (fun _ C l i9 => ⟨(C.a11 l i9).1, (C.a11 l i9).2.trans (by rw [oo.2])⟩) (fun p1 => ?_)
              refine c_gfr (fun _ C l => C.r3 (k := 2) rfl l) ?_
              refine c_iload rfl ?_
              refine c_aald (fun _ C l i9 => ⟨(C.a17 l i9).1, (C.a17 l i9).2.trans (by rw [op.2])⟩) (fun p2 => ?_)
              refine c_astore rfl ?_
              refine c_aload rfl ?_
              refine c_ifnull (fun d3 => ?_) (fun d3 => ?_)
              · skip
                refine BC.blk c73_64 (fun m6 hm6 => ?_)
                refine c_iincN (i := p) (k := 1) rfl rfl rfl ?_
                refine c_goto ?_
                rw [itr_st (f := vsd o) (by omega), show vsd o p u = u by rw [vsd, if_pos d3]]
                exact ih10 m6 (by omega) (p + 1) _ _ (by omega) (by omega) (by omega)
              · skip
                refine c_aload rfl ?_
                refine c_gfr (fun _ C _ => C.r rfl) ?_
                refine c_stage ?_
                refine c_ane (fun d4 => ?_) (fun d4 => ?_)
                · skip
                  refine BC.blk c73_64 (fun m7 hm7 => ?_)
                  refine c_iincN (i := p) (k := 1) rfl rfl rfl ?_
                  refine c_goto ?_
                  rw [itr_st (f := vsd o) (by omega), show vsd o p u = u by rw [vsd, if_neg d3, if_neg d4]]
                  exact ih10 m7 (by omega) (p + 1) _ _ (by omega) (by omega) (by omega)
                · skip
                  refine c_aload rfl ?_
                  refine c_gfi (fun _ C _ => C.i rfl) ?_
                  refine c_aload rfl ?_
                  refine c_gfr (fun _ C l => C.r7 (k := 0) (by decide) l) ?_
                  refine c_iload rfl ?_
                  refine c_aald (fun _ C l i9 => ⟨(C.a11 l i9).1, (C.a11 l i9).2.trans (by rw [oo.2])⟩) (fun p3 => ?_)
                  refine c_iload rfl ?_
                  refine d_callv cr_rs (e14) ?_
                  refine c_icmp_ne (fun d5 => ?_) (fun d5 => ?_)
                  · skip
                    refine BC.blk c73_64 (fun m8 hm8 => ?_)
                    refine c_iincN (i := p) (k := 1) rfl rfl rfl ?_
                    refine c_goto ?_
                    rw [itr_st (f := vsd o) (by omega), show vsd o p u = u by rw [vsd, if_neg d3, if_pos d4, if_neg d5]]
                    exact ih10 m8 (by omega) (p + 1) _ _ (by omega) (by omega) (by omega)
                  · skip
                    refine c_aload rfl ?_
                    refine c_aload rfl ?_
                    refine d_callv cr_rs (e72) ?_
                    refine c_goto ?_
                    refine BC.blk c73_64 (fun m9 hm9 => ?_)
                    refine c_iincN (i := p) (k := 1) rfl rfl rfl ?_
                    refine c_goto ?_
                    rw [itr_st (f := vsd o) (by omega), show vsd o p u = vsend u (u.2.1 17 (o + 1) p) by rw [vsd, if_neg d3, if_pos d4, if_pos d5]]
                    exact ih10 m9 (by omega) (p + 1) _ _ (by omega) (by omega) (by omega)
        have e9 := lp10 m2 30 w z3 (by omega) (by omega) (by omega)
        rw [itr_st (by omega)]
        exact e9
  exact lp2 m1 0 v _ _ (by omega)
theorem e76 {v : vS}  : ED CR 76 [rf 7 1] v (ov) (itr vps 0 72 v) := by
  refine EC.mk (fun n0 => ?_)
  show BC _ n0 76 0 [rf 7 1, rf 0 0, rf 0 0] [] _ _
  refine BC.blk c76_0 (fun m1 hm1 => ?_)
  refine c_iconst ?_
  refine c_istore rfl ?_
  refine c_goto ?_
  have lp2 : ∀ (n : Nat) (c : Nat) (w : vS) (z2 : xV), c ≤ 72 → BC CR n 76 2 [rf 7 1, .inl (Int32.ofNat c), z2] [] w (fun q t => q = ov ∧ t = itr vps c (72 - c) w) := by
    intro n2
    induction n2 using Nat.strongRecOn with
    | ind n2 ih2 =>
      intro c w z2 hc
      have oc := ofN (n := c) (by omega)
      have h72 : (72 : Int32).toInt = 72 := rfl
      refine BC.blk c76_2 (fun m2 hm2 => ?_)
      refine c_iload rfl ?_
      refine c_aload rfl ?_
      refine c_gfr (fun _ C l => C.r7 (k := 1) (by decide) l) ?_
      refine c_alen (fun _ C l => C.l12 l) ?_
      refine c_icmp_ge (fun d1 => ?_) (fun d1 => ?_)
      · skip
        refine BC.blk c76_57 (fun m3 hm3 => ?_)
        exact c_ret ⟨rfl, by rw [itr_end (by omega)]⟩
      · skip
        refine c_aload rfl ?_
        refine c_gfr (fun _ C l => C.r7 (k := 1) (by decide) l) ?_
        refine c_iload rfl ?_
        refine c_aald (fun _ C l i9 => ⟨(C.a12 l i9).1, (C.a12 l i9).2.trans (by rw [oc.2])⟩) (fun p1 => ?_)
        refine c_astore rfl ?_
        refine c_aload rfl ?_
        refine c_gfr (fun _ C _ => C.r rfl) ?_
        refine c_stage ?_
        refine c_ane (fun d2 => ?_) (fun d2 => ?_)
        · skip
          refine BC.blk c76_36 (fun m4 hm4 => ?_)
          refine c_aload rfl ?_
          refine c_gfr (fun _ C _ => C.r rfl) ?_
          refine c_stage ?_
          refine c_ane (fun d3 => ?_) (fun d3 => ?_)
          · skip
            refine BC.blk c76_51 (fun m5 hm5 => ?_)
            refine c_iincN (i := c) (k := 1) rfl rfl rfl ?_
            refine c_goto ?_
            rw [itr_st (f := vps) (by omega), show vps c w = w by rw [vps, if_neg d2, if_neg d3]]
            exact ih2 m5 (by omega) (c + 1) _ _ (by omega)
          · skip
            refine c_aload rfl ?_
            refine c_aload rfl ?_
            refine d_callv cr_rs (e75) ?_
            refine c_goto ?_
            refine BC.blk c76_51 (fun m6 hm6 => ?_)
            refine c_iincN (i := c) (k := 1) rfl rfl rfl ?_
            refine c_goto ?_
            rw [itr_st (f := vps) (by omega), show vps c w = vtalk w (c + 1) by rw [vps, if_neg d2, if_pos d3]]
            exact ih2 m6 (by omega) (c + 1) _ _ (by omega)
        · skip
          refine c_aload rfl ?_
          refine c_aload rfl ?_
          refine d_callv cr_rs (e74) ?_
          refine c_goto ?_
          refine BC.blk c76_51 (fun m7 hm7 => ?_)
          refine c_iincN (i := c) (k := 1) rfl rfl rfl ?_
          refine c_goto ?_
          rw [itr_st (f := vps) (by omega), show vps c w = vwait w (c + 1) by rw [vps, if_pos d2]]
          exact ih2 m7 (by omega) (c + 1) _ _ (by omega)
  exact lp2 m1 0 v _ (by omega)
theorem e77 {v : vS}  : ED CR 77 [rf 7 1] v (ov) (itr vgvs 0 3 v) := by
  refine EC.mk (fun n0 => ?_)
  show BC _ n0 77 0 [rf 7 1, rf 0 0, rf 0 0, rf 0 0, rf 0 0] [] _ _
  refine BC.blk c77_0 (fun m1 hm1 => ?_)
  refine c_iconst ?_
  refine c_istore rfl ?_
  refine c_goto ?_
  have lp2 : ∀ (n : Nat) (o : Nat) (w : vS) (z2 z3 z4 : xV), o ≤ 3 → BC CR n 77 2 [rf 7 1, .inl (Int32.ofNat o), z2, z3, z4] [] w (fun q t => q = ov ∧ t = itr vgvs o (3 - o) w) := by
    intro n2
    induction n2 using Nat.strongRecOn with
    | ind n2 ih2 =>
      intro o w z2 z3 z4 ho
      have oo := ofN (n := o) (by omega)
      refine BC.blk c77_2 (fun m2 hm2 => ?_)
      refine c_iload rfl ?_
      refine c_iconst ?_
      refine c_icmpk_ge (k := 3) rfl (fun d1 => ?_) (fun d1 => ?_)
      · skip
        refine BC.blk c77_84 (fun m3 hm3 => ?_)
        exact c_ret ⟨rfl, by rw [itr_end (by omega)]⟩
      · skip
        refine c_aload rfl ?_
        refine c_gfr (fun _ C l => C.r7 (k := 0) (by decide) l) ?_
        refine c_iload rfl ?_
        refine c_aald (fun _ C l i9 => ⟨(C.a11 l i9).1, (C.a11 l i9).2.trans (by rw [oo.2])⟩) (fun p1 => ?_)
        refine c_astore rfl ?_
        refine c_iconst ?_
        refine c_istore rfl ?_
        refine c_goto ?_
        have lp17 : ∀ (n : Nat) (p : Nat) (u : vS) (z4 : xV), n < n2 → 30 ≤ p → p ≤ 33 → BC CR n 77 17 [rf 7 1, .inl (Int32.ofNat o), rf 3 (o + 1), .inl (Int32.ofNat p), z4] [] u (fun q t => q = ov ∧ t = itr vgvs (o + 1) (3 - (o + 1)) (itr (vgv o) p (33 - p) u)) := by
          intro n17
          induction n17 using Nat.strongRecOn with
          | ind n17 ih17 =>
            intro p u z4 hn17 hp1 hp2
            have op := ofN (n := p) (by omega)
            refine BC.blk c77_17 (fun m4 hm4 => ?_)
            refine c_iload rfl ?_
            refine c_iconst ?_
            refine c_icmpk_ge (k := 33) rfl (fun d2 => ?_) (fun d2 => ?_)
            · skip
              refine BC.blk c77_78 (fun m5 hm5 => ?_)
              refine c_iincN (i := o) (k := 1) rfl rfl rfl ?_
              refine c_goto ?_
              rw [itr_end (f := vgv o) (by omega)]
              exact ih2 m5 (by omega) (o + 1) _ _ _ _ (by omega)
            · skip
              refine c_aload rfl ?_
              refine c_gfr (fun _ C l => C.r35 l) ?_
              refine c_iconst ?_
              refine d_callv cr_rs (e23) ?_
              refine c_istore rfl ?_
              refine c_iload rfl ?_
              refine d_call cr_rs (e26) ?_
              refine c_if_eq (fun d3 => ?_) (fun d3 => ?_)
              · skip
                refine BC.blk c77_72 (fun m6 hm6 => ?_)
                refine c_iincN (i := p) (k := 1) rfl rfl rfl ?_
                refine c_goto ?_
                rw [itr_st (f := vgv o) (by omega), show vgv o p u = u by rw [vgv, if_neg (fun z => absurd z.1 (by rw [show isl (vgx o u) = false from decide_eq_false (b2i0.mp d3)]; decide))]]
                exact ih17 m6 (by omega) (p + 1) _ _ (by omega) (by omega) (by omega)
              · skip
                refine c_aload rfl ?_
                refine c_gfr (fun _ C l => C.r3 (k := 2) rfl l) ?_
                refine c_iload rfl ?_
                refine c_aald (fun _ C l i9 => ⟨(C.a17 l i9).1, (C.a17 l i9).2.trans (by rw [op.2])⟩) (fun p2 => ?_)
                refine c_ifnonnull (fun d4 => ?_) (fun d4 => ?_)
                · skip
                  refine BC.blk c77_72 (fun m7 hm7 => ?_)
                  refine c_iincN (i := p) (k := 1) rfl rfl rfl ?_
                  refine c_goto ?_
                  rw [itr_st (f := vgv o) (by omega), show vgv o p u = u by rw [vgv, if_neg (fun z => d4 z.2)]]
                  exact ih17 m7 (by omega) (p + 1) _ _ (by omega) (by omega) (by omega)
                · skip
                  refine c_aload rfl ?_
                  refine c_gfr (fun _ C l => C.r35 l) ?_
                  refine c_iload rfl ?_
                  refine d_callvP cr_rs rfl (fun _ C l => C.rl l) (fun hr => e38 hr) (fun hr => ?_)
                  refine c_aload rfl ?_
                  refine c_aload rfl ?_
                  refine c_aload rfl ?_
                  refine c_gfr (fun _ C l => C.r3 (k := 1) rfl l) ?_
                  refine c_iload rfl ?_
                  refine c_aald (fun _ C l i => C.a16 l i) (fun p3 => ?_)
                  refine c_iload rfl ?_
                  refine d_callv cr_rs (e54 (by have h9 := b2i1.mp d3; have := x_clamp h9.1; show 1 ≤ 24 * (o + 1 - 1) + (rat (u.2.2.1 (30 * (o + 1 - 1) + 1)) 0).toNatClampNeg + 1 ∧ _ ≤ 72; omega)) ?_
                  refine c_goto ?_
                  refine BC.blk c77_72 (fun m8 hm8 => ?_)
                  refine c_iincN (i := p) (k := 1) rfl rfl rfl ?_
                  refine c_goto ?_
                  rw [itr_st (f := vgv o) (by omega), show vgv o p u = _ from if_pos ⟨show isl (vgx o u) = true from decide_eq_true (b2i1.mp d3), d4⟩]
                  exact ih17 m8 (by omega) (p + 1) _ _ (by omega) (by omega) (by omega)
        have e9 := lp17 m2 30 w z4 (by omega) (by omega) (by omega)
        rw [itr_st (by omega)]
        exact e9
  exact lp2 m1 0 v _ _ _ (by omega)
theorem e78 {v : vS} {x : Int32} : ED CR 78 [rf 7 1, .inl x] v (otick x) (vtick v x) := by
  refine EC.mk (fun n0 => ?_)
  show BC _ n0 78 0 [rf 7 1, .inl x, rf 0 0, rf 0 0] [] _ _
  refine BC.blk c78_0 (fun m1 hm1 => ?_)
  refine c_iload rfl ?_
  refine c_iconst ?_
  refine c_iconst ?_
  refine d_call cr_rs (e25) ?_
  refine n_need (fun d1 => ?_) (fun d1 => ?_)
  · skip
    have h9 : ¬ (1 ≤ x.toInt ∧ x.toInt ≤ 100) := b2i0.mp d1
    exact id ⟨by rw [otick, if_neg h9], by rw [vtick, if_neg h9]⟩
  · skip
    have hx : 1 ≤ x.toInt ∧ x.toInt ≤ 100 := b2i1.mp d1
    refine c_iconst ?_
    refine c_istore rfl ?_
    refine c_goto ?_
    have lp12 : ∀ (n : Nat) (i : Nat) (w : vS) (z3 : xV), (i : Int) ≤ x.toInt → BC CR n 78 12 [rf 7 1, .inl x, .inl (Int32.ofNat i), z3] [] w (fun q t => q = ov ∧ t = itr (fun _ w => vone w) i (x.toInt.toNat - i) w) := by
      intro n12
      induction n12 using Nat.strongRecOn with
      | ind n12 ih12 =>
        intro i w z3 hi
        have oi := ofN (n := i) (by omega)
        refine BC.blk c78_12 (fun m2 hm2 => ?_)
        refine c_iload rfl ?_
        refine c_iload rfl ?_
        refine c_icmp_ge (fun d2 => ?_) (fun d2 => ?_)
        · skip
          refine BC.blk c78_58 (fun m3 hm3 => ?_)
          exact c_ret ⟨rfl, by rw [itr_end (by omega)]⟩
        · skip
          refine c_iconst ?_
          refine c_istore rfl ?_
          refine c_goto ?_
          have lp19 : ∀ (n : Nat) (o : Nat) (u : vS), n < n12 → o ≤ 3 → BC CR n 78 19 [rf 7 1, .inl x, .inl (Int32.ofNat i), .inl (Int32.ofNat o)] [] u (fun q t => q = ov ∧ t = itr (fun _ w => vone w) (i + 1) (x.toInt.toNat - (i + 1)) (itr vgvs 0 3 (itr vps 0 72 (itr vsds 0 3 (itr (fun o w => vdoj w (o + 1)) o (3 - o) u))))) := by
            intro n19
            induction n19 using Nat.strongRecOn with
            | ind n19 ih19 =>
              intro o u hn19 ho
              have oo := ofN (n := o) (by omega)
              refine BC.blk c78_19 (fun m4 hm4 => ?_)
              refine c_iload rfl ?_
              refine c_iconst ?_
              refine c_icmpk_ge (k := 3) rfl (fun d3 => ?_) (fun d3 => ?_)
              · skip
                refine BC.blk c78_40 (fun m5 hm5 => ?_)
                rw [itr_end (f := fun o w => vdoj w (o + 1)) (by omega)]
                refine c_aload rfl ?_
                refine d_callv cr_rs (e73) ?_
                refine c_aload rfl ?_
                refine d_callv cr_rs (e76) ?_
                refine c_aload rfl ?_
                refine d_callv cr_rs (e77) ?_
                refine c_iincN (i := i) (k := 1) rfl rfl rfl ?_
                refine c_goto ?_
                exact ih12 m5 (by omega) (i + 1) _ _ (by omega)
              · skip
                refine c_aload rfl ?_
                refine c_aload rfl ?_
                refine c_gfr (fun _ C l => C.r7 (k := 0) (by decide) l) ?_
                refine c_iload rfl ?_
                refine c_aald (fun _ C l i9 => ⟨(C.a11 l i9).1, (C.a11 l i9).2.trans (by rw [oo.2])⟩) (fun p1 => ?_)
                refine d_callv cr_rs (e71) ?_
                refine c_iincN (i := o) (k := 1) rfl rfl rfl ?_
                refine c_goto ?_
                rw [itr_st (f := fun o w => vdoj w (o + 1)) (by omega)]
                exact ih19 m4 (by omega) (o + 1) _ (by omega) (by omega)
          have e9 := lp19 m2 0 w (by omega) (by omega)
          rw [itr_st (by omega)]
          exact e9
    have e9 := lp12 m1 0 v (rf 0 0) (by omega)
    rw [otick, if_pos hx, vtick, if_pos hx]
    exact e9
