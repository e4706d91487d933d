/-! EACH CALL OF THE REFERENCE, for all arguments -/
def FB (n : Nat) (F : xF) : Prop := (0 ≤ (F 8 1).toInt ∧ (F 8 1).toInt ≤ 100 * (n : Int)) ∧ 0 ≤ (F 8 2).toInt ∧ (F 8 2).toInt ≤ (n : Int)
def SO (v : vS) (n : Nat) (oo : xO) (o : xO) (t : xF) : Prop := Sim ((t 8 1).toInt + 1) v t ∧ AG oo o t ∧ FB n t
theorem n32 {x : Int32} {k : Int} (h : 0 ≤ x.toInt ∧ x.toInt ≤ k) : ∃ o : Nat, (o : Int) ≤ k ∧ x = Int32.ofNat o := ⟨x.toNatClampNeg, by have := x_clamp h.1; omega, i32_nat h.1⟩
section XSO
variable {v v' : vS} {F t : xF} {n : Nat} {D : Int} {oo o : xO} {x y z u q b p : Int32}
theorem FB.same (hB : FB n F) (h1 : t 8 1 = F 8 1) (h2 : t 8 2 = F 8 2) : FB (n + 1) t := by
  unfold FB at hB ⊢
  rw [h1, h2]
  omega
theorem SO.same (hB : FB n F) (p : Sim ((F 8 1).toInt + 1) v' t ∧ AG oo o t ∧ t 8 1 = F 8 1 ∧ t 8 2 = F 8 2) : SO v' (n + 1) oo o t := ⟨by rw [p.2.2.1]; exact p.1, p.2.1, hB.same p.2.2.1 p.2.2.2⟩
theorem s94 (S : Sim ((F 8 1).toInt + 1) v F) (B : FB n F) (hn : n ≤ 600) : EC MR 94 [rf 8 1, .inl x, .inl y] F (SO (vtrunk v x y) (n + 1) (otrunk v x y)) := by
  by_cases hx : trok x y
  · exact (r94o S hx).mono (fun o t p => SO.same B p)
  · exact (r94x S hx).mono (fun o t p => SO.same B p)
theorem s97 (S : Sim ((F 8 1).toInt + 1) v F) (B : FB n F) (hn : n ≤ 600) (h5 : v.2.2.2 5 = 90 + v.2.2.2 4) : EC MR 97 [rf 8 1, .inl x, .inl p, .inl y, .inl u, .inl q] F (SO (vroute v x p y u q) (n + 1) (oroute v x p y u q)) := by
  by_cases hx : rtok x p y u q
  · obtain ⟨a, ha, rfl⟩ := n32 hx.1.1
    obtain ⟨w, hw, rfl⟩ := n32 hx.1.2.1
    by_cases hf : ∃ k : Nat, (k : Int) < (F 29 a).toInt ∧ F 30 (12 * a + k) = p
    · obtain ⟨k, h1, h2⟩ := hf
      exact (r97f S (by omega) (by omega) hx h1 h2).mono (fun o t p => SO.same B p)
    · exact (r97n S (by omega) (by omega) hx (fun k h1 h2 => hf ⟨k, h1, h2⟩) h5).mono (fun o t p => SO.same B p)
  · exact (r97x S hx).mono (fun o t p => SO.same B p)
theorem s98 (S : Sim ((F 8 1).toInt + 1) v F) (B : FB n F) (hn : n ≤ 600) : EC MR 98 [rf 8 1, .inl x, .inl y, .inl z] F (SO (vhunt v x y z) (n + 1) (ohunt v x y z)) := by
  by_cases hx : hnok x y z
  · obtain ⟨a, ha, rfl⟩ := n32 hx.1
    obtain ⟨w, hw, rfl⟩ := n32 hx.2.1
    obtain ⟨w', hw', rfl⟩ := n32 hx.2.2
    exact (r98o S (by omega) (by omega) (by omega)).mono (fun o t p => SO.same B p)
  · exact (r98x S hx).mono (fun o t p => SO.same B p)
theorem s110 (S : Sim ((F 8 1).toInt + 1) v F) (B : FB n F) (hn : n ≤ 600) : EC MR 110 [rf 8 1, .inl x, .inl y] F (SO (vlift v x y) (n + 1) (olift v x y)) := by
  by_cases hx : lnok x y
  · obtain ⟨a, ha, rfl⟩ := n32 hx.1
    obtain ⟨w, hw, rfl⟩ := n32 hx.2
    by_cases h22 : F 22 (24 * a + w) = 0
    · refine (r110o S (by omega) (by omega) h22 ⟨B.2.1, by have := B.2.2; omega⟩).mono (fun o t p => ⟨by rw [p.2.2.1]; exact p.1, p.2.1, ?_⟩)
      have h3 := p.2.2.2
      unfold FB at B ⊢
      rw [p.2.2.1]
      omega
    · exact (r110l S (by omega) (by omega) h22).mono (fun o t p => SO.same B p)
  · exact (r110x S hx).mono (fun o t p => SO.same B p)
theorem s111 (S : Sim ((F 8 1).toInt + 1) v F) (B : FB n F) (hn : n ≤ 600) : EC MR 111 [rf 8 1, .inl x, .inl y] F (SO (vhang v x y) (n + 1) (ohang v x y)) := by
  by_cases hx : lnok x y
  · obtain ⟨a, ha, rfl⟩ := n32 hx.1
    obtain ⟨w, hw, rfl⟩ := n32 hx.2
    by_cases h22 : F 22 (24 * a + w) = 0
    · exact (r111l S (by omega) (by omega) h22).mono (fun o t p => SO.same B p)
    · exact (r111o S (by omega) (by omega) h22).mono (fun o t p => SO.same B p)
  · exact (r111x S hx).mono (fun o t p => SO.same B p)
theorem s115 (S : Sim ((F 8 1).toInt + 1) v F) (B : FB n F) (hn : n ≤ 600) : EC MR 115 [rf 8 1, .inl x, .inl y, .inl z] F (SO (vdial v x y z) (n + 1) (odial v x y z)) := by
  by_cases hx : lnok x y ∧ (0 ≤ z.toInt ∧ z.toInt ≤ 9)
  · obtain ⟨a, ha, rfl⟩ := n32 hx.1.1
    obtain ⟨w, hw, rfl⟩ := n32 hx.1.2
    by_cases h22 : F 22 (24 * a + w) = 0
    · exact (r115l S (by omega) (by omega) hx.2 h22).mono (fun o t p => SO.same B p)
    · by_cases h47 : F 47 (24 * a + w) = 1
      · exact (r115o S (by omega) (by omega) hx.2 h22 h47 (by omega)).mono (fun o t p => SO.same B p)
      · exact (r115n S (by omega) (by omega) hx.2 h22 h47).mono (fun o t p => SO.same B p)
  · exact (r115x S hx).mono (fun o t p => SO.same B p)
theorem s129 (S : Sim ((F 8 1).toInt + 1) v F) (B : FB n F) (hn : n ≤ 600) : EC MR 129 [rf 8 1, .inl x] F (SO (vtick v x) (n + 1) (otick x)) := by
  by_cases hx : 1 ≤ x.toInt ∧ x.toInt ≤ 100
  · obtain ⟨a, ha, rfl⟩ := n32 (x := x) (k := 100) (by omega)
    have oa9 := ofN (n := a) (by omega)
    refine (r129o (D := 0) S (X := a) (by omega) B.1.1 (by have := B.1.2; omega)).mono (fun o t p => ⟨p.1, p.2.1, ?_⟩)
    have h3 := p.2.2
    unfold FB at B ⊢
    rw [h3.2]
    omega
  · exact (r129x S hx).mono (fun o t p => SO.same B p)
theorem s130 (S : Sim ((F 8 1).toInt + 1) v F) (B : FB n F) (hn : n ≤ 600) : EC MR 130 [rf 8 1, .inl x, .inl b] F (SO (vout v x b) (n + 1) (oout v x)) := by
  by_cases hx : 0 ≤ x.toInt ∧ x.toInt ≤ (Int32.ofNat (v.2.2.2 6) - 1).toInt
  · obtain ⟨a, ha, rfl⟩ := n32 hx
    have hT := S.1.tr.1
    have ht : a < v.2.2.2 6 := by
      by_cases h0 : v.2.2.2 6 = 0
      · rw [h0, show (Int32.ofNat 0 - 1).toInt = -1 from rfl] at ha
        omega
      · rw [ofN_p (by omega) (by omega)] at ha
        omega
    exact (r130o S ht).mono (fun o t p => SO.same B p)
  · exact (r130x S hx).mono (fun o t p => SO.same B p)
theorem s131 (S : Sim ((F 8 1).toInt + 1) v F) (B : FB n F) (hn : n ≤ 600) : EC MR 131 [rf 8 1, .inl x, .inl y, .inl b] F (SO (vhold v x y b) (n + 1) (ohold v x y)) := by
  by_cases hx : lnok x y
  · obtain ⟨a, ha, rfl⟩ := n32 hx.1
    obtain ⟨w, hw, rfl⟩ := n32 hx.2
    exact (r131o S (by omega) (by omega)).mono (fun o t p => SO.same B p)
  · exact (r131x S hx).mono (fun o t p => SO.same B p)
theorem s132 (S : Sim ((F 8 1).toInt + 1) v F) (B : FB n F) (hn : n ≤ 600) : EC MR 132 [rf 8 1, .inl x, .inl y] F (SO (v) (n + 1) (otone v x y)) := by
  by_cases hx : lnok x y
  · obtain ⟨a, ha, rfl⟩ := n32 hx.1
    obtain ⟨w, hw, rfl⟩ := n32 hx.2
    exact (r132o S (by omega) (by omega)).mono (fun o t p => SO.same B p)
  · exact (r132x S hx).mono (fun o t p => SO.same B p)
theorem s133 (S : Sim ((F 8 1).toInt + 1) v F) (B : FB n F) (hn : n ≤ 600) : EC MR 133 [rf 8 1, .inl x, .inl y] F (SO (v) (n + 1) (orings v x y)) := by
  by_cases hx : lnok x y
  · obtain ⟨a, ha, rfl⟩ := n32 hx.1
    obtain ⟨w, hw, rfl⟩ := n32 hx.2
    exact (r133o S (by omega) (by omega)).mono (fun o t p => SO.same B p)
  · exact (r133x S hx).mono (fun o t p => SO.same B p)
theorem s134 (S : Sim ((F 8 1).toInt + 1) v F) (B : FB n F) (hn : n ≤ 600) : EC MR 134 [rf 8 1, .inl x, .inl y] F (SO (v) (n + 1) (otalks v x y)) := by
  by_cases hx : lnok x y
  · obtain ⟨a, ha, rfl⟩ := n32 hx.1
    obtain ⟨w, hw, rfl⟩ := n32 hx.2
    exact (r134o S (by omega) (by omega)).mono (fun o t p => SO.same B p)
  · exact (r134x S hx).mono (fun o t p => SO.same B p)
theorem s135 (S : Sim ((F 8 1).toInt + 1) v F) (B : FB n F) (hn : n ≤ 600) : EC MR 135 [rf 8 1, .inl x, .inl y] F (SO (v) (n + 1) (ometer v x y)) := by
  by_cases hx : lnok x y
  · obtain ⟨a, ha, rfl⟩ := n32 hx.1
    obtain ⟨w, hw, rfl⟩ := n32 hx.2
    exact (r135o S (by omega) (by omega)).mono (fun o t p => SO.same B p)
  · exact (r135x S hx).mono (fun o t p => SO.same B p)
theorem s137 (S : Sim ((F 8 1).toInt + 1) v F) (B : FB n F) (hn : n ≤ 600) : EC MR 137 [rf 8 1, .inl x, .inl y] F (SO (v) (n + 1) (oidle v x y)) := by
  by_cases hx : (0 ≤ x.toInt ∧ x.toInt ≤ 2) ∧ (0 ≤ y.toInt ∧ y.toInt ≤ 5)
  · obtain ⟨a, ha, rfl⟩ := n32 hx.1
    obtain ⟨w, hw, rfl⟩ := n32 hx.2
    exact (r137o S (by omega) (by omega)).mono (fun o t p => SO.same B p)
  · exact (r137x S hx).mono (fun o t p => SO.same B p)
theorem s138 (S : Sim ((F 8 1).toInt + 1) v F) (B : FB n F) (hn : n ≤ 600) : EC MR 138 [rf 8 1, .inl x, .inl y] F (SO (v) (n + 1) (ooverflow v x y)) := by
  by_cases hx : (0 ≤ x.toInt ∧ x.toInt ≤ 2) ∧ (0 ≤ y.toInt ∧ y.toInt ≤ 2)
  · obtain ⟨a, ha, rfl⟩ := n32 hx.1
    obtain ⟨w, hw, rfl⟩ := n32 hx.2
    exact (r138o S (by omega) (by omega)).mono (fun o t p => SO.same B p)
  · exact (r138x S hx).mono (fun o t p => SO.same B p)
theorem s136 (S : Sim ((F 8 1).toInt + 1) v F) (B : FB n F) (hn : n ≤ 600) : EC MR 136 [rf 8 1, .inl x, .inl y, .inl z] F (fun _ t => Sim ((t 8 1).toInt + 1) v t ∧ FB (n + 1) t) := (r136 S).mono (fun _ t p => ⟨by rw [p.2.1]; exact p.1, B.same p.2.1 p.2.2⟩)
end XSO
