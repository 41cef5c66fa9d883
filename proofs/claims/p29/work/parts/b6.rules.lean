/-! calls of the class, as rules -/
section HrO
variable {sc : List Int32} {C : List zI} {W : List (List Nat)} {n q dd j e e' cc cc' tr : Nat} {L : zL} {S as : List Value} {H : Nat → zO} {Q : Option Value → Nat → Nat → (Nat → zO) → Prop} {pc ln op x y z w : Nat} {M M' P : yM} {c rw ro : Nat → Nat} {b d : Int} {w' : Value}
theorem sI_mono (h : sI H n q M e) (he : e ≤ e') : sI H n q M e' := by
  obtain ⟨h1, h2, h3, h4, h5, h6⟩ := h
  exact ⟨h1, h2, h3, h4, by omega, by omega⟩
theorem h_mul (hc : C[j]? = some (pc, ln, 25, x, y, z, w)) (hk : hG sc C W dd (j + 1) L (.int (yi (b * d)) :: S) n q H Q) : hG sc C W dd j L (.int (yi d) :: .int (yi b) :: S) n q H Q := h_lift hk fun _ _ _ _ h => r_bin hc (by decide) (by show zG sc C W n dd (j + 1) L (.int (yi b * yi d) :: S) H _ _ _ _; rw [show yi b * yi d = yi (b * d) from (Int32.ofInt_mul b d).symm]; exact h)
theorem h_binw (hc : C[j]? = some (pc, ln, op, x, y, z, w)) (ho : op = 23 ∨ op = 24 ∨ op = 25 ∨ op = 26 ∨ op = 27 ∨ op = 28 ∨ op = 104 ∨ op = 105) (hk : hG sc C W dd (j + 1) L (.int (yi (ybin op b d)) :: S) n q H Q) : hG sc C W dd j L (.int (yi d) :: .int (yi b) :: S) n q H Q := h_lift hk fun _ _ _ _ h => r_bin hc ho (by unfold ybin at h; rw [yi_w] at h; exact h)
theorem h_cls (hc : C[j]? = some (pc, ln, op, x, y, 9, w)) (ho : op = 98 ∨ op = 99 ∨ op = 100) (hl : as.length = y) (h4 : zwd S ≤ 8) (hW : wI H n M cc tr) (hO : oN H n tr P c rw ro) (hC : yP sc dd x (.ref 0 :: as) M cc (some (M', cc', some w'))) (hk : ∀ (n1 q1 : Nat) (H1 : Nat → zO) (tr1 : Nat), wI H1 n1 M' cc' tr1 → oN H1 n1 tr1 P c rw ro → (n1 : Int) - n ≤ M' 21 2 - M 21 2 → (q1 : Int) - q ≤ 2 * (M' 21 2 - M 21 2) → n ≤ n1 → hG sc C W dd (j + 1) L (w' :: S) n1 q1 H1 Q) : hG sc C W dd j L (as.reverse ++ .ref 0 :: S) n q H Q := by
  have h416 := hW.1.1
  refine h_obj (a := 0) (fs := yfl M cc tr 0 [5, 22, 25, 27, 100, 200, 310, 0, 0, 0, 0, 0]) hc ho hl h4 (by omega) (by rw [hW.2]; exact yst_obj rfl) (y_call (q := q) hC hW) ?_
  rintro u n1 q1 H1 ⟨rfl, tr1, g1, g2, g3, g4, g5, g6⟩
  exact hk n1 q1 H1 tr1 g1 (oN_keep hO g2 g3 g4) g5 g6 g2
end HrO
theorem sB_lt {r : Int} {k : Nat} (h : 0 ≤ r ∧ r < 2 ^ k) (hk : k ≤ 13) : sB (k : Int) r := by
  obtain ⟨m, rfl⟩ : ∃ m : Nat, r = (m : Int) := ⟨r.toNat, by omega⟩
  have hm : m < 2 ^ k := by
    have h2 := h.2
    have e : ((2 : Int)) ^ k = ((2 ^ k : Nat) : Int) := (Int.natCast_pow 2 k).symm
    rw [e] at h2
    exact Int.ofNat_lt.mp h2
  have h13 : 2 ^ k ≤ 2 ^ 13 := Nat.pow_le_pow_right (by decide) hk
  refine ⟨⟨by omega, by omega⟩, fun x hx h32 => ?_⟩
  show (BitVec.ofInt 32 (m : Int)).getLsbD x = false
  rw [BitVec.ofInt_natCast, BitVec.getLsbD_ofNat, Nat.testBit_lt_two_pow (Nat.lt_of_lt_of_le hm (Nat.pow_le_pow_right (by decide) (by omega))), Bool.and_false]
