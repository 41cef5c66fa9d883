/-! sets as numbers, bit by bit -/
def tb (v : Int) (x : Nat) : Bool := (yi v).toBitVec.getLsbD x
section BtA
variable {a b c k v : Int} {x : Nat} {M : yM}
theorem tb_or : tb (ybin 27 a b) x = (tb a x || tb b x) := by
  unfold tb ybin
  rw [yi_w]
  show ((yi a ||| yi b).toBitVec).getLsbD x = _
  rw [Int32.toBitVec_or, BitVec.getLsbD_or]
theorem tb_and : tb (ybin 26 a b) x = (tb a x && tb b x) := by
  unfold tb ybin
  rw [yi_w]
  show ((yi a &&& yi b).toBitVec).getLsbD x = _
  rw [Int32.toBitVec_and, BitVec.getLsbD_and]
theorem tb_not (hx : x < 32) : tb (ybin 105 a (-1)) x = !tb a x := by
  unfold tb ybin
  rw [yi_w]
  show ((yi a ^^^ yi (-1)).toBitVec).getLsbD x = _
  rw [Int32.toBitVec_xor, BitVec.getLsbD_xor]
  have e : (yi (-1)).toBitVec = BitVec.allOnes 32 := rfl
  rw [e, BitVec.getLsbD_allOnes, decide_eq_true hx, Bool.xor_true]
theorem tb_shl : ∀ k : Nat, k < 13 → ∀ x : Nat, x < 32 → tb (ybin 28 1 (k : Int)) x = decide (x = k) := by decide +kernel
theorem tb_0 : tb 0 x = false := by
  unfold tb
  have e : (yi 0).toBitVec = 0#32 := rfl
  rw [e, BitVec.getLsbD_zero]
/-- a class at or below another one, by the bits -/
theorem tb_120 (hk : 0 ≤ k ∧ k < 13) : (f_120 M k c = 1) ↔ tb (yrd M 4 c) k.toNat = true := by
  have key : ∀ v : Int, (yw (ybin 26 (ybin 104 v k) 1) = 1) ↔ tb v k.toNat = true := by
    intro v
    have e1 : yi (ybin 26 (ybin 104 v k) 1) = (yi v >>> (yi k &&& 31)) &&& 1 := by
      unfold ybin
      rw [yi_w, yi_w]; rfl
    have e2 : ((yi v >>> (yi k &&& 31)) &&& 1).toBitVec = ((yi v).toBitVec.sshiftRight k.toNat) &&& 1#32 := by
      rw [Int32.toBitVec_and, Int32.toBitVec_shiftRight]
      have e3 : ∀ k : Nat, k < 13 → (((yi (k : Int) &&& 31).toBitVec).smod 32).toNat = k := by decide +kernel
      have e4 := e3 k.toNat (by omega)
      rw [Int.toNat_of_nonneg hk.1] at e4
      show ((yi v).toBitVec.sshiftRight (((yi k &&& 31).toBitVec).smod 32).toNat) &&& _ = _
      rw [e4]; rfl
    have e5 : yw (ybin 26 (ybin 104 v k) 1) = 1 ↔ ((yi v).toBitVec.sshiftRight k.toNat) &&& 1#32 = 1#32 := by
      rw [← e2, ← e1]
      constructor
      · intro h
        have h2 : yi (yw (ybin 26 (ybin 104 v k) 1)) = yi 1 := by rw [h]
        unfold yw at h2
        rw [yi_w] at h2
        rw [h2]; rfl
      · intro h
        have h2 : yi (ybin 26 (ybin 104 v k) 1) = yi 1 := Int32.toBitVec_inj.mp h
        unfold yw
        rw [h2]; rfl
    rw [e5]
    unfold tb
    constructor
    · intro h
      have h2 := congrArg (fun z => z.getLsbD 0) h
      simp only [BitVec.getLsbD_and, BitVec.getLsbD_sshiftRight] at h2
      rw [if_pos (by omega)] at h2
      simpa using h2
    · intro h
      apply BitVec.eq_of_getLsbD_eq
      intro i hi
      rw [BitVec.getLsbD_and, BitVec.getLsbD_sshiftRight]
      by_cases h0 : i = 0
      · subst h0
        rw [if_pos (by omega), Nat.add_zero, h]
        rfl
      · have e6 : (1#32).getLsbD i = false := by
          rw [BitVec.getLsbD_one]
          simp [h0]
        rw [e6, Bool.and_false]
  unfold f_120
  rw [yrel1]
  have e1 : yw 1 = 1 := rfl
  rw [e1]
  by_cases h : yw (ybin 26 (ybin 104 (yrd M 4 c) k) 1) = 1
  · rw [decide_eq_true h]
    exact ⟨fun _ => (key _).mp h, fun _ => rfl⟩
  · rw [decide_eq_false h]
    exact ⟨fun q => absurd q (by decide), fun q => absurd ((key _).mpr q) h⟩
end BtA
