/-! more rules; below, cell, operand -/
section HrB
variable {sc : List Int32} {C : List zI} {W : List (List Nat)} {n q dd j : Nat} {L : zL} {S : List Value} {H : Nat → zO} {Q : Option Value → Nat → Nat → (Nat → zO) → Prop} {pc ln op x y z w a d m t k : Nat} {u u2 : Value} {v b c i : Int} {xs : List Int32}
theorem h_step {L' : zL} {S' : List Value} {H1 : Nat → zO} (hc : C[j]? = some (pc, ln, op, x, y, z, w)) (hn : (or (Nat.ble op 51) (and (Nat.ble 102 op) (Nat.ble op 111))) = true) (h1 : ∀ d, dd ≤ d → z1 sc d op x y z L S (zh n H) = some (L', S', zh n H1)) (hk : hG sc C W dd (j + 1) L' S' n q H1 Q) : hG sc C W dd j L S n q H Q := h_lift hk fun _ _ _ _ h => g_step hc hn h1 h
theorem h_dup2 (hc : C[j]? = some (pc, ln, 35, x, y, z, w)) (hu : ((∃ q, u = .int q) ∨ ∃ q, u = .ref q) ∧ ((∃ q, u2 = .int q) ∨ ∃ q, u2 = .ref q)) (hk : hG sc C W dd (j + 1) L (u :: u2 :: u :: u2 :: S) n q H Q) : hG sc C W dd j L (u :: u2 :: S) n q H Q :=
  h_step hc rfl (fun d _ => by rcases hu with ⟨⟨q, rfl⟩ | ⟨q, rfl⟩, ⟨q, rfl⟩ | ⟨q, rfl⟩⟩ <;> rfl) hk
theorem h_lcmp {p1 p2 : Int64} (hc : C[j]? = some (pc, ln, 32, x, y, z, w)) (hk : hG sc C W dd (j + 1) L (.int (lg_cmp p1 p2) :: S) n q H Q) : hG sc C W dd j L (.long p2 :: .long p1 :: S) n q H Q :=
  h_step hc rfl (fun d _ => rfl) hk
theorem h_oini (hc : C[j]? = some (pc, ln, 51, x, y, z, w)) (ha : a < n) (hd : 1 ≤ dd) (h4 : zwd S ≤ 8) (hk : hG sc C W dd (j + 1) L S n q H Q) : hG sc C W dd j L (.ref a :: S) n q H Q := by
  refine h_step hc rfl (fun d hdd => ?_) hk
  show zq_b (and (decide (a < (zh n H).length)) (and (Nat.ble 1 d) (Nat.ble (zwd S) 8))) _ = _
  rw [zh_len, decide_eq_true ha, Nat.ble_eq_true_of_le (by omega : 1 ≤ d), Nat.ble_eq_true_of_le h4]; rfl
theorem h_zald {b : Int32} (hc : C[j]? = some (pc, ln, 107, x, y, z, w)) (ha : a < n) (hH : H a = .inr (.inr (.inl xs))) (hk32 : k ≤ 1048576) (h1 : xs[k]? = some b) (hk : hG sc C W dd (j + 1) L (.int b :: S) n q H Q) : hG sc C W dd j L (.int (yi (k : Int)) :: .ref a :: S) n q H Q := by
  have e : (yi (k : Int)).toInt = (k : Int) := yw_of (by omega) (by omega)
  refine h_step hc rfl (fun d _ => ?_) hk
  show zq_z (zh n H) a (fun xs => zq_x (yi (k : Int)) xs.length fun j => zq_n xs j fun x => some (L, .int x :: S, zh n H)) = _
  unfold zq_z
  rw [zh_get ha, hH]
  show zq_x (yi (k : Int)) xs.length _ = _
  rw [z_idx (by rw [e]; omega) (by rw [e, Int.toNat_natCast]; exact (List.getElem?_eq_some_iff.mp h1).1), e, Int.toNat_natCast]
  unfold zq_n
  rw [h1]
theorem h_zast (hc : C[j]? = some (pc, ln, 108, x, y, z, w)) (ha : a < n) (hH : H a = .inr (.inr (.inl xs))) (hk32 : k ≤ 1048576) (h1 : k < xs.length) (hb : b = 0 ∨ b = 1) (hk : hG sc C W dd (j + 1) L S n q (zU H a (.inr (.inr (.inl (xs.set k (yi b)))))) Q) : hG sc C W dd j L (.int (yi b) :: .int (yi (k : Int)) :: .ref a :: S) n q H Q := by
  have e : (yi (k : Int)).toInt = (k : Int) := yw_of (by omega) (by omega)
  refine h_step hc rfl (fun d _ => ?_) hk
  show zq_z (zh n H) a (fun xs => zq_x (yi (k : Int)) xs.length fun j => zq_b (or (yi b == 0) (yi b == 1)) (some (L, S, (zh n H).set a (.inr (.inr (.inl (xs.set j (yi b)))))))) = _
  unfold zq_z
  rw [zh_get ha, hH]
  show zq_x (yi (k : Int)) xs.length _ = _
  rw [z_idx (by rw [e]; omega) (by rw [e, Int.toNat_natCast]; exact h1), e, Int.toNat_natCast]
  have e2 : (or (yi b == 0) (yi b == 1)) = true := by rcases hb with rfl | rfl <;> rfl
  rw [e2, ← zh_set]; rfl
theorem h_aast {ys : List (Option Nat)} (hc : C[j]? = some (pc, ln, 47, x, y, z, w)) (ha : a < n) (hH : H a = .inr (.inr (.inr (4, ys)))) (hk32 : k ≤ 1048576) (h1 : k < ys.length) (hd : d < n) (hHd : H d = .inr (.inl xs)) (hk : hG sc C W dd (j + 1) L S n q (zU H a (.inr (.inr (.inr (4, ys.set k (some d)))))) Q) : hG sc C W dd j L (.ref d :: .int (yi (k : Int)) :: .ref a :: S) n q H Q := by
  have e : (yi (k : Int)).toInt = (k : Int) := yw_of (by omega) (by omega)
  refine h_step hc rfl (fun dx _ => ?_) hk
  show zq_q (zh n H) a (fun t xs => zq_x (yi (k : Int)) xs.length fun j => zq_m (zel (zh n H) t (.ref d)) fun x => some (L, S, (zh n H).set a (.inr (.inr (.inr (t, xs.set j x)))))) = _
  unfold zq_q
  rw [zh_get ha, hH]
  show zq_x (yi (k : Int)) ys.length _ = _
  rw [z_idx (by rw [e]; omega) (by rw [e, Int.toNat_natCast]; exact h1), e, Int.toNat_natCast]
  have e2 : zel (zh n H) 4 (.ref d) = some (some d) := by
    show cond (zisA (zh n H) d) (some (some d)) none = _
    unfold zisA
    rw [zh_get hd, hHd]; rfl
  rw [e2, ← zh_set]; rfl
theorem h_copy {ys : List Int32} (hc : C[j]? = some (pc, ln, 109, x, y, z, w)) (ha : a < n) (hb : d < n) (hH : H a = .inr (.inl xs)) (hHd : H d = .inr (.inl ys)) (hm : m ≤ 1048576) (h1 : m ≤ xs.length) (h2 : m ≤ ys.length) (hd : 1 ≤ dd) (h4 : zwd S ≤ 8) (hk : hG sc C W dd (j + 1) L S n q (zU H d (.inr (.inl (zcpy xs ys 0 0 m)))) Q) : hG sc C W dd j L (.int (yi (m : Int)) :: .int (yi 0) :: .ref d :: .int (yi 0) :: .ref a :: S) n q H Q := by
  have e : (yi (m : Int)).toInt = (m : Int) := yw_of (by omega) (by omega)
  have e0 : (yi 0).toInt = 0 := rfl
  refine h_step hc rfl (fun dx hdx => ?_) hk
  show zq_b (and (and (decide (0 ≤ (yi (m : Int)).toInt)) (and (decide (0 ≤ (yi 0).toInt)) (decide (0 ≤ (yi 0).toInt)))) (and (Nat.ble 1 dx) (Nat.ble (zwd S) 8))) (zq_m (zcopy (zh n H) a (yi 0).toInt.toNat d (yi 0).toInt.toNat (yi (m : Int)).toInt.toNat) fun h' => some (L, S, h')) = _
  rw [e, e0, Nat.ble_eq_true_of_le (by omega : 1 ≤ dx), Nat.ble_eq_true_of_le h4, decide_eq_true (by omega : (0 : Int) ≤ (m : Int)), Int.toNat_natCast]
  show zq_m (zcopy (zh n H) a 0 d 0 m) _ = _
  unfold zcopy
  rw [zh_get ha, zh_get hb, hH, hHd]
  show zq_m (zq_b (and (decide (0 + m ≤ xs.length)) (decide (0 + m ≤ ys.length))) (some ((zh n H).set d (.inr (.inl (zcpy xs ys 0 0 m)))))) _ = _
  rw [decide_eq_true (by omega), decide_eq_true (by omega), zh_set]; rfl
theorem h_copyR {xs ys : List (Option Nat)} (hc : C[j]? = some (pc, ln, 109, x, y, z, w)) (ha : a < n) (hb : d < n) (hH : H a = .inr (.inr (.inr (4, xs)))) (hHd : H d = .inr (.inr (.inr (4, ys)))) (hall : ∀ r ∈ xs, ∃ g zs, r = some g ∧ g < n ∧ H g = .inr (.inl zs)) (hm : m ≤ 1048576) (h1 : m ≤ xs.length) (h2 : m ≤ ys.length) (hd : 1 ≤ dd) (h4 : zwd S ≤ 8) (hk : hG sc C W dd (j + 1) L S n q (zU H d (.inr (.inr (.inr (4, zcpy xs ys 0 0 m))))) Q) : hG sc C W dd j L (.int (yi (m : Int)) :: .int (yi 0) :: .ref d :: .int (yi 0) :: .ref a :: S) n q H Q := by
  have e : (yi (m : Int)).toInt = (m : Int) := yw_of (by omega) (by omega)
  have e0 : (yi 0).toInt = 0 := rfl
  refine h_step hc rfl (fun dx hdx => ?_) hk
  show zq_b (and (and (decide (0 ≤ (yi (m : Int)).toInt)) (and (decide (0 ≤ (yi 0).toInt)) (decide (0 ≤ (yi 0).toInt)))) (and (Nat.ble 1 dx) (Nat.ble (zwd S) 8))) (zq_m (zcopy (zh n H) a (yi 0).toInt.toNat d (yi 0).toInt.toNat (yi (m : Int)).toInt.toNat) fun h' => some (L, S, h')) = _
  rw [e, e0, Nat.ble_eq_true_of_le (by omega : 1 ≤ dx), Nat.ble_eq_true_of_le h4, decide_eq_true (by omega : (0 : Int) ≤ (m : Int)), Int.toNat_natCast]
  show zq_m (zcopy (zh n H) a 0 d 0 m) _ = _
  unfold zcopy
  rw [zh_get ha, zh_get hb, hH, hHd]
  show zq_m (zq_b (and (and (Nat.beq 4 4) (Nat.beq 4 4)) (and (and (decide (0 + m ≤ xs.length)) (decide (0 + m ≤ ys.length))) (zallA (zh n H) xs))) (some ((zh n H).set d (.inr (.inr (.inr (4, zcpy xs ys 0 0 m))))))) _ = _
  have e3 : zallA (zh n H) xs = true := List.all_eq_true.mpr fun r hr => by
    obtain ⟨g, zs, rfl, hg, hz⟩ := hall r hr
    show zisA (zh n H) g = true
    unfold zisA
    rw [zh_get hg, hz]
  rw [decide_eq_true (by omega), decide_eq_true (by omega), e3, zh_set]; rfl
end HrB
/-- the last bits of a number, and what is left by a division -/
theorem lw_and (v : Int32) : ∃ r : Int, zbin 26 v (yi 2147483647) = yi r ∧ 0 ≤ r ∧ r ≤ 2147483647 := by
  refine ⟨(v &&& yi 2147483647).toInt, yi_w.symm, ?_, ?_⟩
  · have h : (v &&& yi 2147483647).toBitVec.msb = false := by
      rw [Int32.toBitVec_and, BitVec.msb_and]
      have : (yi 2147483647).toBitVec.msb = false := by decide
      rw [this, Bool.and_false]
    show 0 ≤ (v &&& yi 2147483647).toBitVec.toInt
    rw [BitVec.toInt_eq_msb_cond, h]
    exact Int.natCast_nonneg _
  · have := Int32.toInt_le (v &&& yi 2147483647)
    have e : Int32.maxValue.toInt = 2147483647 := rfl
    omega
theorem lw_rem {x : Int} {m : Int} (hx : 0 ≤ x ∧ x ≤ 2147483647) (hm : 1 ≤ m ∧ m ≤ 2147483647) : zrem (yi x) (yi m) = yi (x % m) := by
  unfold zrem
  have e : yi x / yi m = yi (x / m) := by
    have h := Int32.ofInt_tdiv (a := x) (b := m) (by have : Int32.minValue.toInt = -2147483648 := rfl; omega) (by have : Int32.maxValue.toInt = 2147483647 := rfl; omega) (by have : Int32.minValue.toInt = -2147483648 := rfl; omega) (by have : Int32.maxValue.toInt = 2147483647 := rfl; omega)
    rw [Int.tdiv_eq_ediv_of_nonneg hx.1] at h
    exact h.symm
  rw [e, show yi (x / m) * yi m = yi (x / m * m) from (Int32.ofInt_mul _ _).symm, show yi x - yi (x / m * m) = yi (x - x / m * m) from (Int32.ofInt_sub _ _).symm]
  congr 1
  have := Int.emod_def x m
  rw [this, Int.mul_comm]
