/-! what the executor's small functions come to -/
theorem xe_pop {β : Type} {S : List xv_V} {k : xv_V → List xv_V → Option β} {r : β} (h : xq_pop S k = some r) : ∃ v S', S = v :: S' ∧ k v S' = some r := by
  cases S with
  | nil => cases h
  | cons v S' => exact ⟨v, S', rfl, h⟩
theorem xe_cond {β : Type} {b : Bool} {x : Option β} {r : β} (h : cond b x none = some r) : b = true ∧ x = some r := by
  cases b with
  | false => cases h
  | true => exact ⟨rfl, h⟩
theorem xe_condN {β : Type} {b : Bool} {x : Option β} {r : β} (h : cond b none x = some r) : b = false ∧ x = some r := by
  cases b with
  | true => cases h
  | false => exact ⟨rfl, h⟩
theorem xe_and {a b : Bool} (h : and a b = true) : a = true ∧ b = true := by
  cases a <;> cases b <;> simp_all
theorem xe_or {a b : Bool} (h : or a b = true) : a = true ∨ b = true := by
  cases a <;> cases b <;> simp_all
theorem xe_beq {a b : Nat} (h : Nat.beq a b = true) : a = b := Nat.eq_of_beq_eq_true h
theorem xe_bne {a b : Nat} (h : Nat.beq a b = false) : a ≠ b := Nat.ne_of_beq_eq_false h
theorem xe_ble {a b : Nat} (h : Nat.ble a b = true) : a ≤ b := Nat.le_of_ble_eq_true h
theorem xe_nble {a b : Nat} (h : Nat.ble a b = false) : b < a := by
  rcases Nat.lt_or_ge b a with q | q
  · exact q
  · rw [Nat.ble_eq_true_of_le q] at h; cases h
theorem xe_one {β : Type} {v : xv_V} {k : Nat → Option β} {r : β} (h : xq_one v k = some r) : ∃ n, v = (0, n, n) ∧ k n = some r := by
  obtain ⟨t, a, b⟩ := v
  obtain ⟨h1, h3⟩ := xe_cond h
  obtain ⟨h2, h4⟩ := xe_cond h3
  have e1 : t = 0 := xe_beq h1
  have e2 : a = b := xe_beq h2
  subst e1; subst e2
  exact ⟨a, rfl, h4⟩
theorem xq_drop_eq {α : Type} (n : Nat) : ∀ l : List α, xq_drop n l = l.drop n := by
  induction n with
  | zero => intro l; rfl
  | succ n ih => intro l; cases l with
    | nil => rfl
    | cons a l => exact ih l
theorem xe_nth {α β : Type} {l : List α} {n : Nat} {k : α → Option β} {r : β} (h : xq_nth l n k = some r) : ∃ a, l[n]? = some a ∧ k a = some r := by
  unfold xq_nth at h
  rw [xq_drop_eq] at h
  cases hd : l.drop n with
  | nil => rw [hd] at h; cases h
  | cons a t =>
    rw [hd] at h
    refine ⟨a, ?_, h⟩
    have h1 : (l.drop n)[0]? = some a := by rw [hd]; rfl
    rw [List.getElem?_drop] at h1
    exact h1
theorem xq_set_eq {α : Type} (n : Nat) (v : α) : ∀ l : List α, xq_set l n v = l.set n v := by
  induction n with
  | zero => intro l; cases l <;> rfl
  | succ n ih => intro l; cases l with
    | nil => rfl
    | cons a l => show a :: xq_set l n v = a :: l.set n v; rw [ih l]
theorem xq_len_eq {α : Type} (l : List α) : xq_len l = l.length := by
  induction l with
  | nil => rfl
  | cons a l ih => show Nat.succ (xq_len l) = _; rw [ih]; rfl
theorem xq_rep_eq {α : Type} (n : Nat) (v : α) : xq_rep n v = List.replicate n v := by
  induction n with
  | zero => rfl
  | succ n ih => show v :: xq_rep n v = _; rw [ih]; rfl
theorem xq_app_eq {α : Type} (l r : List α) : xq_app l r = l ++ r := by
  induction l with
  | nil => rfl
  | cons a l ih => show a :: xq_app l r = _; rw [ih]; rfl
theorem xe_get {β : Type} {L : List (Nat × xv_V)} {i : Nat} {k : xv_V → Option β} {r : β} (h : xq_get L i k = some r) : ∃ (j : Nat) (v : xv_V), L[j]? = some (i, v) ∧ k v = some r := by
  induction L with
  | nil => cases h
  | cons a L ih =>
    have h' : cond (Nat.beq a.1 i) (k a.2) (xq_get L i k) = some r := h
    cases hb : Nat.beq a.1 i with
    | true =>
      rw [hb] at h'
      have := xe_beq hb
      exact ⟨0, a.2, by rw [← this]; rfl, h'⟩
    | false =>
      rw [hb] at h'
      obtain ⟨j, v, h1, h2⟩ := ih h'
      exact ⟨j + 1, v, h1, h2⟩
theorem xe_obj {β : Type} {h : List xv_O} {v : xv_V} {k : Nat → Nat → List xv_V → Option β} {r : β} (q : xq_obj h v k = some r) : v.1 = 1 ∧ ∃ t c es, h[v.2.1]? = some (t, c, es) ∧ k t c es = some r := by
  unfold xq_obj at q
  obtain ⟨h1, q⟩ := xe_cond q
  obtain ⟨o, h2, h3⟩ := xe_nth q
  exact ⟨xe_beq h1, o.1, o.2.1, o.2.2, h2, h3⟩
/-! an int as a number 2^31 above it, a long 2^63 above it -/
def xb (x : Int32) : Nat := (x.toInt + 2147483648).toNat
def xbl (x : Int64) : Nat := (x.toInt + 9223372036854775808).toNat
theorem xb_int (x : Int32) : (xb x : Int) = x.toInt + 2147483648 := by
  have h1 := Int32.le_toInt x
  unfold xb; omega
theorem xb_lt (x : Int32) : xb x < 4294967296 := by
  have h1 := Int32.toInt_lt x
  have h2 := xb_int x
  omega
theorem xbl_int (x : Int64) : (xbl x : Int) = x.toInt + 9223372036854775808 := by
  have h1 := Int64.le_toInt x
  unfold xbl; omega
theorem xbl_lt (x : Int64) : xbl x < 18446744073709551616 := by
  have h1 := Int64.toInt_lt x
  have h2 := xbl_int x
  omega
theorem xb_inj {x y : Int32} (h : xb x = xb y) : x = y := by
  have h1 := xb_int x
  have h2 := xb_int y
  exact Int32.toInt_inj.mp (by omega)
theorem xb_lt_iff (x y : Int32) : x < y ↔ xb x < xb y := by
  have h1 := xb_int x
  have h2 := xb_int y
  rw [Int32.lt_iff_toInt_lt]
  omega
theorem xb_le_iff (x y : Int32) : x ≤ y ↔ xb x ≤ xb y := by
  have h1 := xb_int x
  have h2 := xb_int y
  rw [Int32.le_iff_toInt_le]
  omega
theorem xb_add_eq (x y : Int32) : xb (x + y) = xb_add (xb x) (xb y) := by
  have h1 := xb_int x
  have h2 := xb_int y
  have h3 := xb_int (x + y)
  rw [Int32.toInt_add, Int.bmod_def] at h3
  unfold xb_add xq_B xq_M
  omega
theorem xb_sub_eq (x y : Int32) : xb (x - y) = xb_sub (xb x) (xb y) := by
  have h1 := xb_int x
  have h2 := xb_int y
  have h3 := xb_int (x - y)
  have h4 := xb_lt y
  rw [Int32.toInt_sub, Int.bmod_def] at h3
  unfold xb_sub xq_B xq_M
  omega
theorem xb_u_eq (x : Int32) : (xb_u (xb x) : Int) = x.toInt % 4294967296 := by
  have h1 := xb_int x
  unfold xb_u xq_B xq_M
  omega
theorem xb_u_nat (x : Int32) : xb_u (xb x) = x.toUInt32.toNat := by
  have h1 := xb_u_eq x
  have h2 : x.toUInt32.toNat = x.toBitVec.toNat := rfl
  have h3 : x.toInt = x.toBitVec.toInt := rfl
  have h4 := BitVec.toInt_eq_toNat_cond x.toBitVec
  have h5 := x.toBitVec.isLt
  rw [h3, h4] at h1
  rw [h2]
  split at h1 <;> omega
theorem xb_of_u (x : Int32) : xb x = xb_u (x.toUInt32.toNat) := by
  rw [← xb_u_nat]
  have := xb_lt x
  unfold xb_u xq_B xq_M
  omega
theorem xb_and_eq (x y : Int32) : xb (x &&& y) = xb_and (xb x) (xb y) := by
  rw [xb_of_u, xb_and, xb_u_nat, xb_u_nat]; rfl
theorem xb_or_eq (x y : Int32) : xb (x ||| y) = xb_or (xb x) (xb y) := by
  rw [xb_of_u, xb_or, xb_u_nat, xb_u_nat]; rfl
theorem xb_mul_eq (x y : Int32) : xb (x * y) = xb_mul (xb x) (xb y) := by
  rw [xb_of_u, xb_mul, xb_u_nat, xb_u_nat]
  have h : (x * y).toUInt32.toNat = x.toUInt32.toNat * y.toUInt32.toNat % 4294967296 := by
    show (x * y).toBitVec.toNat = x.toBitVec.toNat * y.toBitVec.toNat % 4294967296
    rw [Int32.toBitVec_mul, BitVec.toNat_mul]
  rw [h]
  unfold xb_u xq_B xq_M
  omega
theorem xb_ofInt {n : Nat} (h : n < 4294967296) : xb (Int32.ofInt ((n : Int) - 2147483648)) = n := by
  have h1 := xb_int (Int32.ofInt ((n : Int) - 2147483648))
  rw [Int32.toInt_ofInt_of_le (by omega) (by omega)] at h1
  omega
theorem xbl_add_eq (x y : Int64) : xbl (x + y) = xl_add (xbl x) (xbl y) := by
  have h1 := xbl_int x
  have h2 := xbl_int y
  have h3 := xbl_int (x + y)
  rw [Int64.toInt_add, Int.bmod_def] at h3
  unfold xl_add xq_BL xq_ML
  omega
theorem xl_u_nat (x : Int64) : xl_u (xbl x) = x.toUInt64.toNat := by
  have h1 : (xl_u (xbl x) : Int) = x.toInt % 18446744073709551616 := by
    have h1 := xbl_int x
    unfold xl_u xq_BL xq_ML
    omega
  have h2 : x.toUInt64.toNat = x.toBitVec.toNat := rfl
  have h3 : x.toInt = x.toBitVec.toInt := rfl
  have h4 := BitVec.toInt_eq_toNat_cond x.toBitVec
  have h5 := x.toBitVec.isLt
  rw [h3, h4] at h1
  rw [h2]
  split at h1 <;> omega
theorem xbl_of_u (x : Int64) : xbl x = xl_u (x.toUInt64.toNat) := by
  rw [← xl_u_nat]
  have := xbl_lt x
  unfold xl_u xq_BL xq_ML
  omega
theorem xbl_mul_eq (x y : Int64) : xbl (x * y) = xl_mul (xbl x) (xbl y) := by
  rw [xbl_of_u, xl_mul, xl_u_nat, xl_u_nat]
  have h : (x * y).toUInt64.toNat = x.toUInt64.toNat * y.toUInt64.toNat % 18446744073709551616 := by
    show (x * y).toBitVec.toNat = x.toBitVec.toNat * y.toBitVec.toNat % 18446744073709551616
    rw [Int64.toBitVec_mul, BitVec.toNat_mul]
  rw [h]
  unfold xl_u xq_BL xq_ML
  omega
theorem xbl_ofInt32 (x : Int32) : xbl x.toInt64 = xb x + (xq_BL - xq_B) := by
  have h1 := xbl_int x.toInt64
  have h2 := xb_int x
  rw [Int32.toInt_toInt64] at h1
  unfold xq_BL xq_B
  omega
theorem xbl_inj {x y : Int64} (h : xbl x = xbl y) : x = y := by
  have h1 := xbl_int x
  have h2 := xbl_int y
  exact Int64.toInt_inj.mp (by omega)
theorem xbl_lt_iff (x y : Int64) : x < y ↔ xbl x < xbl y := by
  have h1 := xbl_int x
  have h2 := xbl_int y
  rw [Int64.lt_iff_toInt_lt]
  omega
theorem xbl_ofNat {n : Nat} (h : n < 18446744073709551616) : xbl (Int64.ofInt ((n : Int) - 9223372036854775808)) = n := by
  have h1 := xbl_int (Int64.ofInt ((n : Int) - 9223372036854775808))
  rw [Int64.toInt_ofInt_of_le (by omega) (by omega)] at h1
  omega
/-- the index of a row -/
theorem xb_clamp {x : Int32} {n : Nat} (h : xb x = n) (h0 : 2147483648 ≤ n) : x.toNatClampNeg = n - 2147483648 ∧ ¬ x < 0 := by
  have h1 := xb_int x
  refine ⟨?_, ?_⟩
  · show x.toInt.toNat = _
    omega
  · rw [Int32.lt_iff_toInt_lt]
    show ¬ x.toInt < 0
    omega
theorem xb_in {x : Int32} {n N : Nat} (h : xb x = n) (h0 : 2147483648 ≤ n) (h1 : n - 2147483648 < N) : vp_in x N := by
  obtain ⟨e, hn⟩ := xb_clamp h h0
  rintro (q | q)
  · exact hn q
  · omega
theorem xb_ofNat {n : Nat} (h : n < 2147483648) : xb (Int32.ofNat n) = n + 2147483648 := by
  have h1 := xb_int (Int32.ofNat n)
  rw [show Int32.ofNat n = Int32.ofInt (n : Int) from rfl, Int32.toInt_ofInt_of_le (by omega) (by omega)] at h1
  rw [show Int32.ofNat n = Int32.ofInt (n : Int) from rfl]
  omega
theorem xb_0 : xb 0 = 2147483648 := by decide
theorem xb_shl_eq (x y : Int32) : xb (x <<< (y &&& 31)) = xb_shl (xb x) (xb y) := by
  rw [xb_of_u, xb_shl, xb_u_nat, xb_u_nat]
  have h : (x <<< (y &&& 31)).toUInt32.toNat = x.toUInt32.toNat * 2 ^ (y.toUInt32.toNat % 32) % 4294967296 := by
    have h1 : (y &&& 31).toUInt32.toNat = y.toUInt32.toNat % 32 := by
      show (y.toBitVec &&& (31 : Int32).toBitVec).toNat = _
      rw [BitVec.toNat_and]
      show y.toBitVec.toNat &&& 31 = y.toBitVec.toNat % 32
      exact Nat.and_two_pow_sub_one_eq_mod _ 5
    have h2 : (y &&& 31).toBitVec.toNat < 32 := by
      have : (y &&& 31).toBitVec.toNat = y.toUInt32.toNat % 32 := h1
      omega
    have h3 : (x <<< (y &&& 31)).toBitVec = x.toBitVec <<< ((y &&& 31).toBitVec.smod 32) := rfl
    have h4 : (y &&& 31).toBitVec.smod 32 = (y &&& 31).toBitVec := by
      generalize hz : (y &&& 31).toBitVec = z at h2
      have h7 : z.msb = false := by rw [BitVec.msb_eq_false_iff_two_mul_lt]; omega
      have h8 : (32#32).msb = false := by decide
      show z.smod 32#32 = z
      simp only [BitVec.smod, h7, h8]
      apply BitVec.eq_of_toNat_eq
      show (z % 32#32).toNat = z.toNat
      rw [BitVec.toNat_umod]
      exact Nat.mod_eq_of_lt h2
    show (x <<< (y &&& 31)).toBitVec.toNat = _
    rw [h3, h4, BitVec.shiftLeft_eq', BitVec.toNat_shiftLeft, Nat.shiftLeft_eq]
    have h5 : (y &&& 31).toBitVec.toNat = y.toUInt32.toNat % 32 := h1
    rw [h5]; rfl
  rw [h]
  unfold xb_u xq_B xq_M
  omega
