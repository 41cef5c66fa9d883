/-! rows of numbers, each index looked at: at, put, increment -/
def zrd (xs : List Int32) (k : Int32) : Int32 := if 0 ≤ k.toInt then xs.getD k.toInt.toNat 0 else 0
def zwr (xs : List Int32) (k x : Int32) : List Int32 := if 0 ≤ k.toInt then xs.set k.toInt.toNat x else xs
theorem z_ge0 {k : Int32} (h : zrel 2 k 0 = false) : 0 ≤ k.toInt := by
  have h1 : ¬ k < 0 := of_decide_eq_false h
  rcases Int.lt_or_le k.toInt 0 with q | q
  · exact absurd (Int32.lt_iff_toInt_lt.mpr q) h1
  · exact q
theorem z_lt0 {k : Int32} (h : zrel 2 k 0 = true) : ¬ 0 ≤ k.toInt := by
  have h1 : k < 0 := of_decide_eq_true h
  have h2 := Int32.lt_iff_toInt_lt.mp h1
  have h0 : (0 : Int32).toInt = 0 := rfl
  omega
theorem z_ofNat {m : Nat} (h : m ≤ 1048576) : (Int32.ofNat m).toInt = (m : Int) := by
  rw [show Int32.ofNat m = Int32.ofInt (m : Int) from rfl, Int32.toInt_ofInt_of_le (by omega) (by omega)]
theorem z_inLen {k : Int32} {m : Nat} (hm : m ≤ 1048576) (h0 : 0 ≤ k.toInt) (h : zrel 3 k (Int32.ofNat m) = false) : k.toInt.toNat < m := by
  have h1 : ¬ Int32.ofNat m ≤ k := of_decide_eq_false h
  have h2 := z_ofNat hm
  rcases Nat.lt_or_ge k.toInt.toNat m with q | q
  · exact q
  · exact absurd (Int32.le_iff_toInt_le.mpr (by omega)) h1
theorem z_outLen {k : Int32} {m : Nat} (hm : m ≤ 1048576) (h : zrel 3 k (Int32.ofNat m) = true) : m ≤ k.toInt.toNat := by
  have h1 : Int32.ofNat m ≤ k := of_decide_eq_true h
  have h2 := z_ofNat hm
  have h3 := Int32.le_iff_toInt_le.mp h1
  omega
section ZLf
variable {sc : List Int32} {n dd a : Nat} {H : Nat → zO} {xs : List Int32} {k x : Int32}
theorem m_at (ha : a < n) (hH : H a = .inr (.inl xs)) (hl : xs.length ≤ 1048576) : zP sc n (dd + 1) 2 [.ref a, .int k] H (some (.int (zrd xs k))) n H 0 := by
  refine g_meth (C := zg_c2) (W := zg_w2) (ml := 2) rfl rfl (Nat.le_of_ble_eq_true rfl) ?_
  refine r_ld (t := 0) rfl (Or.inl ⟨rfl, Or.inl rfl⟩) rfl rfl ?_
  refine g_br (q := 2) (by decide) rfl (fun hz => ?_) (fun hz => ?_)
  · refine r_ic (b := 0) rfl (by decide) (by decide) ?_
    have e : zrd xs k = 0 := if_neg (z_lt0 hz)
    rw [e]
    exact g_iret rfl rfl
  · refine r_ld (t := 0) rfl (Or.inl ⟨rfl, Or.inl rfl⟩) rfl rfl ?_
    refine r_ld (t := 2) rfl (Or.inr (Or.inl ⟨rfl, Or.inl rfl⟩)) rfl rfl ?_
    refine r_alen (m := xs.length) rfl ha (by rw [hH]; rfl) ?_
    refine g_cmp (q := 3) (by decide) rfl (fun hy => ?_) (fun hy => ?_)
    · refine r_ic (b := 0) rfl (by decide) (by decide) ?_
      have e : zrd xs k = 0 := by
        unfold zrd
        rw [if_pos (z_ge0 hz), List.getD_eq_getElem?_getD, List.getElem?_eq_none (z_outLen hl hy)]; rfl
      rw [e]
      exact g_iret rfl rfl
    · have hin := z_inLen hl (z_ge0 hz) hy
      refine r_ld (t := 2) rfl (Or.inr (Or.inl ⟨rfl, Or.inl rfl⟩)) rfl rfl ?_
      refine r_ld (t := 0) rfl (Or.inl ⟨rfl, Or.inl rfl⟩) rfl rfl ?_
      refine r_iald (xs := xs) (b := zrd xs k) rfl ha hH (z_ge0 hz) ?_ ?_
      · unfold zrd
        rw [if_pos (z_ge0 hz), List.getD_eq_getElem?_getD, List.getElem?_eq_getElem hin]; rfl
      refine g_go rfl ?_
      exact g_iret rfl rfl
theorem m_put (ha : a < n) (hH : H a = .inr (.inl xs)) (hl : xs.length ≤ 1048576) : zP sc n (dd + 1) 24 [.ref a, .int k, .int x] H none n (zU H a (.inr (.inl (zwr xs k x)))) 0 := by
  have same : zwr xs k x = xs → zU H a (.inr (.inl (zwr xs k x))) = H := fun e => by
    rw [e, ← hH]
    funext b
    unfold zU
    by_cases hb : b = a
    · rw [if_pos hb, hb]
    · rw [if_neg hb]
  refine g_meth (C := zg_c24) (W := zg_w24) (ml := 3) rfl rfl (Nat.le_of_ble_eq_true rfl) ?_
  refine r_ld (t := 0) rfl (Or.inl ⟨rfl, Or.inl rfl⟩) rfl rfl ?_
  refine g_br (q := 2) (by decide) rfl (fun hz => ?_) (fun hz => ?_)
  · rw [same (if_neg (z_lt0 hz))]
    exact g_vret rfl
  · refine r_ld (t := 0) rfl (Or.inl ⟨rfl, Or.inl rfl⟩) rfl rfl ?_
    refine r_ld (t := 2) rfl (Or.inr (Or.inl ⟨rfl, Or.inl rfl⟩)) rfl rfl ?_
    refine r_alen (m := xs.length) rfl ha (by rw [hH]; rfl) ?_
    refine g_cmp (q := 3) (by decide) rfl (fun hy => ?_) (fun hy => ?_)
    · rw [same (by unfold zwr; rw [if_pos (z_ge0 hz), List.set_eq_of_length_le (z_outLen hl hy)])]
      exact g_vret rfl
    · have hin := z_inLen hl (z_ge0 hz) hy
      refine r_ld (t := 2) rfl (Or.inr (Or.inl ⟨rfl, Or.inl rfl⟩)) rfl rfl ?_
      refine r_ld (t := 0) rfl (Or.inl ⟨rfl, Or.inl rfl⟩) rfl rfl ?_
      refine r_ld (t := 0) rfl (Or.inl ⟨rfl, Or.inl rfl⟩) rfl rfl ?_
      refine r_iast (xs := xs) rfl ha hH (z_ge0 hz) hin ?_
      have e : zwr xs k x = xs.set k.toInt.toNat x := if_pos (z_ge0 hz)
      rw [e]
      exact g_vret rfl
theorem r_dup2 {C : List zI} {W : List (List Nat)} {j pc ln x y z w : Nat} {L : zL} {S : List Value} {H' : Nat → zO} {v : Option Value} {b : Int32} {q n' q' : Nat} (hc : C[j]? = some (pc, ln, 35, x, y, z, w)) (hk : zG sc C W n dd (j + 1) L (.int b :: .ref q :: .int b :: .ref q :: S) H v n' H' q') : zG sc C W n dd j L (.int b :: .ref q :: S) H v n' H' q' :=
  g_step (L' := L) (S' := .int b :: .ref q :: .int b :: .ref q :: S) (H1 := H) hc rfl (fun d _ => rfl) hk
theorem m_increment (ha : a < n) (hH : H a = .inr (.inl xs)) (hl : xs.length ≤ 1048576) : zP sc n (dd + 1) 12 [.ref a, .int k] H none n (zU H a (.inr (.inl (zwr xs k (zrd xs k + 1))))) 0 := by
  have same : zwr xs k (zrd xs k + 1) = xs → zU H a (.inr (.inl (zwr xs k (zrd xs k + 1)))) = H := fun e => by
    rw [e, ← hH]
    funext b
    unfold zU
    by_cases hb : b = a
    · rw [if_pos hb, hb]
    · rw [if_neg hb]
  refine g_meth (C := zg_c12) (W := zg_w12) (ml := 2) rfl rfl (Nat.le_of_ble_eq_true rfl) ?_
  refine r_ld (t := 0) rfl (Or.inl ⟨rfl, Or.inl rfl⟩) rfl rfl ?_
  refine g_br (q := 2) (by decide) rfl (fun hz => ?_) (fun hz => ?_)
  · rw [same (if_neg (z_lt0 hz))]
    exact g_vret rfl
  · refine r_ld (t := 0) rfl (Or.inl ⟨rfl, Or.inl rfl⟩) rfl rfl ?_
    refine r_ld (t := 2) rfl (Or.inr (Or.inl ⟨rfl, Or.inl rfl⟩)) rfl rfl ?_
    refine r_alen (m := xs.length) rfl ha (by rw [hH]; rfl) ?_
    refine g_cmp (q := 3) (by decide) rfl (fun hy => ?_) (fun hy => ?_)
    · rw [same (by unfold zwr; rw [if_pos (z_ge0 hz), List.set_eq_of_length_le (z_outLen hl hy)])]
      exact g_vret rfl
    · have hin := z_inLen hl (z_ge0 hz) hy
      refine r_ld (t := 2) rfl (Or.inr (Or.inl ⟨rfl, Or.inl rfl⟩)) rfl rfl ?_
      refine r_ld (t := 0) rfl (Or.inl ⟨rfl, Or.inl rfl⟩) rfl rfl ?_
      refine r_dup2 rfl ?_
      refine r_iald (xs := xs) (b := zrd xs k) rfl ha hH (z_ge0 hz) ?_ ?_
      · unfold zrd
        rw [if_pos (z_ge0 hz), List.getD_eq_getElem?_getD, List.getElem?_eq_getElem hin]; rfl
      refine r_ic (b := 1) rfl (by decide) (by decide) ?_
      refine r_bin rfl (by decide) ?_
      refine r_iast (xs := xs) rfl ha hH (z_ge0 hz) hin ?_
      have e : zwr xs k (zrd xs k + 1) = xs.set k.toInt.toNat (zrd xs k + 1) := if_pos (z_ge0 hz)
      rw [e]
      exact g_vret rfl
end ZLf
