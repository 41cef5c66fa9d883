/-! methods by hand: fill, codeAt, placeAt, the table -/
section YHa
variable {sc : List Int32} {C : List zI} {W : List (List Nat)} {dd j : Nat} {L L' : zL} {S S' : List Value} {M M1 : yM} {cc : Nat} {r : Option yR} {pc ln op x y z w a c t : Nat} {b d i k : Int}
theorem e_brT {q : Nat} (hq : q ≤ 5) (hc : C[j]? = some (pc, ln, 64 + q, x, y, z, w)) (hz : yrel q b 0 = true) (hk : yW sc C W dd x L S M cc r) : yW sc C W dd j L (.int (yi b) :: S) M cc r :=
  e_br (α := Unit) (X := ()) (Y := ()) (fun _ => r) hq hc (fun _ => hk) (fun h => by rw [hz] at h; cases h)
theorem e_brF {q : Nat} (hq : q ≤ 5) (hc : C[j]? = some (pc, ln, 64 + q, x, y, z, w)) (hz : yrel q b 0 = false) (hk : yW sc C W dd (j + 1) L S M cc r) : yW sc C W dd j L (.int (yi b) :: S) M cc r :=
  e_br (α := Unit) (X := ()) (Y := ()) (fun _ => r) hq hc (fun h => by rw [hz] at h; cases h) (fun _ => hk)
theorem e_cmpT {q : Nat} (hq : q ≤ 5) (hc : C[j]? = some (pc, ln, 70 + q, x, y, z, w)) (hz : yrel q b d = true) (hk : yW sc C W dd x L S M cc r) : yW sc C W dd j L (.int (yi d) :: .int (yi b) :: S) M cc r :=
  e_cmp (α := Unit) (X := ()) (Y := ()) (fun _ => r) hq hc (fun _ => hk) (fun h => by rw [hz] at h; cases h)
theorem e_cmpF {q : Nat} (hq : q ≤ 5) (hc : C[j]? = some (pc, ln, 70 + q, x, y, z, w)) (hz : yrel q b d = false) (hk : yW sc C W dd (j + 1) L S M cc r) : yW sc C W dd j L (.int (yi d) :: .int (yi b) :: S) M cc r :=
  e_cmp (α := Unit) (X := ()) (Y := ()) (fun _ => r) hq hc (fun h => by rw [hz] at h; cases h) (fun _ => hk)
theorem yrel2 : yrel 2 b d = decide (yw b < yw d) := by
  show decide (yi b < yi d) = _
  exact decide_eq_decide.mpr Int32.lt_iff_toInt_lt
theorem yrel3 : yrel 3 b d = decide (yw d ≤ yw b) := by
  show decide (yi d ≤ yi b) = _
  exact decide_eq_decide.mpr Int32.le_iff_toInt_le
theorem yrel4 : yrel 4 b d = decide (yw d < yw b) := by
  show decide (yi d < yi b) = _
  exact decide_eq_decide.mpr Int32.lt_iff_toInt_lt
theorem yrel5 : yrel 5 b d = decide (yw b ≤ yw d) := by
  show decide (yi b ≤ yi d) = _
  exact decide_eq_decide.mpr Int32.le_iff_toInt_le
theorem yi_inj : yi b = yi d ↔ yw b = yw d := Int32.toInt_inj.symm
theorem yrel0 : yrel 0 b d = decide (yw b = yw d) := by
  show decide (yi b = yi d) = _
  exact decide_eq_decide.mpr yi_inj
theorem yrel1 : yrel 1 b d = !decide (yw b = yw d) := congrArg not yrel0
/-- the number of a row of references that an int stands for; the first one's if it is none -/
def ypz (n : Nat) (k : Int) : Nat := if 0 ≤ yw k ∧ (yw k).toNat < n then (yw k).toNat else 0
theorem ypz_lt {n : Nat} (h : 0 < n) : ypz n k < n := by
  unfold ypz
  split
  · omega
  · exact h
theorem e_aaldT {n0 t0 b0 s0 e : Nat} (hc : C[j]? = some (pc, ln, 46, x, y, z, w)) (hq : zqr a = some (n0, t0, b0, s0)) (h0 : yw i = (e : Int)) (h1 : e < n0) (hk : yW sc C W dd (j + 1) L (.ref (b0 + s0 * e) :: S) M cc r) : yW sc C W dd j L (.int (yi i) :: .ref a :: S) M cc r := by
  have key : yox (β := Unit) i n0 (fun e' => if e' = e then some () else none) = some () := by
    unfold yox
    rw [if_pos (by omega)]
    exact if_pos (by omega)
  cases hr : r with
  | none => exact y_none
  | some R =>
    have := e_aald (α := Unit) (h := fun _ => R) (K := fun e' => if e' = e then some () else none) (i := i) (L := L) (S := S) (M := M) (cc := cc) (sc := sc) (W := W) (dd := dd) hc hq (fun e' he' => by
      by_cases q : e' = e
      · subst q; rw [if_pos rfl]; rw [hr] at hk; exact hk
      · rw [if_neg q]; exact y_none)
    rw [key] at this
    exact this
theorem t_5 (hd : 1 ≤ dd) : yP sc dd 5 [.ref 23, .int (yi k)] M cc (some (M, cc, some (.ref (24 + 9 * ypz 8 k)))) := by
  obtain ⟨dd, rfl⟩ : ∃ e, dd = e + 1 := ⟨dd - 1, by omega⟩
  refine e_meth (C := zg_c5) (W := zg_w5) (ml := 2) rfl rfl (Nat.le_of_ble_eq_true rfl) ?_
  refine e_ld (t := 2) rfl (Or.inr (Or.inl ⟨rfl, Or.inl rfl⟩)) rfl rfl ?_
  refine e_ld (t := 0) rfl (Or.inl ⟨rfl, Or.inl rfl⟩) rfl rfl ?_
  have e8 : yw 8 = 8 := rfl
  have e0 : yw 0 = 0 := rfl
  cases h1 : yrel 2 k 0 with
  | true =>
    refine e_brT (q := 2) (by decide) rfl h1 ?_
    refine e_ic (b := 0) rfl (by decide) (by decide) ?_
    have h2 := of_decide_eq_true (yrel2 ▸ h1)
    refine e_aaldT (e := 0) rfl (show zqr 23 = some (8, 1, 24, 9) from rfl) rfl (by decide) ?_
    rw [show ypz 8 k = 0 from if_neg (by omega)]
    exact e_aret rfl
  | false =>
    refine e_brF (q := 2) (by decide) rfl h1 ?_
    have h2 := of_decide_eq_false (yrel2 ▸ h1)
    refine e_ld (t := 0) rfl (Or.inl ⟨rfl, Or.inl rfl⟩) rfl rfl ?_
    refine e_ld (t := 2) rfl (Or.inr (Or.inl ⟨rfl, Or.inl rfl⟩)) rfl rfl ?_
    refine e_alen (m := 8) rfl (fun _ _ _ _ => rfl) (by decide) (by decide) ?_
    cases h3 : yrel 3 k 8 with
    | true =>
      refine e_cmpT (q := 3) (by decide) rfl h3 ?_
      have h4 := of_decide_eq_true (yrel3 ▸ h3)
      refine e_ic (b := 0) rfl (by decide) (by decide) ?_
      refine e_aaldT (e := 0) rfl (show zqr 23 = some (8, 1, 24, 9) from rfl) rfl (by decide) ?_
      rw [show ypz 8 k = 0 from if_neg (by omega)]
      exact e_aret rfl
    | false =>
      refine e_cmpF (q := 3) (by decide) rfl h3 ?_
      have h4 := of_decide_eq_false (yrel3 ▸ h3)
      refine e_ld (t := 0) rfl (Or.inl ⟨rfl, Or.inl rfl⟩) rfl rfl ?_
      refine e_go rfl ?_
      refine e_aaldT (e := (yw k).toNat) rfl (show zqr 23 = some (8, 1, 24, 9) from rfl) (by omega) (by omega) ?_
      rw [show ypz 8 k = (yw k).toNat from if_pos (by omega)]
      exact e_aret rfl
theorem t_68 (hd : 1 ≤ dd) : yP sc dd 68 [.ref 96, .int (yi k)] M cc (some (M, cc, some (.ref (105 + 1 * ypz 91 k)))) := by
  obtain ⟨dd, rfl⟩ : ∃ e, dd = e + 1 := ⟨dd - 1, by omega⟩
  refine e_meth (C := zg_c68) (W := zg_w68) (ml := 2) rfl rfl (Nat.le_of_ble_eq_true rfl) ?_
  refine e_ld (t := 2) rfl (Or.inr (Or.inl ⟨rfl, Or.inl rfl⟩)) rfl rfl ?_
  refine e_get (a := 96) rfl rfl rfl (fun _ => rfl) ?_
  refine e_ld (t := 0) rfl (Or.inl ⟨rfl, Or.inl rfl⟩) rfl rfl ?_
  have e8 : yw 91 = 91 := rfl
  have e0 : yw 0 = 0 := rfl
  cases h1 : yrel 2 k 0 with
  | true =>
    refine e_brT (q := 2) (by decide) rfl h1 ?_
    refine e_ic (b := 0) rfl (by decide) (by decide) ?_
    have h2 := of_decide_eq_true (yrel2 ▸ h1)
    refine e_aaldT (e := 0) rfl (show zqr 97 = some (91, 2, 105, 1) from rfl) rfl (by decide) ?_
    rw [show ypz 91 k = 0 from if_neg (by omega)]
    exact e_aret rfl
  | false =>
    refine e_brF (q := 2) (by decide) rfl h1 ?_
    have h2 := of_decide_eq_false (yrel2 ▸ h1)
    refine e_ld (t := 0) rfl (Or.inl ⟨rfl, Or.inl rfl⟩) rfl rfl ?_
    refine e_ld (t := 2) rfl (Or.inr (Or.inl ⟨rfl, Or.inl rfl⟩)) rfl rfl ?_
    refine e_get (a := 96) rfl rfl rfl (fun _ => rfl) ?_
    refine e_alen (m := 91) rfl (fun _ _ _ _ => rfl) (by decide) (by decide) ?_
    cases h3 : yrel 3 k 91 with
    | true =>
      refine e_cmpT (q := 3) (by decide) rfl h3 ?_
      have h4 := of_decide_eq_true (yrel3 ▸ h3)
      refine e_ic (b := 0) rfl (by decide) (by decide) ?_
      refine e_aaldT (e := 0) rfl (show zqr 97 = some (91, 2, 105, 1) from rfl) rfl (by decide) ?_
      rw [show ypz 91 k = 0 from if_neg (by omega)]
      exact e_aret rfl
    | false =>
      refine e_cmpF (q := 3) (by decide) rfl h3 ?_
      have h4 := of_decide_eq_false (yrel3 ▸ h3)
      refine e_ld (t := 0) rfl (Or.inl ⟨rfl, Or.inl rfl⟩) rfl rfl ?_
      refine e_go rfl ?_
      refine e_aaldT (e := (yw k).toNat) rfl (show zqr 97 = some (91, 2, 105, 1) from rfl) (by omega) (by omega) ?_
      rw [show ypz 91 k = (yw k).toNat from if_pos (by omega)]
      exact e_aret rfl
/-- fill -/
def yfill (M : yM) (a : Nat) (v : Int) : yM := fun b j => if b = a ∧ j < yln a then v else M b j
def yfilt (M : yM) (a n : Nat) (v : Int) : yM := fun b j => if b = a ∧ j < n then v else M b j
theorem t_170 (hd : 1 ≤ dd) (ha : zisN a = true) : yP sc dd 170 [.ref a, .int (yi k)] M cc (some (yfill M a k, cc, none)) := by
  obtain ⟨dd, rfl⟩ : ∃ e, dd = e + 1 := ⟨dd - 1, by omega⟩
  have hl := yln_le (a := a)
  intro M' cc' v hr n tr T hok
  cases hr
  have hlt : a < n := by have := Nat.le_of_ble_eq_true (ze_and (ze_and ha).1).1; have := hok.1; omega
  have loop : ∀ m i, i + m = yln a → ∀ L : zL, L 0 = some (.ref a) → L 1 = some (.int (yi k)) → L 2 = some (.int (yi (i : Int))) → L 3 = some (.int (yi (yln a : Int))) → zG sc zg_c170 zg_w170 n dd 5 L [] (yst (yfilt M a i k) cc tr T) none n (yst (yfill M a k) cc tr T) 0 := by
    intro m
    induction m with
    | zero =>
      intro i hi L h0 h1 h2 h3
      refine r_ld (t := 0) rfl (Or.inl ⟨rfl, Or.inl rfl⟩) h2 rfl ?_
      refine r_ld (t := 0) rfl (Or.inl ⟨rfl, Or.inl rfl⟩) h3 rfl ?_
      have e : i = yln a := by omega
      subst e
      refine g_cmp (q := 3) (by decide) rfl (fun _ => g_vret rfl) (fun hz => ?_)
      have h4 : yrel 3 (yln a) (yln a) = false := hz
      have h5 := of_decide_eq_false (yrel3 ▸ h4)
      omega
    | succ m ih =>
      intro i hi L h0 h1 h2 h3
      refine r_ld (t := 0) rfl (Or.inl ⟨rfl, Or.inl rfl⟩) h2 rfl ?_
      refine r_ld (t := 0) rfl (Or.inl ⟨rfl, Or.inl rfl⟩) h3 rfl ?_
      have ei : yw (i : Int) = i := yw_of (by omega) (by omega)
      have el : yw (yln a : Int) = yln a := yw_of (by omega) (by omega)
      refine g_cmp (q := 3) (by decide) rfl (fun hz => ?_) (fun _ => ?_)
      · have h4 : yrel 3 i (yln a) = true := hz
        have h5 := of_decide_eq_true (yrel3 ▸ h4)
        omega
      refine r_ld (t := 2) rfl (Or.inr (Or.inl ⟨rfl, Or.inl rfl⟩)) h0 rfl ?_
      refine r_ld (t := 0) rfl (Or.inl ⟨rfl, Or.inl rfl⟩) h2 rfl ?_
      refine r_ld (t := 0) rfl (Or.inl ⟨rfl, Or.inl rfl⟩) h1 rfl ?_
      have e3 : (yi (i : Int)).toInt = i := ei
      refine r_iast (xs := yrow (yfilt M a i k a) (yln a)) rfl hlt (yst_num ha) (by omega) (by rw [yrow_len]; omega) ?_
      rw [e3, yst_setA ha, show yU (yfilt M a i k) a (i : Int).toNat k = yfilt M a (i + 1) k by
        funext b j
        unfold yU yfilt
        rw [Int.toNat_natCast]
        by_cases hb : b = a
        · by_cases hj : j = i
          · rw [if_pos ⟨hb, hj⟩, if_pos ⟨hb, by omega⟩]
          · rw [if_neg (fun q => hj q.2)]
            by_cases hj2 : j < i
            · rw [if_pos ⟨hb, hj2⟩, if_pos ⟨hb, by omega⟩]
            · rw [if_neg (fun q => hj2 q.2), if_neg (fun q => by omega)]
        · rw [if_neg (fun q => hb q.1), if_neg (fun q => hb q.1), if_neg (fun q => hb q.1)]]
      refine r_inc (b := yi (i : Int)) (c := yi 1) rfl h2 (by decide) ?_
      rw [yi_add]
      refine g_go rfl ?_
      exact ih (i + 1) (by omega) _ (l_kr (by decide) h0) (l_ki (by decide) h1) l_s (l_ki (by decide) h3)
  refine ⟨n, tr, T, 0, ?_, ?_⟩
  · have e21 : yfill M a k 21 2 = M 21 2 := if_neg (fun q => (zisN_ne ha).1 q.1.symm)
    have h := yext_refl (T := T) hok
    obtain ⟨h1, h2, h3, h4, h5⟩ := hok
    exact ⟨Nat.le_refl n, ⟨h1, h2, h3, by rw [e21]; exact h4, by rw [e21]; exact h5⟩, fun _ _ _ _ => rfl, Or.inl rfl, by rw [e21]; omega, by rw [e21]; omega⟩
  · refine g_meth (C := zg_c170) (W := zg_w170) (ml := 4) rfl rfl (Nat.le_of_ble_eq_true rfl) ?_
    refine r_ic (b := yi 0) rfl (by decide) (by decide) ?_
    refine r_st (t := 0) rfl (Or.inl ⟨rfl, Or.inl rfl⟩) rfl ?_
    refine r_ld (t := 2) rfl (Or.inr (Or.inl ⟨rfl, Or.inl rfl⟩)) rfl rfl ?_
    refine r_alen (m := yln a) rfl hlt (by rw [yst_num ha]; show some (yrow _ _).length = _; rw [yrow_len]) ?_
    refine r_st (t := 0) rfl (Or.inl ⟨rfl, Or.inl rfl⟩) rfl ?_
    have h := loop (yln a) 0 (by omega) (zL_set (zL_set (zargs 0 [.ref a, .int (yi k)]) 2 (.int (yi 0))) 3 (.int (Int32.ofNat (yln a)))) rfl rfl rfl rfl
    rw [show yfilt M a 0 k = M by
      funext b j
      exact if_neg (fun q => Nat.not_lt_zero _ q.2)] at h
    exact h
end YHa
