/-! an own program anew; isChecked -/
section HrR
variable {sc : List Int32} {n q dd tr cc : Nat} {H : Nat → zO} {M P : yM} {c rw ro : Nat → Nat}
theorem L_164 (hO : oN H n tr P c rw ro) (h13 : P 1 0 ≤ 13) : ∀ (f k : Nat), k ≤ f → (k : Int) < P 1 0 → hP sc (dd + f + 1) 164 [.ref 416, .int (yi (k : Int))] n q H fun u n' q' H' => (∃ r : Int, (r = 0 ∨ r = 1) ∧ (k ≤ 4 → r = 0) ∧ u = some (.int (yi r))) ∧ n' = n ∧ q' = q ∧ H' = H := by
  obtain ⟨⟨i1, i2⟩, ⟨j1, j2, j3, j4, j5, j6, j7⟩, i3, i4, ⟨ps, i5, i5b, i5c⟩, ⟨ks, i6, i6b, i6c⟩, i7, bs, i8, i9⟩ := id hO
  have f416 := i2 416 (by rw [j1]; decide)
  have f1 := i2 (c 1) (by rw [j3]; decide)
  have f2 := i2 (c 2) (by rw [j4]; decide)
  have main : ∀ (f k : Nat), (k : Int) < P 1 0 → (∀ p : Nat, p < k → hP sc (dd + f) 164 [.ref 416, .int (yi (p : Int))] n q H fun u n' q' H' => (∃ r : Int, (r = 0 ∨ r = 1) ∧ (p ≤ 4 → r = 0) ∧ u = some (.int (yi r))) ∧ n' = n ∧ q' = q ∧ H' = H) → hP sc (dd + f + 1) 164 [.ref 416, .int (yi (k : Int))] n q H fun u n' q' H' => (∃ r : Int, (r = 0 ∨ r = 1) ∧ (k ≤ 4 → r = 0) ∧ u = some (.int (yi r))) ∧ n' = n ∧ q' = q ∧ H' = H := by
    intro f k hk ih
    obtain ⟨b, b1, b2, b3⟩ := i6c k (by omega)
    refine h_meth (C := zg_c164) (W := zg_w164) (ml := 2) rfl rfl (Nat.le_of_ble_eq_true rfl) ?_
    refine h_ld (t := 2) rfl (Or.inr (Or.inl ⟨rfl, Or.inl rfl⟩)) rfl rfl ?_
    refine h_get rfl f416.2.1 i1 rfl ?_
    refine h_ld (t := 0) rfl (Or.inl ⟨rfl, Or.inl rfl⟩) rfl rfl ?_
    refine h_zald rfl f2.2.1 i6 (by omega) b2 ?_
    refine h_b1 rfl ⟨by omega, by omega⟩ (fun hb => ?_) fun hb => ?_
    · skip
      refine h_ic (b := 1) rfl (by decide) (by decide) ?_
      refine h_go rfl ?_
      exact h_iret rfl rfl ⟨⟨1, Or.inr rfl, fun h => absurd (b3 h) hb, rfl⟩, rfl, rfl, rfl⟩
    refine h_ld (t := 0) rfl (Or.inl ⟨rfl, Or.inl rfl⟩) rfl rfl ?_
    refine h_b5 rfl ⟨by omega, by omega⟩ (fun hk0 => ?_) fun hk0 => ?_
    · skip
      refine h_ic (b := 0) rfl (by decide) (by decide) ?_
      exact h_iret rfl rfl ⟨⟨0, Or.inl rfl, fun _ => rfl, rfl⟩, rfl, rfl, rfl⟩
    obtain ⟨p, p1, p2, p3⟩ := i5c.2 k (by omega) (by omega)
    refine h_ld (t := 2) rfl (Or.inr (Or.inl ⟨rfl, Or.inl rfl⟩)) rfl rfl ?_
    refine h_ld (t := 2) rfl (Or.inr (Or.inl ⟨rfl, Or.inl rfl⟩)) rfl rfl ?_
    refine h_get rfl f416.2.1 i1 rfl ?_
    refine h_ld (t := 0) rfl (Or.inl ⟨rfl, Or.inl rfl⟩) rfl rfl ?_
    refine h_iald rfl f1.2.1 i5 (by omega) p1 ?_
    refine h_obj (a := 416) (as := [.int (yi (p : Int))]) (S := []) rfl (by decide) rfl (Nat.le_of_ble_eq_true rfl) f416.2.1 i1 (ih p p2) ?_
    rintro u n1 q1 H1 ⟨⟨r, r1, r2, e1⟩, e2, e3, e4⟩
    rw [e1, e2, e3, e4]
    refine h_b0 rfl ⟨by omega, by omega⟩ (fun _ => ?_) fun hr => ?_
    · skip
      refine h_ic (b := 0) rfl (by decide) (by decide) ?_
      exact h_iret rfl rfl ⟨⟨0, Or.inl rfl, fun _ => rfl, rfl⟩, rfl, rfl, rfl⟩
    · skip
      refine h_ic (b := 1) rfl (by decide) (by decide) ?_
      refine h_go rfl ?_
      exact h_iret rfl rfl ⟨⟨1, Or.inr rfl, fun h => absurd (r2 (by omega)) hr, rfl⟩, rfl, rfl, rfl⟩
  intro f
  induction f with
  | zero =>
    intro k hk hl
    exact main 0 k hl fun p hp => absurd hp (by omega)
  | succ f ih =>
    intro k hk hl
    exact main (f + 1) k hl fun p hp => ih p (by omega) (by omega)
/-- an own program is made: seven cells -/
theorem L_162 (hd : 2 ≤ dd) (hn : n = 416) (ht : tr < 416) (hH : H 416 = .inl (10, [.null, .null, .null, .null, .null])) (e17 : P 1 7 = 0) (e10 : P 1 0 = 5) (e14 : P 1 4 = 1) (e5 : P 5 0 = 0) : hP sc (dd + 1) 162 [.ref 416] (n + 1) q H fun u n' q' H' => u = none ∧ n' = n + 6 ∧ q' = q + 20 ∧ (∀ a, a < 416 → H' a = H a) ∧ ∃ c rw ro, oN H' n' tr P c rw ro := by
  subst hn
  refine h_meth (C := zg_c162) (W := zg_w162) (ml := 1) rfl rfl (Nat.le_of_ble_eq_true rfl) ?_
  refine h_ld (t := 2) rfl (Or.inr (Or.inl ⟨rfl, Or.inl rfl⟩)) rfl rfl ?_
  refine h_oini rfl (by omega) (by omega) (Nat.le_of_ble_eq_true rfl) ?_
  refine h_ld (t := 2) rfl (Or.inr (Or.inl ⟨rfl, Or.inl rfl⟩)) rfl rfl ?_
  refine h_ic (b := 0) rfl (by decide) (by decide) ?_
  refine h_newA (m := 0) rfl (by decide) (by decide) ?_
  refine h_put (fs := [.null, .null, .null, .null, .null]) rfl (by decide) (by omega) (by rw [zU_ne (by decide)]; exact hH) (Nat.le_of_ble_eq_true rfl) rfl ?_
  refine h_ld (t := 2) rfl (Or.inr (Or.inl ⟨rfl, Or.inl rfl⟩)) rfl rfl ?_
  refine h_ic (b := 5) rfl (by decide) (by decide) ?_
  refine h_newA (m := 5) rfl (by decide) (by decide) ?_
  refine h_dup rfl (Or.inr ⟨_, rfl⟩) ?_
  refine h_ic (b := 0) rfl (by decide) (by decide) ?_
  refine h_ic (b := (-1)) rfl (by decide) (by decide) ?_
  refine h_iast (xs := [0, 0, 0, 0, 0]) (k := 0) rfl (by omega) zU_eq (by decide) (Nat.le_of_ble_eq_true rfl) ?_
  rw [zU_zU]
  refine h_dup rfl (Or.inr ⟨_, rfl⟩) ?_
  refine h_ic (b := 1) rfl (by decide) (by decide) ?_
  refine h_ic (b := 0) rfl (by decide) (by decide) ?_
  refine h_iast (xs := [yi (-1), 0, 0, 0, 0]) (k := 1) rfl (by omega) zU_eq (by decide) (Nat.le_of_ble_eq_true rfl) ?_
  rw [zU_zU]
  refine h_dup rfl (Or.inr ⟨_, rfl⟩) ?_
  refine h_ic (b := 2) rfl (by decide) (by decide) ?_
  refine h_ic (b := 0) rfl (by decide) (by decide) ?_
  refine h_iast (xs := [yi (-1), yi 0, 0, 0, 0]) (k := 2) rfl (by omega) zU_eq (by decide) (Nat.le_of_ble_eq_true rfl) ?_
  rw [zU_zU]
  refine h_dup rfl (Or.inr ⟨_, rfl⟩) ?_
  refine h_ic (b := 3) rfl (by decide) (by decide) ?_
  refine h_ic (b := 0) rfl (by decide) (by decide) ?_
  refine h_iast (xs := [yi (-1), yi 0, yi 0, 0, 0]) (k := 3) rfl (by omega) zU_eq (by decide) (Nat.le_of_ble_eq_true rfl) ?_
  rw [zU_zU]
  refine h_dup rfl (Or.inr ⟨_, rfl⟩) ?_
  refine h_ic (b := 4) rfl (by decide) (by decide) ?_
  refine h_ic (b := 0) rfl (by decide) (by decide) ?_
  refine h_iast (xs := [yi (-1), yi 0, yi 0, yi 0, 0]) (k := 4) rfl (by omega) zU_eq (by decide) (Nat.le_of_ble_eq_true rfl) ?_
  rw [zU_zU]
  refine h_put (fs := [.ref 417, .null, .null, .null, .null]) rfl (by decide) (by omega) (by rw [zU_ne (by decide)]; exact zU_eq) (Nat.le_of_ble_eq_true rfl) rfl ?_
  refine h_ld (t := 2) rfl (Or.inr (Or.inl ⟨rfl, Or.inl rfl⟩)) rfl rfl ?_
  refine h_ic (b := 13) rfl (by decide) (by decide) ?_
  refine h_newA (m := 13) rfl (by decide) (by decide) ?_
  refine h_put (fs := [.ref 417, .ref 418, .null, .null, .null]) rfl (by decide) (by omega) (by rw [zU_ne (by decide)]; exact zU_eq) (Nat.le_of_ble_eq_true rfl) rfl ?_
  refine h_ld (t := 2) rfl (Or.inr (Or.inl ⟨rfl, Or.inl rfl⟩)) rfl rfl ?_
  refine h_ic (b := 1) rfl (by decide) (by decide) ?_
  refine h_newA (m := 1) rfl (by decide) (by decide) ?_
  refine h_dup rfl (Or.inr ⟨_, rfl⟩) ?_
  refine h_ic (b := 0) rfl (by decide) (by decide) ?_
  refine h_ic (b := 0) rfl (by decide) (by decide) ?_
  refine h_iast (xs := [0]) (k := 0) rfl (by omega) zU_eq (by decide) (Nat.le_of_ble_eq_true rfl) ?_
  rw [zU_zU]
  refine h_put (fs := [.ref 417, .ref 418, .ref 419, .null, .null]) rfl (by decide) (by omega) (by rw [zU_ne (by decide)]; exact zU_eq) (Nat.le_of_ble_eq_true rfl) rfl ?_
  refine h_ld (t := 2) rfl (Or.inr (Or.inl ⟨rfl, Or.inl rfl⟩)) rfl rfl ?_
  refine h_ic (b := 1) rfl (by decide) (by decide) ?_
  refine h_newA (m := 1) rfl (by decide) (by decide) ?_
  refine h_dup rfl (Or.inr ⟨_, rfl⟩) ?_
  refine h_ic (b := 0) rfl (by decide) (by decide) ?_
  refine h_ic (b := (-1)) rfl (by decide) (by decide) ?_
  refine h_iast (xs := [0]) (k := 0) rfl (by omega) zU_eq (by decide) (Nat.le_of_ble_eq_true rfl) ?_
  rw [zU_zU]
  refine h_put (fs := [.ref 417, .ref 418, .ref 419, .ref 420, .null]) rfl (by decide) (by omega) (by rw [zU_ne (by decide)]; exact zU_eq) (Nat.le_of_ble_eq_true rfl) rfl ?_
  refine h_vret rfl ⟨rfl, rfl, rfl, fun a ha => ?_, fun i => 417 + i, fun _ => 0, fun a => if 416 ≤ a ∧ a ≤ 421 then a - 415 else 0, ?_⟩
  · rw [zU_ne (by omega), zU_ne (by omega), zU_ne (by omega), zU_ne (by omega), zU_ne (by omega), zU_ne (by omega), zU_ne (by omega), zU_ne (by omega), zU_ne (by omega), zU_ne (by omega)]
  · refine ⟨⟨zU_eq, fun a ha => ?_⟩, ⟨rfl, rfl, rfl, rfl, rfl, rfl, fun k hk => absurd hk (by omega)⟩, ?_, fun k hk => absurd hk (by omega), ⟨[yi (-1), yi 0, yi 0, yi 0, yi 0], ?_, by rw [e10]; rfl, by decide, fun i h1 h2 => ?_⟩, ⟨List.replicate 13 0, ?_, by decide, fun i hi => ⟨0, Or.inl rfl, ?_, fun _ => rfl⟩⟩, ?_, [yi (-1)], ?_, by rw [e14]; rfl⟩
    · dsimp only at ha
      by_cases h : 416 ≤ a ∧ a ≤ 421
      · exact ⟨by omega, by omega, by omega⟩
      · rw [if_neg h] at ha
        exact absurd rfl ha
    · rw [e17]
      show zU _ 416 _ 417 = _
      rw [zU_ne (by decide), zU_ne (by decide), zU_ne (by decide), zU_ne (by decide), zU_ne (by decide), zU_ne (by decide), zU_ne (by decide), zU_ne (by decide), zU_ne (by decide)]
      exact zU_eq
    · show zU _ 416 _ 418 = _
      rw [zU_ne (by decide), zU_ne (by decide), zU_ne (by decide), zU_ne (by decide), zU_ne (by decide), zU_ne (by decide), zU_ne (by decide)]
      exact zU_eq
    · refine ⟨0, ?_, by omega, fun _ => rfl⟩
      have h5 : i = 1 ∨ i = 2 ∨ i = 3 ∨ i = 4 := by
        have : i < 5 := h2
        omega
      rcases h5 with rfl | rfl | rfl | rfl <;> rfl
    · show zU _ 416 _ 419 = _
      rw [zU_ne (by decide), zU_ne (by decide), zU_ne (by decide), zU_ne (by decide), zU_ne (by decide)]
      exact zU_eq
    · rw [List.getElem?_replicate, if_pos hi]; rfl
    · rw [e14]
      show zU _ 416 _ 420 = .inr (.inl [yi (P 5 0)])
      rw [e5, zU_ne (by decide), zU_ne (by decide), zU_ne (by decide)]
      exact zU_eq
    · show zU _ 416 _ 421 = _
      rw [zU_ne (by decide)]
      exact zU_eq
end HrR
