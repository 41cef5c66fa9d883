/-! the object's numbers and an own program's cells -/
def wI (H : Nat → zO) (n : Nat) (M : yM) (cc tr : Nat) : Prop := yok M n tr ∧ H = yst M cc tr H
/-- an own program: P its numbers, c its rows' cells, rw its nodes' cells, ro what a cell is -/
def oN (H : Nat → zO) (n tr : Nat) (P : yM) (c rw ro : Nat → Nat) : Prop :=
  (o416 H c ∧ ∀ a, ro a ≠ 0 → 416 ≤ a ∧ a < n ∧ a ≠ tr) ∧
  (ro 416 = 1 ∧ ro (c 0) = 2 ∧ ro (c 1) = 3 ∧ ro (c 2) = 4 ∧ ro (c 3) = 5 ∧ ro (c 4) = 6 ∧ ∀ k : Nat, (k : Int) < P 1 7 → ro (rw k) = 7) ∧
  H (c 0) = .inr (.inr (.inr (4, (List.range (P 1 7).toNat).map fun k => some (rw k)))) ∧
  (∀ k : Nat, (k : Int) < P 1 7 → ∃ x y, H (rw k) = .inr (.inl [yi (P 7 k), yi (P 8 k), yi (P 9 k), yi (P 10 k), x, y])) ∧
  (∃ ps, H (c 1) = .inr (.inl ps) ∧ (ps.length : Int) = P 1 0 ∧ oPs ps) ∧
  (∃ ks, H (c 2) = .inr (.inr (.inl ks)) ∧ ks.length = 13 ∧ ∀ i : Nat, i < 13 → ∃ b : Int, (b = 0 ∨ b = 1) ∧ ks[i]? = some (yi b) ∧ (i ≤ 4 → b = 0)) ∧
  H (c 3) = .inr (.inl (yrow (P 5) (P 1 4).toNat)) ∧
  ∃ bs : List Int32, H (c 4) = .inr (.inl bs) ∧ (bs.length : Int) = P 1 4
section WoA
variable {sc : List Int32} {n n' q dd k cc cc' tr tr' a d : Nat} {H H' : Nat → zO} {M M' P P' : yM} {c rw ro : Nat → Nat} {as : List Value} {v : Option Value} {x y : zO}
theorem wI_lift (h : wI H n M cc tr) (ha : 416 ≤ a) (ht : a ≠ tr) : wI (zU H a x) n M cc tr := by
  refine ⟨h.1, ?_⟩
  funext b
  have e := congrFun h.2 b
  unfold zU
  by_cases hb : b = a
  · rw [if_pos hb]
    unfold yst
    rw [show Nat.ble b 415 = false from by rw [hb]; cases q : Nat.ble a 415 with | false => rfl | true => exact absurd (Nat.le_of_ble_eq_true q) (by omega)]
    show x = cond (Nat.beq b tr) _ _
    rw [show Nat.beq b tr = false from by cases q : Nat.beq b tr with | false => rfl | true => exact absurd (Nat.eq_of_beq_eq_true q) (by omega)]
    show x = if b = a then x else H b
    rw [if_pos hb]
  · rw [if_neg hb, e]
    unfold yst
    dsimp only
    rw [if_neg hb]
theorem yok_le (h : yok M n tr) (hn : n ≤ n') : yok M n' tr := by
  obtain ⟨h1, h2, h3, h4⟩ := h
  exact ⟨by omega, h2, by omega, h4⟩
/-- a new cell -/
theorem wI_new (h : wI H n M cc tr) : wI (zU H n x) (n + 1) M cc tr := by
  have h1 := h.1.1
  have h3 := h.1.2.2.1
  have := wI_lift (x := x) h (a := n) (by omega) (by omega)
  exact ⟨yok_le h.1 (by omega), this.2⟩
theorem yst_idem {T : Nat → zO} : yst M cc tr T = yst M cc tr (yst M cc tr T) := by
  funext b
  unfold yst
  cases q1 : and (Nat.ble b 415) (!(Nat.beq b 22)) with
  | true => rfl
  | false =>
    cases q2 : Nat.beq b tr with
    | true => rfl
    | false => rfl
/-- a call of the class -/
theorem y_call (hC : yP sc dd k as M cc (some (M', cc', v))) (h : wI H n M cc tr) : hP sc dd k as n q H fun u n' q' H' => u = v ∧ ∃ tr', wI H' n' M' cc' tr' ∧ n ≤ n' ∧ (tr' = tr ∨ n ≤ tr') ∧ (∀ a, 416 ≤ a → a < n → a ≠ tr → H' a = H a) ∧ (n' : Int) - n ≤ M' 21 2 - M 21 2 ∧ (q' : Int) - q ≤ 2 * (M' 21 2 - M 21 2) := by
  obtain ⟨n', tr', T', q', ⟨e1, e2, e3, e4, e5, e6⟩, hz⟩ := hC M' cc' v rfl n tr H h.1
  rw [← h.2] at hz
  refine ⟨v, n', _, q', hz, rfl, tr', ⟨e2, yst_idem⟩, e1, e4, fun a h1 h2 h3 => ?_, e5, by omega⟩
  have key : ∀ {t : Nat}, a ≠ t → ∀ {M0 : yM} {c0 : Nat} {T : Nat → zO}, yst M0 c0 t T a = T a := fun {t} ht {M0 c0 T} => by
    unfold yst
    rw [show Nat.ble a 415 = false from by cases q : Nat.ble a 415 with | false => rfl | true => exact absurd (Nat.le_of_ble_eq_true q) (by omega)]
    show cond (Nat.beq a t) _ _ = _
    rw [show Nat.beq a t = false from by cases q : Nat.beq a t with | false => rfl | true => exact absurd (Nat.eq_of_beq_eq_true q) (by omega)]
    rfl
  rw [key (by omega)]
  exact e3 a h1 h2 h3
theorem oN_keep (h : oN H n tr P c rw ro) (hn : n ≤ n') (ht : tr' = tr ∨ n ≤ tr') (hk : ∀ a, 416 ≤ a → a < n → a ≠ tr → H' a = H a) : oN H' n' tr' P c rw ro := by
  obtain ⟨⟨h1, h2⟩, ⟨r1, r2, r3, r4, r5, r6, r7⟩, h3, h4, ⟨ps, p1, p2⟩, ⟨ks, k1, k2⟩, h5, bs, b1, b2⟩ := h
  have e : ∀ {a}, ro a ≠ 0 → H' a = H a := fun {a} ha => by
    obtain ⟨q1, q2, q3⟩ := h2 a ha
    exact hk a q1 q2 q3
  refine ⟨⟨?_, fun a ha => ?_⟩, ⟨r1, r2, r3, r4, r5, r6, r7⟩, ?_, fun k hk => ?_, ⟨ps, ?_, p2⟩, ⟨ks, ?_, k2⟩, ?_, bs, ?_, b2⟩
  · unfold o416
    rw [e (by rw [r1]; decide)]; exact h1
  · obtain ⟨q1, q2, q3⟩ := h2 a ha
    exact ⟨q1, by omega, by omega⟩
  · rw [e (by rw [r2]; decide)]; exact h3
  · rw [e (by rw [r7 k hk]; decide)]; exact h4 k hk
  · rw [e (by rw [r3]; decide)]; exact p1
  · rw [e (by rw [r4]; decide)]; exact k1
  · rw [e (by rw [r5]; decide)]; exact h5
  · rw [e (by rw [r6]; decide)]; exact b1
theorem oN_new (h : oN H n tr P c rw ro) (hw : tr < n) : oN (zU H n x) (n + 1) tr P c rw ro :=
  oN_keep h (by omega) (Or.inl rfl) fun a _ h2 _ => zU_ne (by omega)
theorem yrow_cg {f g : Nat → Int} {m : Nat} (h : ∀ i, i < m → g i = f i) : yrow g m = yrow f m := by
  unfold yrow
  exact List.map_congr_left fun i hi => by rw [h i (List.mem_range.mp hi)]
theorem oN_cg (h : oN H n tr P c rw ro) (e17 : P' 1 7 = P 1 7) (eN : ∀ a k : Nat, 7 ≤ a → a ≤ 10 → (k : Int) < P 1 7 → P' a k = P a k) (e10 : P' 1 0 = P 1 0) (e14 : P' 1 4 = P 1 4) (e5 : ∀ p : Nat, (p : Int) < P 1 4 → P' 5 p = P 5 p) : oN H n tr P' c rw ro := by
  obtain ⟨h12, ⟨r1, r2, r3, r4, r5, r6, r7⟩, h3, h4, h6, h7, h5, h8⟩ := h
  refine ⟨h12, ⟨r1, r2, r3, r4, r5, r6, fun k hk => r7 k (by rw [← e17]; exact hk)⟩, by rw [e17]; exact h3, fun k hk => ?_, by rw [e10]; exact h6, h7, ?_, by rw [e14]; exact h8⟩
  · rw [e17] at hk
    rw [eN 7 k (by decide) (by decide) hk, eN 8 k (by decide) (by decide) hk, eN 9 k (by decide) (by decide) hk, eN 10 k (by decide) (by decide) hk]
    exact h4 k hk
  · rw [e14, h5, yrow_cg fun i hi => (e5 i (by omega)).symm]
/-- the fifth or sixth number of a node's row is written -/
theorem oN_row {j i : Nat} {xs : List Int32} {u : Int32} (h : oN H n tr P c rw ro) (hj : (j : Int) < P 1 7) (hi : i = 4 ∨ i = 5) (hx : H (rw j) = .inr (.inl xs)) : oN (zU H (rw j) (.inr (.inl (xs.set i u)))) n tr P c rw ro := by
  obtain ⟨⟨h1, h2⟩, ⟨r1, r2, r3, r4, r5, r6, r7⟩, h3, h4, ⟨ps, p1, p2⟩, ⟨ks, k1, k2⟩, h5, bs, b1, b2⟩ := h
  have e : ∀ {a t}, ro a = t → t ≠ 7 → zU H (rw j) (.inr (.inl (xs.set i u))) a = H a := fun {a t} ha ht => zU_ne fun q => ht (by rw [← ha, q, r7 j hj])
  refine ⟨⟨?_, h2⟩, ⟨r1, r2, r3, r4, r5, r6, r7⟩, ?_, fun k hk => ?_, ⟨ps, ?_, p2⟩, ⟨ks, ?_, k2⟩, ?_, bs, ?_, b2⟩
  · unfold o416
    rw [e r1 (by decide)]; exact h1
  · rw [e r2 (by decide)]; exact h3
  · obtain ⟨x, y, hxy⟩ := h4 k hk
    by_cases q : rw k = rw j
    · rw [q, zU_eq]
      rw [q, hx] at hxy
      have hxs : xs = [yi (P 7 k), yi (P 8 k), yi (P 9 k), yi (P 10 k), x, y] := Sum.inl.inj (Sum.inr.inj hxy)
      rw [hxs]
      rcases hi with rfl | rfl
      · exact ⟨u, y, rfl⟩
      · exact ⟨x, u, rfl⟩
    · rw [zU_ne q]
      exact ⟨x, y, hxy⟩
  · rw [e r3 (by decide)]; exact p1
  · rw [e r4 (by decide)]; exact k1
  · rw [e r5 (by decide)]; exact h5
  · rw [e r6 (by decide)]; exact b1
end WoA
