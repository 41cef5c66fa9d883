/-! the parts of a node -/
theorem l_ka {L : zL} {i j : Nat} {u : Value} {x : Nat} (h : j ≠ i) (hl : L j = some (.retAddr x)) : zL_set L i u j = some (.retAddr x) := by
  unfold zL_set
  rw [if_neg h]
  unfold zL_cut
  rw [hl]
/-- as the parts are gathered -/
def pI6 (H : Nat → zO) (n q r : Nat) (s a b c : Int) (L : zL) (n1 q1 : Nat) (H1 : Nat → zO) (m : Nat) : Prop :=
  L 2 = some (.ref r) ∧ ∃ d xs, L 3 = some (.ref d) ∧ (n ≤ d ∧ d < n1) ∧ H1 d = .inr (.inl xs) ∧ xs.length ≤ m ∧ n ≤ n1 ∧ n1 ≤ n + 1 + m ∧ q1 ≤ q + 3 * m ∧ (∀ a, a < n → H1 a = H a) ∧ ∀ i, i < xs.length → ∃ p : Nat, xs[i]? = some (yi (p : Int)) ∧ isQ s a b c p
/-- what the parts are -/
def pO6 (H : Nat → zO) (n q : Nat) (s a b c : Int) : Option Value → Nat → Nat → (Nat → zO) → Prop := fun u n' q' H' =>
  ∃ d xs, u = some (.ref d) ∧ (n ≤ d ∧ d < n') ∧ H' d = .inr (.inl xs) ∧ xs.length ≤ 3 ∧ n ≤ n' ∧ n' ≤ n + 4 ∧ q' ≤ q + 9 ∧ (∀ a, a < n → H' a = H a) ∧ ∀ i, i < xs.length → ∃ p : Nat, xs[i]? = some (yi (p : Int)) ∧ isQ s a b c p
section HrE
variable {sc : List Int32} {n q dd r n1 q1 : Nat} {H H1 : Nat → zO} {s a b c x : Int} {L : zL} {u y : Int32}
theorem p6_mono {m m' : Nat} (h : pI6 H n q r s a b c L n1 q1 H1 m) (hm : m ≤ m') : pI6 H n q r s a b c L n1 q1 H1 m' := by
  obtain ⟨h2, d, xs, g1, g2, g3, g4, g5, g6, g7, g8, g9⟩ := h
  exact ⟨h2, d, xs, g1, g2, g3, by omega, g5, by omega, by omega, g8, g9⟩
theorem p6_add {m : Nat} {d : Nat} {xs : List Int32} (h2 : L 2 = some (.ref r)) (g2 : n ≤ d ∧ d < n1) (g3 : H1 d = .inr (.inl xs)) (g4 : xs.length ≤ m) (hm : m ≤ 2) (g5 : n ≤ n1) (g6 : n1 ≤ n + 1 + m) (g7 : q1 ≤ q + 3 * m) (g8 : ∀ a, a < n → H1 a = H a) (g9 : ∀ i, i < xs.length → ∃ p : Nat, xs[i]? = some (yi (p : Int)) ∧ isQ s a b c p) (hx : 0 ≤ x) (hQ : isQ s a b c x.toNat) : pI6 H n q r s a b c (zL_set L 3 (.ref n1)) (n1 + 1) (q1 + (xs.length + 1)) (zU H1 n1 (.inr (.inl (xs ++ [yi x])))) (m + 1) := by
  refine ⟨l_kr (by decide) h2, n1, xs ++ [yi x], l_s, ⟨g5, Nat.lt_succ_self n1⟩, zU_eq, by rw [List.length_append]; show xs.length + 1 ≤ m + 1; omega, by omega, by omega, by omega, fun a ha => by rw [zU_ne (by omega)]; exact g8 a ha, fun i hi => ?_⟩
  by_cases q : i < xs.length
  · rw [List.getElem?_append_left q]
    exact g9 i q
  · have e : i = xs.length := by
      rw [List.length_append] at hi
      have : i < xs.length + 1 := hi
      omega
    refine ⟨x.toNat, ?_, hQ⟩
    rw [e, List.getElem?_append_right (Nat.le_refl _), Nat.sub_self, Int.toNat_of_nonneg hx]; rfl
theorem p6_79 (hd : 2 ≤ dd) (hr : r < n) (hH : H r = .inr (.inl [yi s, yi a, yi b, yi c, u, y])) (hs : ysm s ∧ (s = 11 → ysm a) ∧ (s = 4 ∨ s = 5 ∨ s = 11 ∨ s = 12 → ysm c)) (h : pI6 H n q r s a b c L n1 q1 H1 3) : hG sc zg_c166 zg_w166 dd 79 L [] n1 q1 H1 (pO6 H n q s a b c) := by
  obtain ⟨dd, rfl⟩ : ∃ e, dd = e + 2 := ⟨dd - 2, by omega⟩
  obtain ⟨h2, d, xs, g1, g2, g3, g4, g5, g6, g7, g8, g9⟩ := h
  have hr1 : H1 r = .inr (.inl [yi s, yi a, yi b, yi c, u, y]) := (g8 r hr).trans hH
  have hrn : r < n1 := by omega
  refine h_ld (t := 2) rfl (Or.inr (Or.inl ⟨rfl, Or.inl rfl⟩)) g1 rfl ?_
  exact h_aret rfl rfl ⟨d, xs, rfl, g2, g3, g4, g5, g6, g7, g8, g9⟩
theorem p6_69 (hd : 2 ≤ dd) (hr : r < n) (hH : H r = .inr (.inl [yi s, yi a, yi b, yi c, u, y])) (hs : ysm s ∧ (s = 11 → ysm a) ∧ (s = 4 ∨ s = 5 ∨ s = 11 ∨ s = 12 → ysm c)) (hS : s = 4 ∨ s = 5 ∨ s = 11 ∨ s = 12) (h : pI6 H n q r s a b c L n1 q1 H1 2) : hG sc zg_c166 zg_w166 dd 69 L [] n1 q1 H1 (pO6 H n q s a b c) := by
  obtain ⟨dd, rfl⟩ : ∃ e, dd = e + 2 := ⟨dd - 2, by omega⟩
  obtain ⟨h2, d, xs, g1, g2, g3, g4, g5, g6, g7, g8, g9⟩ := h
  have hr1 : H1 r = .inr (.inl [yi s, yi a, yi b, yi c, u, y]) := (g8 r hr).trans hH
  have hrn : r < n1 := by omega
  refine h_ld (t := 2) rfl (Or.inr (Or.inl ⟨rfl, Or.inl rfl⟩)) h2 rfl ?_
  refine h_ic (b := 3) rfl (by decide) (by decide) ?_
  refine h_iald (k := 3) rfl hrn hr1 (by decide) rfl ?_
  refine h_b2 rfl (hs.2.2 hS) (fun _ => p6_79 hd hr hH hs (p6_mono ⟨h2, d, xs, g1, g2, g3, g4, g5, g6, g7, g8, g9⟩ (by decide))) fun hc => ?_
  refine h_ld (t := 2) rfl (Or.inr (Or.inl ⟨rfl, Or.inl rfl⟩)) g1 rfl ?_
  refine h_ld (t := 2) rfl (Or.inr (Or.inl ⟨rfl, Or.inl rfl⟩)) h2 rfl ?_
  refine h_ic (b := 3) rfl (by decide) (by decide) ?_
  refine h_iald (k := 3) rfl hrn hr1 (by decide) rfl ?_
  refine h_stat (as := [.ref d, .int (yi c)]) (S := []) rfl (by decide) rfl (Nat.le_of_ble_eq_true rfl) (L_167 (dd := dd) g2.2 g3 (by omega)) ?_
  rintro u1 n2 q2 H2 ⟨rfl, rfl, rfl, rfl⟩
  refine h_st (t := 2) rfl (Or.inr ⟨rfl, Or.inl rfl⟩) rfl ?_
  exact p6_79 hd hr hH hs (p6_add (m := 2) h2 g2 g3 g4 (by decide) g5 g6 g7 g8 g9 hc (Or.inr (Or.inr (by unfold pC'; rw [if_pos hS, Int.toNat_of_nonneg hc]))))
theorem p6_49 (hd : 2 ≤ dd) (hr : r < n) (hH : H r = .inr (.inl [yi s, yi a, yi b, yi c, u, y])) (hs : ysm s ∧ (s = 11 → ysm a) ∧ (s = 4 ∨ s = 5 ∨ s = 11 ∨ s = 12 → ysm c)) (h : pI6 H n q r s a b c L n1 q1 H1 2) : hG sc zg_c166 zg_w166 dd 49 L [] n1 q1 H1 (pO6 H n q s a b c) := by
  obtain ⟨dd, rfl⟩ : ∃ e, dd = e + 2 := ⟨dd - 2, by omega⟩
  obtain ⟨h2, d, xs, g1, g2, g3, g4, g5, g6, g7, g8, g9⟩ := h
  have hr1 : H1 r = .inr (.inl [yi s, yi a, yi b, yi c, u, y]) := (g8 r hr).trans hH
  have hrn : r < n1 := by omega
  refine h_ld (t := 2) rfl (Or.inr (Or.inl ⟨rfl, Or.inl rfl⟩)) h2 rfl ?_
  refine h_ic (b := 0) rfl (by decide) (by decide) ?_
  refine h_iald (k := 0) rfl hrn hr1 (by decide) rfl ?_
  refine h_ic (b := 4) rfl (by decide) (by decide) ?_
  refine h_c0 rfl ⟨hs.1, ⟨by decide, by decide⟩⟩ (fun e => p6_69 hd hr hH hs (by omega) ⟨h2, d, xs, g1, g2, g3, g4, g5, g6, g7, g8, g9⟩) fun e4 => ?_
  refine h_ld (t := 2) rfl (Or.inr (Or.inl ⟨rfl, Or.inl rfl⟩)) h2 rfl ?_
  refine h_ic (b := 0) rfl (by decide) (by decide) ?_
  refine h_iald (k := 0) rfl hrn hr1 (by decide) rfl ?_
  refine h_ic (b := 5) rfl (by decide) (by decide) ?_
  refine h_c0 rfl ⟨hs.1, ⟨by decide, by decide⟩⟩ (fun e => p6_69 hd hr hH hs (by omega) ⟨h2, d, xs, g1, g2, g3, g4, g5, g6, g7, g8, g9⟩) fun e5 => ?_
  refine h_ld (t := 2) rfl (Or.inr (Or.inl ⟨rfl, Or.inl rfl⟩)) h2 rfl ?_
  refine h_ic (b := 0) rfl (by decide) (by decide) ?_
  refine h_iald (k := 0) rfl hrn hr1 (by decide) rfl ?_
  refine h_ic (b := 11) rfl (by decide) (by decide) ?_
  refine h_c0 rfl ⟨hs.1, ⟨by decide, by decide⟩⟩ (fun e => p6_69 hd hr hH hs (by omega) ⟨h2, d, xs, g1, g2, g3, g4, g5, g6, g7, g8, g9⟩) fun e11 => ?_
  refine h_ld (t := 2) rfl (Or.inr (Or.inl ⟨rfl, Or.inl rfl⟩)) h2 rfl ?_
  refine h_ic (b := 0) rfl (by decide) (by decide) ?_
  refine h_iald (k := 0) rfl hrn hr1 (by decide) rfl ?_
  refine h_ic (b := 12) rfl (by decide) (by decide) ?_
  refine h_c1 rfl ⟨hs.1, ⟨by decide, by decide⟩⟩ (fun e => p6_79 hd hr hH hs (p6_mono ⟨h2, d, xs, g1, g2, g3, g4, g5, g6, g7, g8, g9⟩ (by decide))) fun e => p6_69 hd hr hH hs (by omega) ⟨h2, d, xs, g1, g2, g3, g4, g5, g6, g7, g8, g9⟩
theorem p6_43 (hd : 2 ≤ dd) (hr : r < n) (hH : H r = .inr (.inl [yi s, yi a, yi b, yi c, u, y])) (hs : ysm s ∧ (s = 11 → ysm a) ∧ (s = 4 ∨ s = 5 ∨ s = 11 ∨ s = 12 → ysm c)) (hS : s = 4 ∨ s = 5 ∨ s = 6 ∨ s = 11 ∨ s = 12 ∨ s = 13) (hb : 0 ≤ b) (h : pI6 H n q r s a b c L n1 q1 H1 1) : hG sc zg_c166 zg_w166 dd 43 L [] n1 q1 H1 (pO6 H n q s a b c) := by
  obtain ⟨dd, rfl⟩ : ∃ e, dd = e + 2 := ⟨dd - 2, by omega⟩
  obtain ⟨h2, d, xs, g1, g2, g3, g4, g5, g6, g7, g8, g9⟩ := h
  have hr1 : H1 r = .inr (.inl [yi s, yi a, yi b, yi c, u, y]) := (g8 r hr).trans hH
  have hrn : r < n1 := by omega
  refine h_ld (t := 2) rfl (Or.inr (Or.inl ⟨rfl, Or.inl rfl⟩)) g1 rfl ?_
  refine h_ld (t := 2) rfl (Or.inr (Or.inl ⟨rfl, Or.inl rfl⟩)) h2 rfl ?_
  refine h_ic (b := 2) rfl (by decide) (by decide) ?_
  refine h_iald (k := 2) rfl hrn hr1 (by decide) rfl ?_
  refine h_stat (as := [.ref d, .int (yi b)]) (S := []) rfl (by decide) rfl (Nat.le_of_ble_eq_true rfl) (L_167 (dd := dd) g2.2 g3 (by omega)) ?_
  rintro u1 n2 q2 H2 ⟨rfl, rfl, rfl, rfl⟩
  refine h_st (t := 2) rfl (Or.inr ⟨rfl, Or.inl rfl⟩) rfl ?_
  exact p6_49 hd hr hH hs (p6_add (m := 1) h2 g2 g3 g4 (by decide) g5 g6 g7 g8 g9 hb (Or.inr (Or.inl (by unfold pB'; rw [if_pos hS, Int.toNat_of_nonneg hb]))))
theorem p6_23 (hd : 2 ≤ dd) (hr : r < n) (hH : H r = .inr (.inl [yi s, yi a, yi b, yi c, u, y])) (hs : ysm s ∧ (s = 11 → ysm a) ∧ (s = 4 ∨ s = 5 ∨ s = 11 ∨ s = 12 → ysm c)) (hb : (s = 4 ∨ s = 5 ∨ s = 6 ∨ s = 11 ∨ s = 12 ∨ s = 13) → 0 ≤ b) (h : pI6 H n q r s a b c L n1 q1 H1 1) : hG sc zg_c166 zg_w166 dd 23 L [] n1 q1 H1 (pO6 H n q s a b c) := by
  obtain ⟨dd, rfl⟩ : ∃ e, dd = e + 2 := ⟨dd - 2, by omega⟩
  obtain ⟨h2, d, xs, g1, g2, g3, g4, g5, g6, g7, g8, g9⟩ := h
  have hr1 : H1 r = .inr (.inl [yi s, yi a, yi b, yi c, u, y]) := (g8 r hr).trans hH
  have hrn : r < n1 := by omega
  refine h_ld (t := 2) rfl (Or.inr (Or.inl ⟨rfl, Or.inl rfl⟩)) h2 rfl ?_
  refine h_ic (b := 0) rfl (by decide) (by decide) ?_
  refine h_iald (k := 0) rfl hrn hr1 (by decide) rfl ?_
  refine h_ic (b := 4) rfl (by decide) (by decide) ?_
  refine h_c2 rfl ⟨hs.1, ⟨by decide, by decide⟩⟩ (fun e => ?_) fun e4 => ?_
  · skip
    refine h_ld (t := 2) rfl (Or.inr (Or.inl ⟨rfl, Or.inl rfl⟩)) h2 rfl ?_
    refine h_ic (b := 0) rfl (by decide) (by decide) ?_
    refine h_iald (k := 0) rfl hrn hr1 (by decide) rfl ?_
    refine h_ic (b := 11) rfl (by decide) (by decide) ?_
    refine h_c2 rfl ⟨hs.1, ⟨by decide, by decide⟩⟩ (fun e => p6_49 hd hr hH hs (p6_mono ⟨h2, d, xs, g1, g2, g3, g4, g5, g6, g7, g8, g9⟩ (by decide))) fun e11 => ?_
    refine h_ld (t := 2) rfl (Or.inr (Or.inl ⟨rfl, Or.inl rfl⟩)) h2 rfl ?_
    refine h_ic (b := 0) rfl (by decide) (by decide) ?_
    refine h_iald (k := 0) rfl hrn hr1 (by decide) rfl ?_
    refine h_ic (b := 13) rfl (by decide) (by decide) ?_
    refine h_c4 rfl ⟨hs.1, ⟨by decide, by decide⟩⟩ (fun e => p6_49 hd hr hH hs (p6_mono ⟨h2, d, xs, g1, g2, g3, g4, g5, g6, g7, g8, g9⟩ (by decide))) fun e13 => p6_43 hd hr hH hs (by omega) (hb (by omega)) ⟨h2, d, xs, g1, g2, g3, g4, g5, g6, g7, g8, g9⟩
  · skip
    refine h_ld (t := 2) rfl (Or.inr (Or.inl ⟨rfl, Or.inl rfl⟩)) h2 rfl ?_
    refine h_ic (b := 0) rfl (by decide) (by decide) ?_
    refine h_iald (k := 0) rfl hrn hr1 (by decide) rfl ?_
    refine h_ic (b := 6) rfl (by decide) (by decide) ?_
    refine h_c5 rfl ⟨hs.1, ⟨by decide, by decide⟩⟩ (fun e6 => p6_43 hd hr hH hs (by omega) (hb (by omega)) ⟨h2, d, xs, g1, g2, g3, g4, g5, g6, g7, g8, g9⟩) fun e6 => ?_
    refine h_ld (t := 2) rfl (Or.inr (Or.inl ⟨rfl, Or.inl rfl⟩)) h2 rfl ?_
    refine h_ic (b := 0) rfl (by decide) (by decide) ?_
    refine h_iald (k := 0) rfl hrn hr1 (by decide) rfl ?_
    refine h_ic (b := 11) rfl (by decide) (by decide) ?_
    refine h_c2 rfl ⟨hs.1, ⟨by decide, by decide⟩⟩ (fun e => p6_49 hd hr hH hs (p6_mono ⟨h2, d, xs, g1, g2, g3, g4, g5, g6, g7, g8, g9⟩ (by decide))) fun e11 => ?_
    refine h_ld (t := 2) rfl (Or.inr (Or.inl ⟨rfl, Or.inl rfl⟩)) h2 rfl ?_
    refine h_ic (b := 0) rfl (by decide) (by decide) ?_
    refine h_iald (k := 0) rfl hrn hr1 (by decide) rfl ?_
    refine h_ic (b := 13) rfl (by decide) (by decide) ?_
    refine h_c4 rfl ⟨hs.1, ⟨by decide, by decide⟩⟩ (fun e => p6_49 hd hr hH hs (p6_mono ⟨h2, d, xs, g1, g2, g3, g4, g5, g6, g7, g8, g9⟩ (by decide))) fun e13 => p6_43 hd hr hH hs (by omega) (hb (by omega)) ⟨h2, d, xs, g1, g2, g3, g4, g5, g6, g7, g8, g9⟩
theorem p6_8 (hd : 2 ≤ dd) (hr : r < n) (hH : H r = .inr (.inl [yi s, yi a, yi b, yi c, u, y])) (hs : ysm s ∧ (s = 11 → ysm a) ∧ (s = 4 ∨ s = 5 ∨ s = 11 ∨ s = 12 → ysm c)) (hb : (s = 4 ∨ s = 5 ∨ s = 6 ∨ s = 11 ∨ s = 12 ∨ s = 13) → 0 ≤ b) (h : pI6 H n q r s a b c L n1 q1 H1 0) : hG sc zg_c166 zg_w166 dd 8 L [] n1 q1 H1 (pO6 H n q s a b c) := by
  obtain ⟨dd, rfl⟩ : ∃ e, dd = e + 2 := ⟨dd - 2, by omega⟩
  obtain ⟨h2, d, xs, g1, g2, g3, g4, g5, g6, g7, g8, g9⟩ := h
  have hr1 : H1 r = .inr (.inl [yi s, yi a, yi b, yi c, u, y]) := (g8 r hr).trans hH
  have hrn : r < n1 := by omega
  refine h_ld (t := 2) rfl (Or.inr (Or.inl ⟨rfl, Or.inl rfl⟩)) h2 rfl ?_
  refine h_ic (b := 0) rfl (by decide) (by decide) ?_
  refine h_iald (k := 0) rfl hrn hr1 (by decide) rfl ?_
  refine h_ic (b := 11) rfl (by decide) (by decide) ?_
  refine h_c1 rfl ⟨hs.1, ⟨by decide, by decide⟩⟩ (fun e => p6_23 hd hr hH hs hb (p6_mono ⟨h2, d, xs, g1, g2, g3, g4, g5, g6, g7, g8, g9⟩ (by decide))) fun e11 => ?_
  refine h_ld (t := 2) rfl (Or.inr (Or.inl ⟨rfl, Or.inl rfl⟩)) h2 rfl ?_
  refine h_ic (b := 1) rfl (by decide) (by decide) ?_
  refine h_iald (k := 1) rfl hrn hr1 (by decide) rfl ?_
  refine h_b2 rfl (hs.2.1 e11) (fun _ => p6_23 hd hr hH hs hb (p6_mono ⟨h2, d, xs, g1, g2, g3, g4, g5, g6, g7, g8, g9⟩ (by decide))) fun ha => ?_
  refine h_ld (t := 2) rfl (Or.inr (Or.inl ⟨rfl, Or.inl rfl⟩)) g1 rfl ?_
  refine h_ld (t := 2) rfl (Or.inr (Or.inl ⟨rfl, Or.inl rfl⟩)) h2 rfl ?_
  refine h_ic (b := 1) rfl (by decide) (by decide) ?_
  refine h_iald (k := 1) rfl hrn hr1 (by decide) rfl ?_
  refine h_stat (as := [.ref d, .int (yi a)]) (S := []) rfl (by decide) rfl (Nat.le_of_ble_eq_true rfl) (L_167 (dd := dd) g2.2 g3 (by omega)) ?_
  rintro u1 n2 q2 H2 ⟨rfl, rfl, rfl, rfl⟩
  refine h_st (t := 2) rfl (Or.inr ⟨rfl, Or.inl rfl⟩) rfl ?_
  exact p6_23 hd hr hH hs hb (p6_add (m := 0) h2 g2 g3 g4 (by decide) g5 g6 g7 g8 g9 ha (Or.inl (by unfold pA'; rw [if_pos e11, Int.toNat_of_nonneg ha])))
theorem L_166 {cf : Nat → Nat} {tr : Nat} {P : yM} {rw' ro : Nat → Nat} {k : Nat} (hd : 2 ≤ dd) (ho : oN H n tr P cf rw' ro) (hk : (k : Int) < P 1 7) (h90 : P 1 7 ≤ 90) (hs : ysm (P 7 k) ∧ (P 7 k = 11 → ysm (P 8 k)) ∧ (P 7 k = 4 ∨ P 7 k = 5 ∨ P 7 k = 11 ∨ P 7 k = 12 → ysm (P 10 k))) (hb : (P 7 k = 4 ∨ P 7 k = 5 ∨ P 7 k = 6 ∨ P 7 k = 11 ∨ P 7 k = 12 ∨ P 7 k = 13) → 0 ≤ P 9 k) : hP sc (dd + 1) 166 [.ref 416, .int (yi (k : Int))] n q H (pO6 H n q (P 7 k) (P 8 k) (P 9 k) (P 10 k)) := by
  obtain ⟨⟨h1, h2⟩, ⟨r1, r2, r3, r4, r5, r6, r7⟩, h3, h4, -⟩ := ho
  obtain ⟨x, y, hxy⟩ := h4 k hk
  have e416 := (h2 416 (by rw [r1]; decide)).2.1
  have er := (h2 (rw' k) (by rw [r7 k hk]; decide)).2.1
  have e0 := (h2 (cf 0) (by rw [r2]; decide)).2.1
  refine h_meth (C := zg_c166) (W := zg_w166) (ml := 4) rfl rfl (Nat.le_of_ble_eq_true rfl) ?_
  refine h_ld (t := 2) rfl (Or.inr (Or.inl ⟨rfl, Or.inl rfl⟩)) rfl rfl ?_
  refine h_get rfl e416 h1 rfl ?_
  refine h_ld (t := 0) rfl (Or.inl ⟨rfl, Or.inl rfl⟩) rfl rfl ?_
  refine h_aald rfl e0 h3 (by omega) (p := some (rw' k)) (by rw [List.getElem?_map, List.getElem?_range (by omega)]; rfl) ?_
  refine h_st (t := 2) rfl (Or.inr ⟨rfl, Or.inl rfl⟩) rfl ?_
  refine h_ic (b := 0) rfl (by decide) (by decide) ?_
  refine h_newA (m := 0) rfl (by decide) (by decide) ?_
  refine h_st (t := 2) rfl (Or.inr ⟨rfl, Or.inl rfl⟩) rfl ?_
  have ne : rw' k ≠ n := by omega
  refine p6_8 (r := rw' k) (u := x) (y := y) hd er hxy hs hb ?_
  exact ⟨rfl, n, [], rfl, ⟨Nat.le_refl n, Nat.lt_succ_self n⟩, zU_eq, by decide, by omega, by omega, by omega, fun a ha => zU_ne (by omega), fun i hi => absurd hi (by simp)⟩
end HrE
