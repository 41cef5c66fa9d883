/-! never, by the law -/
section HrF
variable {sc : List Int32} {n q dd tr k : Nat} {H : Nat → zO} {M : yM} {c rw ro : Nat → Nat} {L : zL}
/-- a boolean; nothing has changed -/
def oQ (n q : Nat) (H : Nat → zO) : Option Value → Nat → Nat → (Nat → zO) → Prop := fun u n' q' H' => (∃ r : Int, (r = 0 ∨ r = 1) ∧ u = some (.int (yi r))) ∧ n' = n ∧ q' = q ∧ H' = H
theorem pI_sm (hI : pI M) (hk : (k : Int) < M 1 7) : ysm (M 7 k) ∧ (M 7 k = 11 → ysm (M 8 k)) ∧ (M 7 k = 4 ∨ M 7 k = 5 ∨ M 7 k = 11 ∨ M 7 k = 12 → ysm (M 10 k)) := by
  have h9 := hI.1
  obtain ⟨h0, -, -, h4, h5, -, -, -, h11, h12, -⟩ := hI.2.2.2.1 k hk
  refine ⟨⟨by omega, by omega⟩, fun e => ?_, fun e => ?_⟩
  · rcases (h11 e).1 with q | q
    · exact ⟨by omega, by omega⟩
    · have := q.1; have := q.2.1; exact ⟨by omega, by omega⟩
  · rcases e with e | e | e | e
    · have := (h4 e).2.1.1; have := (h4 e).2.1.2.1; exact ⟨by omega, by omega⟩
    · rcases (h5 e).2.2.1 with q | q
      · exact ⟨by omega, by omega⟩
      · have := q.1; have := q.2.1; exact ⟨by omega, by omega⟩
    · rcases (h11 e).2.2.1 with q | q
      · exact ⟨by omega, by omega⟩
      · have := q.1; have := q.2.1; exact ⟨by omega, by omega⟩
    · rcases (h12 e).2.2 with q | q
      · exact ⟨by omega, by omega⟩
      · have := q.1; have := q.2.1; exact ⟨by omega, by omega⟩
theorem pI_b (hI : pI M) (hk : (k : Int) < M 1 7) (e : M 7 k = 4 ∨ M 7 k = 5 ∨ M 7 k = 6 ∨ M 7 k = 11 ∨ M 7 k = 12 ∨ M 7 k = 13) : 0 ≤ M 9 k ∧ M 9 k < (k : Int) := by
  obtain ⟨h0, -, -, h4, h5, h6, -, -, h11, h12, h13, -⟩ := hI.2.2.2.1 k hk
  rcases e with e | e | e | e | e | e
  · exact ⟨(h4 e).1.1, (h4 e).1.2.1⟩
  · exact ⟨(h5 e).2.1.1, (h5 e).2.1.2.1⟩
  · exact ⟨(h6 e).2.1, (h6 e).2.2.1⟩
  · exact ⟨(h11 e).2.1.1, (h11 e).2.1.2.1⟩
  · exact ⟨(h12 e).2.1.1, (h12 e).2.1.2.1⟩
  · exact ⟨(h13 e).1.1, (h13 e).1.2.1⟩
theorem v_b (L : zL) (j : Nat) (b : Int) (hb : b = 0 ∨ b = 1) (hc : ∃ pc ln x, zg_c165[j]? = some (pc, ln, 85, x, 0, 1, 0)) : hG sc zg_c165 zg_w165 dd j L [.int (yi b)] n q H (oQ n q H) := by
  obtain ⟨pc, ln, x, hc⟩ := hc
  exact h_iret hc (by rcases hb with rfl | rfl <;> rfl) ⟨⟨b, hb, rfl⟩, rfl, rfl, rfl⟩
theorem L_165 (hI : pI M) (ho : oN H n tr M c rw ro) : ∀ (f k : Nat), k ≤ f → (k : Int) < M 1 7 → hP sc (dd + f + 1) 165 [.ref 416, .int (yi (k : Int))] n q H (oQ n q H) := by
  obtain ⟨⟨h1, h2⟩, ⟨r1, r2, r3, r4, r5, r6, r7⟩, h3, h4, -⟩ := ho
  have e416 := (h2 416 (by rw [r1]; decide)).2.1
  have e0 := (h2 (c 0) (by rw [r2]; decide)).2.1
  have h90 := hI.1
  have main : ∀ (f k : Nat), (k : Int) < M 1 7 → (∀ x : Int, 0 ≤ x → x < (k : Int) → hP sc (dd + f) 165 [.ref 416, .int (yi x)] n q H (oQ n q H)) → hP sc (dd + f + 1) 165 [.ref 416, .int (yi (k : Int))] n q H (oQ n q H) := by
    intro f k hk ih
    obtain ⟨x, y, hxy⟩ := h4 k hk
    have hrn := (h2 (rw k) (by rw [r7 k hk]; decide)).2.1
    obtain ⟨s7, s8, s10⟩ := pI_sm hI hk
    have hN := hI.2.2.2.1 k hk
    obtain ⟨-, -, -, n4, n5, -, -, -, n11, -⟩ := hN
    have v1 : ∀ (L : zL) (j t : Nat), (∃ pc ln op x, zg_c165[j]? = some (pc, ln, 0, 2147483649, 0, 0, 0) ∧ zg_c165[j + 1]? = some (op, x, 85, 0, 0, 1, 0)) → hG sc zg_c165 zg_w165 (dd + f) j L [] n q H (oQ n q H) := fun L j t ⟨pc, ln, op, x, hc, hc2⟩ => by
      refine h_ic (b := 1) hc (by decide) (by decide) ?_
      exact h_iret hc2 rfl ⟨⟨1, Or.inr rfl, rfl⟩, rfl, rfl, rfl⟩
    have v0 : ∀ (L : zL) (j t : Nat), (∃ pc ln op x, zg_c165[j]? = some (pc, ln, 0, 2147483648, 0, 0, 0) ∧ zg_c165[j + 1]? = some (op, x, 85, 0, 0, 1, 0)) → hG sc zg_c165 zg_w165 (dd + f) j L [] n q H (oQ n q H) := fun L j t ⟨pc, ln, op, x, hc, hc2⟩ => by
      refine h_ic (b := 0) hc (by decide) (by decide) ?_
      exact h_iret hc2 rfl ⟨⟨0, Or.inl rfl, rfl⟩, rfl, rfl, rfl⟩
    have w1 : ∀ (L : zL) (j : Nat), (∃ pc ln op x z w, zg_c165[j]? = some (pc, ln, 0, 2147483649, 0, 0, 0) ∧ zg_c165[j + 1]? = some (op, x, 80, j + 3, z, w, 0) ∧ ∃ pc ln, zg_c165[j + 3]? = some (pc, ln, 85, 0, 0, 1, 0)) → hG sc zg_c165 zg_w165 (dd + f) j L [] n q H (oQ n q H) := fun L j ⟨pc, ln, op, x, z, w, hc, hc2, pc3, ln3, hc3⟩ => by
      refine h_ic (b := 1) hc (by decide) (by decide) ?_
      refine h_go hc2 ?_
      exact h_iret hc3 rfl ⟨⟨1, Or.inr rfl, rfl⟩, rfl, rfl, rfl⟩
    refine h_meth (C := zg_c165) (W := zg_w165) (ml := 5) rfl rfl (Nat.le_of_ble_eq_true rfl) ?_
    refine h_ld (t := 2) rfl (Or.inr (Or.inl ⟨rfl, Or.inl rfl⟩)) rfl rfl ?_
    refine h_get rfl e416 h1 rfl ?_
    refine h_ld (t := 0) rfl (Or.inl ⟨rfl, Or.inl rfl⟩) rfl rfl ?_
    refine h_aald rfl e0 h3 (by omega) (p := some (rw k)) (by rw [List.getElem?_map, List.getElem?_range (by omega)]; rfl) ?_
    refine h_st (t := 2) rfl (Or.inr ⟨rfl, Or.inl rfl⟩) rfl ?_
    refine h_ld (t := 2) rfl (Or.inr (Or.inl ⟨rfl, Or.inl rfl⟩)) l_s rfl ?_
    refine h_ic (b := 0) rfl (by decide) (by decide) ?_
    refine h_iald (k := 0) rfl hrn hxy (by decide) rfl ?_
    refine h_st (t := 0) rfl (Or.inl ⟨rfl, Or.inl rfl⟩) rfl ?_
    refine h_ld (t := 0) rfl (Or.inl ⟨rfl, Or.inl rfl⟩) rfl rfl ?_
    refine h_ic (b := 7) rfl (by decide) (by decide) ?_
    refine h_c0 rfl ⟨s7, ⟨by decide, by decide⟩⟩ (fun e => (v1 _ 27 0 ⟨_, _, _, _, rfl, rfl⟩)) fun e7 => ?_
    refine h_ld (t := 0) rfl (Or.inl ⟨rfl, Or.inl rfl⟩) rfl rfl ?_
    refine h_ic (b := 8) rfl (by decide) (by decide) ?_
    refine h_c0 rfl ⟨s7, ⟨by decide, by decide⟩⟩ (fun e => (v1 _ 27 0 ⟨_, _, _, _, rfl, rfl⟩)) fun e8 => ?_
    refine h_ld (t := 0) rfl (Or.inl ⟨rfl, Or.inl rfl⟩) rfl rfl ?_
    refine h_ic (b := 10) rfl (by decide) (by decide) ?_
    refine h_c0 rfl ⟨s7, ⟨by decide, by decide⟩⟩ (fun e => (v1 _ 27 0 ⟨_, _, _, _, rfl, rfl⟩)) fun e10 => ?_
    refine h_ld (t := 0) rfl (Or.inl ⟨rfl, Or.inl rfl⟩) rfl rfl ?_
    refine h_ic (b := 14) rfl (by decide) (by decide) ?_
    refine h_c0 rfl ⟨s7, ⟨by decide, by decide⟩⟩ (fun e => (v1 _ 27 0 ⟨_, _, _, _, rfl, rfl⟩)) fun e14 => ?_
    refine h_ld (t := 0) rfl (Or.inl ⟨rfl, Or.inl rfl⟩) rfl rfl ?_
    refine h_ic (b := 15) rfl (by decide) (by decide) ?_
    refine h_c0 rfl ⟨s7, ⟨by decide, by decide⟩⟩ (fun e => (v1 _ 27 0 ⟨_, _, _, _, rfl, rfl⟩)) fun e15 => ?_
    refine h_ld (t := 0) rfl (Or.inl ⟨rfl, Or.inl rfl⟩) rfl rfl ?_
    refine h_ic (b := 18) rfl (by decide) (by decide) ?_
    refine h_c1 rfl ⟨s7, ⟨by decide, by decide⟩⟩ (fun n18 => ?_) fun e18 => (v1 _ 27 0 ⟨_, _, _, _, rfl, rfl⟩)
    refine h_ld (t := 0) rfl (Or.inl ⟨rfl, Or.inl rfl⟩) rfl rfl ?_
    refine h_ic (b := 4) rfl (by decide) (by decide) ?_
    refine h_c1 rfl ⟨s7, ⟨by decide, by decide⟩⟩ (fun m4 => ?_) fun m4 => ?_
    rotate_left
    · skip
      refine h_ld (t := 2) rfl (Or.inr (Or.inl ⟨rfl, Or.inl rfl⟩)) rfl rfl ?_
      refine h_ld (t := 2) rfl (Or.inr (Or.inl ⟨rfl, Or.inl rfl⟩)) rfl rfl ?_
      refine h_ic (b := 2) rfl (by decide) (by decide) ?_
      refine h_iald (k := 2) rfl hrn hxy (by decide) rfl ?_
      refine h_obj (a := 416) (as := [.int (yi (M 9 k))]) (S := []) rfl (by decide) rfl (Nat.le_of_ble_eq_true rfl) e416 h1 (ih _ (n4 m4).1.1 (n4 m4).1.2.1) ?_
      rintro u1 n1 q1 H1 ⟨⟨r, hr, rfl⟩, rfl, rfl, rfl⟩
      refine h_b1 rfl ⟨by omega, by omega⟩ (fun _ => (w1 _ 44 ⟨_, _, _, _, _, _, rfl, rfl, _, _, rfl⟩)) fun _ => ?_
      refine h_ld (t := 2) rfl (Or.inr (Or.inl ⟨rfl, Or.inl rfl⟩)) rfl rfl ?_
      refine h_ld (t := 2) rfl (Or.inr (Or.inl ⟨rfl, Or.inl rfl⟩)) rfl rfl ?_
      refine h_ic (b := 3) rfl (by decide) (by decide) ?_
      refine h_iald (k := 3) rfl hrn hxy (by decide) rfl ?_
      refine h_obj (a := 416) (as := [.int (yi (M 10 k))]) (S := []) rfl (by decide) rfl (Nat.le_of_ble_eq_true rfl) e416 h1 (ih _ (n4 m4).2.1.1 (n4 m4).2.1.2.1) ?_
      rintro u1 n1 q1 H1 ⟨⟨r, hr, rfl⟩, rfl, rfl, rfl⟩
      refine h_b0 rfl ⟨by omega, by omega⟩ (fun _ => (v0 _ 46 0 ⟨_, _, _, _, rfl, rfl⟩)) fun _ => (w1 _ 44 ⟨_, _, _, _, _, _, rfl, rfl, _, _, rfl⟩)
    refine h_ld (t := 0) rfl (Or.inl ⟨rfl, Or.inl rfl⟩) rfl rfl ?_
    refine h_ic (b := 5) rfl (by decide) (by decide) ?_
    refine h_c1 rfl ⟨s7, ⟨by decide, by decide⟩⟩ (fun m5 => ?_) fun m5 => ?_
    rotate_left
    · skip
      refine h_ld (t := 2) rfl (Or.inr (Or.inl ⟨rfl, Or.inl rfl⟩)) rfl rfl ?_
      refine h_ic (b := 3) rfl (by decide) (by decide) ?_
      refine h_iald (k := 3) rfl hrn hxy (by decide) rfl ?_
      refine h_b2 rfl (s10 (by omega)) (fun _ => (v0 _ 69 0 ⟨_, _, _, _, rfl, rfl⟩)) fun hc => ?_
      refine h_ld (t := 2) rfl (Or.inr (Or.inl ⟨rfl, Or.inl rfl⟩)) rfl rfl ?_
      refine h_ld (t := 2) rfl (Or.inr (Or.inl ⟨rfl, Or.inl rfl⟩)) rfl rfl ?_
      refine h_ic (b := 2) rfl (by decide) (by decide) ?_
      refine h_iald (k := 2) rfl hrn hxy (by decide) rfl ?_
      refine h_obj (a := 416) (as := [.int (yi (M 9 k))]) (S := []) rfl (by decide) rfl (Nat.le_of_ble_eq_true rfl) e416 h1 (ih _ (n5 m5).2.1.1 (n5 m5).2.1.2.1) ?_
      rintro u1 n1 q1 H1 ⟨⟨r, hr, rfl⟩, rfl, rfl, rfl⟩
      refine h_b0 rfl ⟨by omega, by omega⟩ (fun _ => (v0 _ 69 0 ⟨_, _, _, _, rfl, rfl⟩)) fun _ => ?_
      refine h_ld (t := 2) rfl (Or.inr (Or.inl ⟨rfl, Or.inl rfl⟩)) rfl rfl ?_
      refine h_ld (t := 2) rfl (Or.inr (Or.inl ⟨rfl, Or.inl rfl⟩)) rfl rfl ?_
      refine h_ic (b := 3) rfl (by decide) (by decide) ?_
      refine h_iald (k := 3) rfl hrn hxy (by decide) rfl ?_
      have hc2 : M 10 k < (k : Int) := by
        rcases (n5 m5).2.2.1 with q | q
        · omega
        · exact q.2.1
      refine h_obj (a := 416) (as := [.int (yi (M 10 k))]) (S := []) rfl (by decide) rfl (Nat.le_of_ble_eq_true rfl) e416 h1 (ih _ hc hc2) ?_
      rintro u1 n1 q1 H1 ⟨⟨r, hr, rfl⟩, rfl, rfl, rfl⟩
      refine h_b0 rfl ⟨by omega, by omega⟩ (fun _ => (v0 _ 69 0 ⟨_, _, _, _, rfl, rfl⟩)) fun _ => (w1 _ 67 ⟨_, _, _, _, _, _, rfl, rfl, _, _, rfl⟩)
    have t77 : ∀ {L : zL}, L 0 = some (.ref 416) → L 2 = some (.ref (rw k)) → (M 7 k = 12 ∨ M 7 k = 13) → hG sc zg_c165 zg_w165 (dd + f) 77 L [] n q H (oQ n q H) := fun {L} hL0 hL2 e => by
      have hb := pI_b hI hk (by omega)
      refine h_ld (t := 2) rfl (Or.inr (Or.inl ⟨rfl, Or.inl rfl⟩)) hL0 rfl ?_
      refine h_ld (t := 2) rfl (Or.inr (Or.inl ⟨rfl, Or.inl rfl⟩)) hL2 rfl ?_
      refine h_ic (b := 2) rfl (by decide) (by decide) ?_
      refine h_iald (k := 2) rfl hrn hxy (by decide) rfl ?_
      refine h_obj (a := 416) (as := [.int (yi (M 9 k))]) (S := []) rfl (by decide) rfl (Nat.le_of_ble_eq_true rfl) e416 h1 (ih _ hb.1 hb.2) ?_
      rintro u1 n1 q1 H1 ⟨⟨r, hr, rfl⟩, rfl, rfl, rfl⟩
      exact h_iret rfl (by rcases hr with rfl | rfl <;> rfl) ⟨⟨r, hr, rfl⟩, rfl, rfl, rfl⟩
    refine h_ld (t := 0) rfl (Or.inl ⟨rfl, Or.inl rfl⟩) rfl rfl ?_
    refine h_ic (b := 12) rfl (by decide) (by decide) ?_
    refine h_c0 rfl ⟨s7, ⟨by decide, by decide⟩⟩ (fun m => t77 rfl rfl (Or.inl m)) fun m12 => ?_
    refine h_ld (t := 0) rfl (Or.inl ⟨rfl, Or.inl rfl⟩) rfl rfl ?_
    refine h_ic (b := 13) rfl (by decide) (by decide) ?_
    refine h_c1 rfl ⟨s7, ⟨by decide, by decide⟩⟩ (fun m13 => ?_) fun m => t77 rfl rfl (Or.inr m)
    refine h_ld (t := 0) rfl (Or.inl ⟨rfl, Or.inl rfl⟩) rfl rfl ?_
    refine h_ic (b := 11) rfl (by decide) (by decide) ?_
    refine h_c0 rfl ⟨s7, ⟨by decide, by decide⟩⟩ (fun m11 => ?_) fun m => (v0 _ 86 0 ⟨_, _, _, _, rfl, rfl⟩)
    have hb := pI_b hI hk (by omega)
    have t120 : ∀ {L : zL}, L 0 = some (.ref 416) → L 2 = some (.ref (rw k)) → hG sc zg_c165 zg_w165 (dd + f) 120 L [] n q H (oQ n q H) := fun {L} hL0 hL2 => by
      refine h_ld (t := 2) rfl (Or.inr (Or.inl ⟨rfl, Or.inl rfl⟩)) hL0 rfl ?_
      refine h_ld (t := 2) rfl (Or.inr (Or.inl ⟨rfl, Or.inl rfl⟩)) hL2 rfl ?_
      refine h_ic (b := 2) rfl (by decide) (by decide) ?_
      refine h_iald (k := 2) rfl hrn hxy (by decide) rfl ?_
      refine h_obj (a := 416) (as := [.int (yi (M 9 k))]) (S := []) rfl (by decide) rfl (Nat.le_of_ble_eq_true rfl) e416 h1 (ih _ hb.1 hb.2) ?_
      rintro u1 n1 q1 H1 ⟨⟨r, hr, rfl⟩, rfl, rfl, rfl⟩
      exact h_iret rfl (by rcases hr with rfl | rfl <;> rfl) ⟨⟨r, hr, rfl⟩, rfl, rfl, rfl⟩
    have t104 : ∀ (m : Nat) {L : zL} {z : Int}, L 0 = some (.ref 416) → L 2 = some (.ref (rw k)) → L 4 = some (.int (yi z)) → (z = -1 ∨ ((0 ≤ z ∧ z < (k : Int)) ∧ M 7 z.toNat = 12)) → z < (m : Int) → hG sc zg_c165 zg_w165 (dd + f) 104 L [] n q H (oQ n q H) := by
      intro m
      induction m with
      | zero =>
        intro L z hL0 hL2 hL4 hz hm
        refine h_ld (t := 0) rfl (Or.inl ⟨rfl, Or.inr rfl⟩) hL4 rfl ?_
        exact h_b2 rfl ⟨by omega, by omega⟩ (fun _ => t120 hL0 hL2) fun h => absurd h (by omega)
      | succ m jh =>
        intro L z hL0 hL2 hL4 hz hm
        refine h_ld (t := 0) rfl (Or.inl ⟨rfl, Or.inr rfl⟩) hL4 rfl ?_
        refine h_b2 rfl ⟨by omega, by omega⟩ (fun _ => t120 hL0 hL2) fun h0 => ?_
        obtain ⟨hz1, hz2⟩ : (0 ≤ z ∧ z < (k : Int)) ∧ M 7 z.toNat = 12 := by
          rcases hz with h | h
          · omega
          · exact h
        obtain ⟨w, rfl⟩ : ∃ w : Nat, z = (w : Int) := ⟨z.toNat, by omega⟩
        rw [Int.toNat_natCast] at hz2
        refine h_ld (t := 2) rfl (Or.inr (Or.inl ⟨rfl, Or.inl rfl⟩)) hL0 rfl ?_
        refine h_ld (t := 0) rfl (Or.inl ⟨rfl, Or.inr rfl⟩) hL4 rfl ?_
        refine h_obj (a := 416) (as := [.int (yi (w : Int))]) (S := []) rfl (by decide) rfl (Nat.le_of_ble_eq_true rfl) e416 h1 (ih _ hz1.1 hz1.2) ?_
        rintro u1 n1 q1 H1 ⟨⟨r, hr, rfl⟩, rfl, rfl, rfl⟩
        refine h_b1 rfl ⟨by omega, by omega⟩ (fun _ => ?_) fun _ => (v0 _ 110 0 ⟨_, _, _, _, rfl, rfl⟩)
        obtain ⟨x2, y2, hxy2⟩ := h4 w (by omega)
        have hrn2 := (h2 (rw w) (by rw [r7 w (by omega)]; decide)).2.1
        refine h_ld (t := 2) rfl (Or.inr (Or.inl ⟨rfl, Or.inl rfl⟩)) hL0 rfl ?_
        refine h_get rfl e416 h1 rfl ?_
        refine h_ld (t := 0) rfl (Or.inl ⟨rfl, Or.inr rfl⟩) hL4 rfl ?_
        refine h_aald rfl e0 h3 (by omega) (p := some (rw w)) (by rw [List.getElem?_map, List.getElem?_range (by omega)]; rfl) ?_
        refine h_ic (b := 3) rfl (by decide) (by decide) ?_
        refine h_iald (k := 3) rfl hrn2 hxy2 (by decide) rfl ?_
        refine h_st (t := 0) rfl (Or.inl ⟨rfl, Or.inr rfl⟩) rfl ?_
        refine h_go rfl ?_
        obtain ⟨-, -, -, -, -, -, -, -, -, n12, -⟩ := hI.2.2.2.1 w (by omega)
        have hn := (n12 hz2).2.2
        refine jh (l_kr (by decide) hL0) (l_kr (by decide) hL2) l_s ?_ ?_
        · rcases hn with h | h
          · exact Or.inl h
          · have := h.1
            have := h.2.1
            exact Or.inr ⟨⟨by omega, by omega⟩, h.2.2.2⟩
        · rcases hn with h | h
          · omega
          · have := h.2.1
            omega
    have t100 : ∀ {L : zL}, L 0 = some (.ref 416) → L 2 = some (.ref (rw k)) → hG sc zg_c165 zg_w165 (dd + f) 100 L [] n q H (oQ n q H) := fun {L} hL0 hL2 => by
      refine h_ld (t := 2) rfl (Or.inr (Or.inl ⟨rfl, Or.inl rfl⟩)) hL2 rfl ?_
      refine h_ic (b := 3) rfl (by decide) (by decide) ?_
      refine h_iald (k := 3) rfl hrn hxy (by decide) rfl ?_
      refine h_st (t := 0) rfl (Or.inl ⟨rfl, Or.inr rfl⟩) rfl ?_
      refine t104 k (l_kr (by decide) hL0) (l_kr (by decide) hL2) l_s ?_ ?_
      · rcases (n11 m11).2.2.1 with h | h
        · exact Or.inl h
        · exact Or.inr ⟨⟨h.1, h.2.1⟩, h.2.2.2⟩
      · rcases (n11 m11).2.2.1 with h | h
        · omega
        · exact h.2.1
    refine h_ld (t := 2) rfl (Or.inr (Or.inl ⟨rfl, Or.inl rfl⟩)) rfl rfl ?_
    refine h_ic (b := 1) rfl (by decide) (by decide) ?_
    refine h_iald (k := 1) rfl hrn hxy (by decide) rfl ?_
    refine h_b2 rfl (s8 m11) (fun _ => t100 rfl rfl) fun ha => ?_
    have ha2 : M 8 k < (k : Int) := by
      rcases (n11 m11).1 with h | h
      · omega
      · exact h.2.1
    refine h_ld (t := 2) rfl (Or.inr (Or.inl ⟨rfl, Or.inl rfl⟩)) rfl rfl ?_
    refine h_ld (t := 2) rfl (Or.inr (Or.inl ⟨rfl, Or.inl rfl⟩)) rfl rfl ?_
    refine h_ic (b := 1) rfl (by decide) (by decide) ?_
    refine h_iald (k := 1) rfl hrn hxy (by decide) rfl ?_
    refine h_obj (a := 416) (as := [.int (yi (M 8 k))]) (S := []) rfl (by decide) rfl (Nat.le_of_ble_eq_true rfl) e416 h1 (ih _ ha ha2) ?_
    rintro u1 n1 q1 H1 ⟨⟨r, hr, rfl⟩, rfl, rfl, rfl⟩
    refine h_b0 rfl ⟨by omega, by omega⟩ (fun _ => t100 rfl rfl) fun _ => (v1 _ 98 0 ⟨_, _, _, _, rfl, rfl⟩)
  intro f
  induction f with
  | zero =>
    intro k hk hl
    exact main 0 k hl fun x h0 h1 => absurd h1 (by omega)
  | succ f ih =>
    intro k hk hl
    refine main (f + 1) k hl fun x h0 h1 => ?_
    obtain ⟨j, rfl⟩ : ∃ j : Nat, x = (j : Int) := ⟨x.toNat, by omega⟩
    exact ih j (by omega) (by omega)
end HrF
