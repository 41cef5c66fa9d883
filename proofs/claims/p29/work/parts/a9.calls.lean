/-! the law's own calls, as rules -/
/-- what a while of building keeps -/
def kx (M M' : yM) : Prop := M 1 7 ≤ M' 1 7 ∧ (∀ a i : Nat, ¬ (a = 0 ∧ i = 8) → ¬ (a = 1 ∧ i = 7) → ¬ ((7 ≤ a ∧ a ≤ 12) ∧ M 1 7 ≤ (i : Int)) → M' a i = M a i) ∧ (M 0 8 = 1 → M' 0 8 = 1)
/-- a statement that is new, or nothing -/
def bQ (M : yM) (e : Nat) : Option Value → Nat → Nat → (Nat → zO) → Prop := fun u n' q' H' => ∃ r M', u = some (.int (yi r)) ∧ sI H' n' q' M' e ∧ kx M M' ∧ (r = -1 ∨ (M 1 7 ≤ r ∧ uS M' r))
section HrI
variable {sc : List Int32} {C : List zI} {W : List (List Nat)} {n q dd j e : Nat} {L : zL} {S : List Value} {H : Nat → zO} {Q : Option Value → Nat → Nat → (Nat → zO) → Prop} {pc ln pc2 ln2 x2 y2 z2 w2 x y z w : Nat} {M0 M M' M1 : yM} {v : Int32} {m k r s a b d : Int}
theorem kx_rfl : kx M M := ⟨Int.le_refl _, fun _ _ _ _ _ => rfl, id⟩
theorem kx_trans (h : kx M0 M) (h2 : kx M M') : kx M0 M' := by
  obtain ⟨a1, a2, a3⟩ := h
  obtain ⟨b1, b2, b3⟩ := h2
  exact ⟨by omega, fun a i h1 h2 h3 => (b2 a i h1 h2 (by omega)).trans (a2 a i h1 h2 h3), fun h => b3 (a3 h)⟩
theorem kx_uS (h : kx M M') (hu : uS M r) : uS M' r := by
  obtain ⟨⟨u1, u2⟩, u3, u4, u5⟩ := hu
  have h1 := h.1
  exact ⟨⟨u1, by omega⟩, by rw [h.2.1 7 _ (by omega) (by omega) (by omega)]; exact u3, by rw [h.2.1 11 _ (by omega) (by omega) (by omega)]; exact u4, by rw [h.2.1 12 _ (by omega) (by omega) (by omega)]; exact u5⟩
theorem kx_uC (h : kx M M') (hu : uC M r) : uC M' r := by
  obtain ⟨⟨u1, u2⟩, u3, u4, u5⟩ := hu
  have h1 := h.1
  exact ⟨⟨u1, by omega⟩, by rw [h.2.1 7 _ (by omega) (by omega) (by omega)]; exact u3, by rw [h.2.1 11 _ (by omega) (by omega) (by omega)]; exact u4, by rw [h.2.1 12 _ (by omega) (by omega) (by omega)]; exact u5⟩
theorem kx_10 (h : kx M M') : M' 1 0 = M 1 0 ∧ M' 1 4 = M 1 4 := ⟨h.2.1 1 0 (by omega) (by omega) (by omega), h.2.1 1 4 (by omega) (by omega) (by omega)⟩
theorem h_152 (hc : C[j]? = some (pc, ln, 96, 152, 2, z, w)) (h4 : zwd S ≤ 8) (hd : 1 ≤ dd) (hm : 1 ≤ m ∧ m ≤ 2147483647) (hk : ∀ r : Int, 0 ≤ r → r < m → hG sc C W dd (j + 1) L (.int (yi r) :: S) n q H Q) : hG sc C W dd j L (.int (yi m) :: .int v :: S) n q H Q := by
  obtain ⟨r, r1, r2, r3⟩ := L_152 (sc := sc) (dd := dd - 1) (n := n) (q := q) (H := H) (v := v) hm
  refine h_stat (as := [.int v, .int (yi m)]) hc (Or.inl rfl) rfl h4 (hP_dd (by omega) r3) ?_
  rintro u n1 q1 H1 ⟨e1, e2, e3, e4⟩
  rw [e1, e2, e3, e4]
  exact hk r r1 r2
theorem h_159 (hc : C[j]? = some (pc, ln, 96, 159, 1, z, w)) (h4 : zwd S ≤ 8) (hd : 2 ≤ dd) (hk : ∀ r : Int, oprd r → hG sc C W dd (j + 1) L (.int (yi r) :: S) n q H Q) : hG sc C W dd j L (.int (yi m) :: S) n q H Q := by
  obtain ⟨r, r1, r3⟩ := L_159 (sc := sc) (dd := dd - 2) (n := n) (q := q) (H := H) (x := m)
  refine h_stat (as := [.int (yi m)]) hc (Or.inl rfl) rfl h4 (hP_dd (by omega) r3) ?_
  rintro u n1 q1 H1 ⟨e1, e2, e3, e4⟩
  rw [e1, e2, e3, e4]
  exact hk r r1
theorem h_154 (hc : C[j]? = some (pc, ln, 96, 154, 2, z, w)) (h4 : zwd S ≤ 8) (hd : 1 ≤ dd) (hs : sc.length ≤ 1048576) (hm : 0 ≤ k ∧ k ≤ 1048576) (hk : ∀ r : Int, hG sc C W dd (j + 1) L (.int (yi r) :: S) n q H Q) : hG sc C W dd j L (.int (yi k) :: .retAddr 0 :: S) n q H Q := by
  obtain ⟨r, r3⟩ := L_154 (sc := sc) (dd := dd - 1) (n := n) (q := q) (H := H) hm hs
  refine h_stat (as := [.retAddr 0, .int (yi k)]) hc (Or.inl rfl) rfl h4 (hP_dd (by omega) r3) ?_
  rintro u n1 q1 H1 ⟨e1, e2, e3, e4⟩
  rw [e1, e2, e3, e4]
  exact hk r
theorem h_rem (hc : C[j]? = some (pc, ln, 102, x, y, z, w)) (hx : 0 ≤ k ∧ k ≤ 2147483647) (hm : 1 ≤ m ∧ m ≤ 2147483647) (hk : hG sc C W dd (j + 1) L (.int (yi (k % m)) :: S) n q H Q) : hG sc C W dd j L (.int (yi m) :: .int (yi k) :: S) n q H Q := by
  have h0 : ¬ yi m = 0 := fun e => by
    have e2 : (yi m).toInt = m := yw_of (by omega) (by omega)
    rw [e] at e2
    have e3 : (0 : Int32).toInt = 0 := rfl
    omega
  refine h_lift hk fun _ _ _ _ h => r_div hc (Or.inl rfl) h0 ?_
  rw [if_pos rfl, lw_rem hx hm]
  exact h
theorem oprd_a (h : oprd r) : a_opd r := by
  unfold a_opd
  rcases h with h | h <;> omega
/-- how many nodes, classes, procedures -/
theorem h_len (hS : sI H n q M e) (hc : C[j]? = some (pc, ln, 38, 10, y, z, w)) (hc2 : C[j + 1]? = some (pc2, ln2, 48, x2, y2, z2, w2)) {g : Int} (hg : (y = 0 ∧ g = M 1 7) ∨ (y = 1 ∧ g = M 1 0) ∨ (y = 4 ∧ g = M 1 4)) (hk : hG sc C W dd (j + 1 + 1) L (.int (yi g) :: S) n q H Q) : hG sc C W dd j L (.ref 416 :: S) n q H Q := by
  obtain ⟨⟨cc, tr, c, rw', ro, hW, hO⟩, hI, -⟩ := hS
  obtain ⟨⟨h1, h2⟩, ⟨r1, r2, r3, r4, r5, r6, r7⟩, h3, h4, ⟨ps, p1, p2, -⟩, -, -, bs, b1, b2⟩ := hO
  have e416 := (h2 416 (by rw [r1]; decide)).2.1
  have h90 := hI.1
  have h8 := hI.2.1
  have h13 := hI.2.2.1
  have e0 := (h2 (c 0) (by rw [r2]; decide)).2.1
  have e1 := (h2 (c 1) (by rw [r3]; decide)).2.1
  have e4 := (h2 (c 4) (by rw [r6]; decide)).2.1
  rcases hg with ⟨rfl, rfl⟩ | ⟨rfl, rfl⟩ | ⟨rfl, rfl⟩
  · refine h_get hc e416 h1 rfl ?_
    refine h_alen (m := (M 1 7).toNat) hc2 e0 (by rw [h3]; show some (List.length _) = _; rw [List.length_map, List.length_range]) ?_
    rw [Int.toNat_of_nonneg h90.1]; exact hk
  · refine h_get hc e416 h1 rfl ?_
    refine h_alen (m := ps.length) hc2 e1 (by rw [p1]; rfl) ?_
    rw [p2]; exact hk
  · refine h_get hc e416 h1 rfl ?_
    refine h_alen (m := bs.length) hc2 e4 (by rw [b1]; rfl) ?_
    rw [b2]; exact hk
/-- a node more -/
theorem h_158 (hc : C[j]? = some (pc, ln, 96, 158, 6, z, w)) (h4 : zwd S ≤ 8) (hd : 7 ≤ dd) (hS : sI H n q M e) (hu : uN M s a b d) (h0 : kx M0 M) (hp : ∀ i : Nat, isQ s a b d i → M0 1 7 ≤ (i : Int))
    (hk : ∀ r M' n' q' H', sI H' n' q' M' e → kx M0 M' → (∀ x : Int, (∀ i : Nat, isQ s a b d i → x ≠ (i : Int)) → (uS M x → uS M' x) ∧ (uC M x → uC M' x)) → (r = -1 ∨ (r = M 1 7 ∧ M' 1 7 = M 1 7 + 1 ∧ (s = 12 → uC M' r) ∧ (s ≠ 12 → uS M' r))) → (M 1 7 < 90 → r = M 1 7) → hG sc C W dd (j + 1) L (.int (yi r) :: S) n' q' H' Q) : hG sc C W dd j L (.int (yi d) :: .int (yi b) :: .int (yi a) :: .int (yi s) :: .ref 416 :: .ref 0 :: S) n q H Q := by
  refine h_stat (as := [.ref 0, .ref 416, .int (yi s), .int (yi a), .int (yi b), .int (yi d)]) hc (Or.inl rfl) rfl h4 (hP_dd (dd := dd - 1 + 1) (by omega) (L_158 (dd := dd - 1) (by omega) hS hu)) ?_
  have h90 := hS.2.1.1
  rintro u n1 q1 H1 (⟨e1, e2, e3, e4, e5⟩ | ⟨e1, e2, hS1⟩)
  · rw [e2, e3, e4, e5]
    exact hk (-1) M n q H hS h0 (fun x _ => ⟨id, id⟩) (Or.inl rfl) (fun h => absurd h (by omega))
  · rw [e2]
    obtain ⟨nn, hnn⟩ : ∃ nn : Nat, M 1 7 = (nn : Int) := ⟨(M 1 7).toNat, by omega⟩
    have ent : (M 1 7).toNat = nn := by omega
    rw [ent] at hS1
    obtain ⟨g1, g2, g3, g4, g5, g6, g7, g8, g9⟩ := nM8_get (M := M) (n := nn) (s := s) (a := a) (b := b) (c := d)
    have gN : ∀ i j, i ≠ 11 → nM M nn s a b d i j = nM8 M nn s a b d i j := fun i j h => nM_get h
    have gO : ∀ i j, i ≠ 11 → ¬ (i = 0 ∧ j = 8) → ¬ (i = 1 ∧ j = 7) → ¬ (j = nn ∧ 7 ≤ i ∧ i ≤ 12) → nM M nn s a b d i j = M i j := fun i j h h2 h3 h4 => (gN i j h).trans (g1 i j h2 h3 h4)
    have k17 : nM M nn s a b d 1 7 = (nn : Int) + 1 := (gN 1 7 (by decide)).trans g3
    have g11 : ∀ j : Nat, ¬ isQ s a b d j → nM M nn s a b d 11 j = nM8 M nn s a b d 11 j := fun j h => if_neg (fun q => h q.2)
    have nQ : ¬ isQ s a b d nn := fun h => by
      have := (Q_fr hu h).1
      omega
    have kfr : ∀ x : Int, (∀ i : Nat, isQ s a b d i → x ≠ (i : Int)) → 0 ≤ x → x < M 1 7 → nM M nn s a b d 7 x.toNat = M 7 x.toNat ∧ nM M nn s a b d 11 x.toNat = M 11 x.toNat ∧ nM M nn s a b d 12 x.toNat = M 12 x.toNat := fun x hx h1 h2 => by
      refine ⟨gO 7 _ (by omega) (by omega) (by omega) (by omega), ?_, gO 12 _ (by omega) (by omega) (by omega) (by omega)⟩
      rw [g11 _ fun h => hx _ h (by omega)]
      exact g1 11 _ (by omega) (by omega) (by omega)
    have e7 : nM M nn s a b d 7 nn = s := (gN 7 nn (by decide)).trans g4
    have e11 : nM M nn s a b d 11 nn = -1 := (g11 nn nQ).trans g8
    have e12 : nM M nn s a b d 12 nn = -1 := (gN 12 nn (by decide)).trans g9
    refine hk (M 1 7) _ n1 q1 H1 hS1 ⟨by rw [k17]; have := h0.1; omega, fun i j h1 h2 h3 => ?_, fun _ => (gN 0 8 (by decide)).trans g2⟩ (fun x hx => ⟨fun hu => ?_, fun hu => ?_⟩) (Or.inr ⟨rfl, by rw [k17, hnn], fun hs => ?_, fun hs => ?_⟩) (fun _ => rfl)
    · have h01 := h0.1
      by_cases h11 : i = 11
      · subst h11
        rw [g11 j fun h => by have := hp j h; omega, g1 11 j (by omega) (by omega) (by omega)]
        exact h0.2.1 11 j h1 h2 h3
      · rw [gO i j h11 h1 h2 (by omega)]
        exact h0.2.1 i j h1 h2 h3
    · obtain ⟨⟨u1, u2⟩, u3, u4, u5⟩ := hu
      obtain ⟨f1, f2, f3⟩ := kfr x hx u1 u2
      exact ⟨⟨u1, by rw [k17]; omega⟩, by rw [f1]; exact u3, by rw [f2]; exact u4, by rw [f3]; exact u5⟩
    · obtain ⟨⟨u1, u2⟩, u3, u4, u5⟩ := hu
      obtain ⟨f1, f2, f3⟩ := kfr x hx u1 u2
      exact ⟨⟨u1, by rw [k17]; omega⟩, by rw [f1]; exact u3, by rw [f2]; exact u4, by rw [f3]; exact u5⟩
    · refine ⟨⟨by omega, by rw [k17]; omega⟩, ?_, ?_, ?_⟩
      · rw [ent, e7]; exact hs
      · rw [ent, e11]
      · rw [ent, e12]
    · refine ⟨⟨by omega, by rw [k17]; omega⟩, ?_, ?_, ?_⟩
      · rw [ent, e7]; exact hs
      · rw [ent, e11]
      · rw [ent, e12]
end HrI
