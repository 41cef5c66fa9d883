/-! write, by the law -/
/-- as a new object has them: no pruning, 800 steps at most -/
def e79 (M : yM) : Prop := M 0 7 = 0 ∧ M 0 9 = 800
/-- what write leaves -/
def wQ : Option Value → Nat → Nat → (Nat → zO) → Prop := fun u n' q' H' => u = some (.int (yi 1)) ∧ ∃ M', sI H' n' q' M' 20 ∧ M' 0 8 = 1 ∧ e79 M' ∧ M' 1 4 ≤ 4
section HrP
variable {sc : List Int32} {dd : Nat}
theorem w_128 (hd : 110 ≤ dd) (hs : sc.length ≤ 1048576) {b : Int} {np : Nat} (hnp : np ≤ 4) : ∀ (g k : Nat) (L : zL) (n q : Nat) (H : Nat → zO) (M : yM), k + g = np → (∀ {_ : Unit}, L 0 = some (.ref 0) ∧ L 1 = some (.ref 416) ∧ L 2 = some (.retAddr 0) ∧ L 5 = some (.int (yi (np : Int))) ∧ L 6 = some (.int (yi (k : Int)))) → sI H n q M 20 → M 0 8 = 1 → e79 M → M 1 4 = (np : Int) → (∀ p : Nat, k ≤ p → M 6 p = -1) → hG sc zg_c161 zg_w161 dd 128 L [] n q H wQ := by
  intro g
  induction g with
  | zero =>
    intro k L n q H M hk hl hS e08 e07 e14 e6
    obtain ⟨l0, l1, l2, l5, l6⟩ := @hl ()
    refine h_ld (t := 0) rfl (Or.inl ⟨rfl, Or.inr rfl⟩) l6 rfl ?_
    refine h_ld (t := 0) rfl (Or.inl ⟨rfl, Or.inr rfl⟩) l5 rfl ?_
    refine h_c3 rfl ⟨⟨by omega, by omega⟩, ⟨by omega, by omega⟩⟩ (fun _ => ?_) fun h => absurd h (by omega)
    refine h_ic (b := 1) rfl (by decide) (by decide) ?_
    exact h_iret rfl rfl ⟨rfl, M, hS, e08, e07, by omega⟩
  | succ g ih =>
    intro k L n q H M hk hl hS e08 e07 e14 e6
    obtain ⟨l0, l1, l2, l5, l6⟩ := @hl ()
    refine h_ld (t := 0) rfl (Or.inl ⟨rfl, Or.inr rfl⟩) l6 rfl ?_
    refine h_ld (t := 0) rfl (Or.inl ⟨rfl, Or.inr rfl⟩) l5 rfl ?_
    refine h_c3 rfl ⟨⟨by omega, by omega⟩, ⟨by omega, by omega⟩⟩ (fun h => absurd h (by omega)) fun _ => ?_
    refine h_ld (t := 2) rfl (Or.inr (Or.inl ⟨rfl, Or.inl rfl⟩)) l0 rfl ?_
    refine h_ld (t := 2) rfl (Or.inr (Or.inl ⟨rfl, Or.inl rfl⟩)) l1 rfl ?_
    refine h_ld (t := 2) rfl (Or.inr (Or.inl ⟨rfl, Or.inl rfl⟩)) l2 rfl ?_
    refine h_ic (b := 17) rfl (by decide) (by decide) ?_
    refine h_ld (t := 0) rfl (Or.inl ⟨rfl, Or.inr rfl⟩) l6 rfl ?_
    refine h_mul rfl ?_
    refine h_ld (t := 2) rfl (Or.inr (Or.inl ⟨rfl, Or.inl rfl⟩)) l2 rfl ?_
    refine h_ld (t := 0) rfl (Or.inl ⟨rfl, Or.inr rfl⟩) l6 rfl ?_
    refine h_ic (b := 9) rfl (by decide) (by decide) ?_
    refine h_add rfl ?_
    refine h_154 rfl (Nat.le_of_ble_eq_true rfl) (by omega) hs ⟨by omega, by omega⟩ fun c1 => ?_
    refine h_ic (b := 40) rfl (by decide) (by decide) ?_
    refine h_152 rfl (Nat.le_of_ble_eq_true rfl) (by omega) ⟨by omega, by omega⟩ fun r2 a2 b2 => ?_
    refine h_add rfl ?_
    refine h_ic (b := 4) rfl (by decide) (by decide) ?_
    refine h_ic (b := 0) rfl (by decide) (by decide) ?_
    refine h_ic (b := 0) rfl (by decide) (by decide) ?_
    refine h_153 (M0 := M) (l := 4) (dd := dd) (bB_dd (L_153 hs 4 (by decide)) (by omega)) rfl (Nat.le_of_ble_eq_true rfl) hS kx_rfl ⟨by omega, by omega⟩ rfl ⟨Or.inl rfl, Or.inl rfl⟩ fun r1 M1 n1 q1 H1 s1 x1 k1 t1 f1 => ?_
    refine h_st (t := 0) rfl (Or.inl ⟨rfl, Or.inr rfl⟩) rfl ?_
    refine h_ld (t := 0) rfl (Or.inl ⟨rfl, Or.inr rfl⟩) l_s rfl ?_
    have kk := kx_10 k1
    have k08 := k1.2.2 e08
    have k07 : e79 M1 := ⟨(k1.2.1 0 7 (by omega) (by omega) (by omega)).trans e07.1, (k1.2.1 0 9 (by omega) (by omega) (by omega)).trans e07.2⟩
    have k6 : ∀ p : Nat, k ≤ p → M1 6 p = -1 := fun p hp => (k1.2.1 6 p (by omega) (by omega) (by omega)).trans (e6 p hp)
    refine h_b3 rfl ⟨by omega, by omega⟩ (fun g1 => ?_) fun _ => ?_
    rotate_left
    · skip
      refine h_go rfl ?_
      refine h_inc (c := 1) rfl (l_ki (by decide) l6) (by decide) ?_
      refine h_go rfl ?_
      exact ih (k + 1) _ _ _ _ M1 (by omega) (fun {_} => ⟨(l_kr (by decide) (l_kr (by decide) l0)), (l_kr (by decide) (l_kr (by decide) l1)), (l_ka (by decide) (l_ka (by decide) l2)), (l_ki (by decide) (l_ki (by decide) l5)), l_s⟩) s1 k08 k07 (by omega) fun p hp => k6 p (by omega)
    have u1 : M 1 7 ≤ r1 ∧ uS M1 r1 := by
      rcases t1 with h | h
      · omega
      · exact h
    obtain ⟨w, rfl⟩ : ∃ w : Nat, r1 = (w : Int) := ⟨r1.toNat, by omega⟩
    obtain ⟨⟨cc, tr, c, rw', ro, hW, hO⟩, hI, hX, hGW, hn, hq⟩ := s1
    have hu := u1.2
    have hu1 := hu.1
    have hf := f3_ok hI (i := k) (by omega) hu (k6 k (Nat.le_refl k))
    have hy : yP sc dd 3 [.ref 0, .int (yi (k : Int)), .int (yi (w : Int))] M1 cc (some (boM M1 k w, cc, some (.int (yi (-1))))) := by
      have ht := t_3 (sc := sc) (dd := dd) (cc := cc) (M := M1) (x1 := (k : Int)) (x2 := (w : Int)) (by omega)
      rw [hf] at ht
      exact ht
    obtain ⟨b1, b2, b3, b4⟩ := boM_get (M := M1) (i := k) (n := w)
    obtain ⟨p1, p2⟩ := boM_pI hI hX (i := k) (n := w) (by omega) hu (k6 k (Nat.le_refl k))
    have e21 : boM M1 k w 21 2 = M1 21 2 := b1 21 2 (by omega) (by omega) (by omega)
    refine h_ld (t := 2) rfl (Or.inr (Or.inl ⟨rfl, Or.inl rfl⟩)) (l_kr (by decide) l0) rfl ?_
    refine h_ld (t := 0) rfl (Or.inl ⟨rfl, Or.inr rfl⟩) (l_ki (by decide) l6) rfl ?_
    refine h_ld (t := 0) rfl (Or.inl ⟨rfl, Or.inr rfl⟩) l_s rfl ?_
    refine h_cls (as := [.int (yi (k : Int)), .int (yi (w : Int))]) (S := []) rfl (by decide) rfl (Nat.le_of_ble_eq_true rfl) hW hO hy fun n2 q2 H2 tr2 hW2 hO2 g5 g6 g7 => ?_
    rw [e21] at g5 g6
    refine h_ic (b := (-1)) rfl (by decide) (by decide) ?_
    refine h_c0 rfl ⟨⟨by omega, by omega⟩, ⟨by omega, by omega⟩⟩ (fun _ => ?_) fun h => absurd rfl h
    obtain ⟨⟨i1, i2⟩, ⟨j1, j2, j3, j4, j5, j6, j7⟩, i3, i4, i5, i6, i7, bs, i8, i9⟩ := id hO2
    have f416 := (i2 416 (by rw [j1]; decide)).2.1
    have f0 := i2 (c 0) (by rw [j2]; decide)
    have f4 := i2 (c 4) (by rw [j6]; decide)
    have fw := i2 (rw' w) (by rw [j7 w (by omega)]; decide)
    refine h_ld (t := 2) rfl (Or.inr (Or.inl ⟨rfl, Or.inl rfl⟩)) (l_kr (by decide) l1) rfl ?_
    refine h_get rfl f416 i1 rfl ?_
    refine h_ld (t := 0) rfl (Or.inl ⟨rfl, Or.inr rfl⟩) (l_ki (by decide) l6) rfl ?_
    refine h_ld (t := 0) rfl (Or.inl ⟨rfl, Or.inr rfl⟩) l_s rfl ?_
    refine h_iast (k := k) rfl f4.2.1 i8 (by omega) (by omega) ?_
    have hO3 := oN_bs (i := k) (v := yi (w : Int)) hO2 i8
    have hW3 := wI_lift (x := .inr (.inl (bs.set k (yi (w : Int))))) hW2 f4.1 f4.2.2
    obtain ⟨⟨i1, i2⟩, ⟨j1, j2, j3, j4, j5, j6, j7⟩, i3, i4, -⟩ := id hO3
    obtain ⟨x, y, hxy⟩ := i4 w (by omega)
    refine h_ld (t := 2) rfl (Or.inr (Or.inl ⟨rfl, Or.inl rfl⟩)) (l_kr (by decide) l1) rfl ?_
    refine h_get rfl f416 i1 rfl ?_
    refine h_ld (t := 0) rfl (Or.inl ⟨rfl, Or.inr rfl⟩) l_s rfl ?_
    refine h_aald rfl f0.2.1 i3 (by omega) (p := some (rw' w)) (by rw [List.getElem?_map, List.getElem?_range (by omega)]; rfl) ?_
    refine h_ic (b := 5) rfl (by decide) (by decide) ?_
    refine h_ld (t := 0) rfl (Or.inl ⟨rfl, Or.inr rfl⟩) (l_ki (by decide) l6) rfl ?_
    refine h_iast (k := 5) rfl fw.2.1 hxy (by decide) (Nat.le_of_ble_eq_true rfl) ?_
    have hO4 := oN_row (i := 5) (u := yi (k : Int)) hO3 (j := w) (by omega) (Or.inr rfl) hxy
    have hW4 := wI_lift (x := .inr (.inl ([yi (M1 7 w), yi (M1 8 w), yi (M1 9 w), yi (M1 10 w), x, y].set 5 (yi (k : Int))))) hW3 fw.1 fw.2.2
    have hO5 := oN_cg (P' := boM M1 k w) hO4 (b1 1 7 (by omega) (by omega) (by omega)) (fun a i h1 h2 h3 => b1 a i (by omega) (by omega) (by omega)) (b1 1 0 (by omega) (by omega) (by omega)) (b1 1 4 (by omega) (by omega) (by omega)) (fun p hp => b1 5 p (by omega) (by omega) (by omega))
    have hG5 : gW (boM M1 k w) := by
      obtain ⟨t1, t2⟩ := hGW
      refine ⟨?_, fun c hc => ?_⟩
      · unfold tI
        rw [e21, b1 21 1 (by omega) (by omega) (by omega)]
        exact t1
      · rw [b1 103 c (by omega) (by omega) (by omega), b1 104 c (by omega) (by omega) (by omega)]
        exact t2 c hc
    have hS5 : sI _ n2 q2 (boM M1 k w) 20 := ⟨⟨cc, tr2, c, rw', ro, hW4, hO5⟩, p1, p2, hG5, by rw [e21, b1 1 7 (by omega) (by omega) (by omega)]; omega, by rw [e21, b1 1 7 (by omega) (by omega) (by omega)]; omega⟩
    refine h_inc (c := 1) rfl (l_ki (by decide) l6) (by decide) ?_
    refine h_go rfl ?_
    exact ih (k + 1) _ _ _ _ (boM M1 k w) (by omega) (fun {_} => ⟨(l_kr (by decide) (l_kr (by decide) l0)), (l_kr (by decide) (l_kr (by decide) l1)), (l_ka (by decide) (l_ka (by decide) l2)), (l_ki (by decide) (l_ki (by decide) l5)), l_s⟩) hS5 b4 ⟨(b1 0 7 (by omega) (by omega) (by omega)).trans k07.1, (b1 0 9 (by omega) (by omega) (by omega)).trans k07.2⟩ (by rw [b1 1 4 (by omega) (by omega) (by omega)]; omega) fun p hp => by rw [b1 6 p (by omega) (by omega) (by omega)]; exact k6 p (by omega)
end HrP
