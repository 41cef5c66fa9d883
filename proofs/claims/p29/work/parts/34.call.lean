/-! what a run of a node does: parts, and calls -/
section ACl
variable {q : Nat → Nat → Int} {K : Nat → Nat → Nat → Int} {BG : Nat → Nat → List Nat} {CH : Nat → Nat → List (Int × Int)} {bl : Int → Int → Bool} {mo de : Int} {nv : Nat → Prop} {cn : Nat → Int → Prop} {kc : Int → Prop} {I : aX → Prop}
theorem run_inv (hI : a_inv K BG CH bl mo de I) : ∀ {t : Nat} {X X' : aX}, I X → a_run K BG CH bl mo de t X = some X' → I X'
  | 0, X, X', h, hr => by cases hr; exact h
  | t + 1, X, X', h, hr => by
    have hr' : (a_step K BG CH bl mo de X).bind (a_run K BG CH bl mo de t) = some X' := hr
    cases e : a_step K BG CH bl mo de X with
    | none => rw [e] at hr'; cases hr'
    | some Z =>
      rw [e] at hr'
      exact run_inv hI (hI.1 _ _ h e) hr'
/-- it was cut off -/
def a_off (K : Nat → Nat → Nat → Int) (BG : Nat → Nat → List Nat) (CH : Nat → Nat → List (Int × Int)) (bl : Int → Int → Bool) (mo de : Int) (X0 : aX) : Prop := ∃ t X', a_run K BG CH bl mo de t X0 = some X' ∧ a_cut mo X0.2.2.2.2 X' t
theorem off_go {f : aF} {r : List aF} {j n e0 : Nat} {Y : yM} {G : aC} (h : a_off K BG CH bl mo de (f :: r, false, j, true, Y)) : a_go q K BG CH bl mo de nv cn kc n G e0 f r j Y := by
  obtain ⟨t, X', h1, h2⟩ := h
  exact ⟨t, X', h1, Or.inl h2⟩
variable {f f0 f' : aF} {r : List aF} {j i bi s n R : Nat} {Y Y0 : yM} {G : aC} {e0 m : Nat} {c : Int} {e : Nat → Nat → Int} {X0 : aX}
theorem to_sub (hI : a_inv K BG CH bl mo de I) (ih : a_ex q K BG CH bl mo de nv cn kc I R) (h : a_to q K BG CH bl mo de I X0 s (f :: r, false, bi, true, Y) c e) (hc : c ≤ 0) (hL : a_Ld q (K f.1) (BG f.1) (CH f.1) m n G f.2.1 bi e0) (hh : a_has f G.2.1) (hlp : a_lp G) (hR : mo - Y 13 3 ≤ R) :
    a_off K BG CH bl mo de X0 ∨ ∃ s' f' fl bi' Y', a_to q K BG CH bl mo de I X0 s' (f' :: r, fl, bi', true, Y') (c - 4) (fun k x => e k x + if x = n then 1 else 0) ∧ a_fr G f f' ∧ a_lv q K BG CH bl nv cn kc n G e0 f' fl bi' Y' ∧ Y 13 3 + 1 ≤ Y' 13 3 := by
  obtain ⟨h1, h2, h3⟩ := h
  obtain ⟨t, X', g1, g2⟩ := ih m n G f.2.1 bi e0 f r Y h2 rfl hL hh hlp hR
  have g3 := a_run_add K BG CH bl mo de (t := t) h1
  rw [g1] at g3
  rcases g2 with ⟨fr', bi', Y', rfl, b1, b2, b3, b4, b5⟩ | ⟨f', fl, bi', Y', rfl, b1, b2, b3⟩
  · left
    obtain ⟨a1, a2, a3, a5, a6, a7, a8⟩ := h3
    refine ⟨s + t, _, g3, fr', bi', Y', rfl, b1, ?_⟩
    dsimp only at a1 a2 a3 a7
    exact ⟨by omega, by omega, by omega, by omega⟩
  · right
    have h4 := a_D_trans h3 b2
    refine ⟨s + t, f', fl, bi', Y', ⟨g3, run_inv hI h2 g1, a_D_mono (Int.le_of_eq (by omega)) (fun _ _ _ => rfl) h4⟩, b1, b3, ?_⟩
    have k1 := b2.2.1
    have k2 := b2.2.2.1
    omega
theorem a_D_enter {p : Nat} {l : Int} : a_D q Y (a_enterY Y p l) 1 1 (fun _ _ => 0) := by
  unfold a_enterY
  refine a_D_op ?_ ?_ ?_ (fun x _ _ => ?_) ?_ (fun x => ?_)
  · rw [yU_i (by decide), yU_c (by decide), yU_i (by decide)]
  · rw [yU_c (by decide), yU_c (by decide), yU_c (by decide)]
  · rw [yU_c (by decide), yU_c (by decide), yU_c (by decide)]; exact Int.le_refl _
  · rw [yU_c (by decide), yU_c (by decide), yU_c (by decide)]
  · rw [yU_i (by decide), yU_c (by decide), yU_i (by decide)]
  · rw [yU_c (by decide), yU_c (by decide), yU_c (by decide)]
theorem a_enter_3 {p : Nat} {l : Int} : a_enterY Y p l 13 3 = Y 13 3 := by
  unfold a_enterY
  rw [yU_i (by decide), yU_c (by decide), yU_i (by decide)]
theorem ko_mono {n n' : Nat} (h : ∀ x, cn n x → cn n' x) (hk : a_ko cn kc n Y) : a_ko cn kc n' Y := by
  rcases hk with hk | hk | hk
  · exact Or.inl hk
  · exact Or.inr (Or.inl hk)
  · exact Or.inr (Or.inr (h _ hk))
theorem ko_new {k cs : Int} (h : kc k ∨ cn n k) : a_ko cn kc n (a_new Y k cs) := by
  unfold a_ko
  rw [a_new_16, a_new_2]
  rcases h with h | h
  · exact Or.inr (Or.inl h)
  · exact Or.inr (Or.inr h)
/-- a call -/
theorem to_call {bd : Nat → Nat} {vp : Nat → Prop} {p v nd : Int} (A : a_ast q K BG CH bl nv cn kc bd vp) (hI : a_inv K BG CH bl mo de I) (ih : a_ex q K BG CH bl mo de nv cn kc I R) (h : a_to q K BG CH bl mo de I X0 s (f :: r, false, bi, true, Y) c e) (hc : c ≤ -1) (hs : a_step K BG CH bl mo de (f :: r, false, bi, true, Y) = some (a_enter de f r Y p v nd)) (hp : vp p.toNat) (hR : mo - Y 13 3 ≤ R) :
    a_off K BG CH bl mo de X0 ∨ (∃ s' Y', a_to q K BG CH bl mo de I X0 s' (a_at f r (f.2.1 + 1) Y') (c + 1) e ∧ mo - Y' 13 3 ≤ R) ∨ (∃ s' Y', a_to q K BG CH bl mo de I X0 s' (a_throw f r Y') (c + 1) e ∧ mo - Y' 13 3 ≤ R ∧ a_ko cn kc (bd p.toNat) Y') := by
  have hp0 := A.2.2.2.2.1 _ hp
  have hkc : kc 1 := by
    obtain ⟨-, -, -, -, -, -, -, -, -, -, -, -, -, -, -, -, -, -, -, -, -, k1, -⟩ := A
    exact k1.1
  unfold a_enter at hs
  by_cases hd : de ≤ (r.length : Int) + 1
  · rw [if_pos hd] at hs
    have h0 := (hI.2 _ h.2.1).1
    have h3 := to_op hI h hs (a_D_new h0)
    right; right
    refine ⟨s + 1, _, h3, ?_, ko_new (Or.inl hkc)⟩
    have := (a_D_new (q := q) (Y := Y) (k := 1) (cs := -1) h0).1
    omega
  · rw [if_neg hd] at hs
    have h3 := to_op hI h hs a_D_enter
    obtain ⟨hfin, m, e1, hL, q1, q2, q3, q4, q5, q6, q7⟩ := hp0
    rcases to_sub hI ih h3 (by omega) hL (fun x hx => absurd hx (Nat.not_lt_zero x)) (fun lt lg hx => by cases hx) (by rw [a_enter_3]; exact hR) with h4 | ⟨s', g, fl, bi', Y', h4, h5, h6, h7⟩
    · exact Or.inl h4
    · replace h7 : mo - Y' 13 3 ≤ R := by
        have := a_enter_3 (Y := Y) (p := p.toNat) (l := (r.length : Int) + 2)
        omega
      have h4' : a_to q K BG CH bl mo de I X0 s' (g :: f :: r, fl, bi', true, Y') (c + 1 - 4) e := ⟨h4.1, h4.2.1, a_D_mono (Int.le_refl _) (fun k x hx => by
        have hq : ¬ x = bd p.toNat := fun hq => hfin k (by rw [← hq]; exact hx)
        rw [if_neg hq]; omega) h4.2.2⟩
      have hg : g.1 = p.toNat := h5.1
      have hgive : ∀ {s1 : Nat} {g1 : aF} {b1 : Nat} {Y1 : yM} {w : Int} {x : Int} {c1 : Int}, a_to q K BG CH bl mo de I X0 s1 (g1 :: f :: r, false, b1, true, Y1) c1 e → c1 ≤ c → (BG g1.1 g1.2.1).length = b1 → K g1.1 1 g1.2.1 = 8 → K g1.1 2 g1.2.1 = x → g1.2.2.2.2.2 x.toNat = some w → mo - Y1 13 3 ≤ R → ∃ s' Y', a_to q K BG CH bl mo de I X0 s' (a_at f r (f.2.1 + 1) Y') (c + 1) e ∧ mo - Y' 13 3 ≤ R := by
        intro s1 g1 b1 Y1 w x c1 k1 k2 k3 k4 k5 k6 k7
        have hst : a_step K BG CH bl mo de (g1 :: f :: r, false, b1, true, Y1) = some (a_at f r (f.2.1 + 1) (if 0 ≤ g1.2.2.1 then yU Y1 14 g1.2.2.1.toNat w else Y1)) := by
          rw [st_op k3 k4 k5 rfl rfl rfl]
          show (match g1.2.2.2.2.2 x.toNat with
            | none => none
            | some v => _) = _
          rw [k6]
        have k8 : a_D q Y1 (if 0 ≤ g1.2.2.1 then yU Y1 14 g1.2.2.1.toNat w else Y1) 1 1 (fun _ _ => 0) := by
          split
          · exact a_D_U (by decide) (by decide) (by decide) (Or.inl (by decide))
          · exact a_D_same
        have k9 := to_op hI k1 hst k8
        refine ⟨s1 + 1, _, ⟨k9.1, k9.2.1, a_D_mono (by omega) (fun _ _ _ => rfl) k9.2.2⟩, ?_⟩
        have := k8.1
        omega
      rcases h6 with ⟨rfl, rfl, r1, r2⟩ | ⟨rfl, lt, lg, dd, hh, m', r1, -⟩ | ⟨rfl, dd, hh, m', w, r1, r2, r3, r4, r5⟩ | ⟨rfl, rfl, r1, r2⟩
      · right; left
        have hst : a_step K BG CH bl mo de (g :: f :: r, false, 0, true, Y') = some (a_at (g.1, g.2.1, g.2.2.1, g.2.2.2.1, g.2.2.2.2.1, a_upd g.2.2.2.2.2 0 (a_val Y' 0)) (f :: r) (g.2.1 + 1) Y') := by
          rw [st_op (o := 7) (x := 0) (y := 0) (by rw [hg, r1, q1]; rfl) (by rw [hg, r1]; exact q2) (by rw [hg, r1]; exact q3) (by rw [hg, r1]; exact q4) rfl rfl]
          rfl
        have k1 := to_op hI h4' hst a_D_same
        exact hgive (w := a_val Y' 0) (x := 0) k1 (by omega) (by show (BG g.1 (g.2.1 + 1)).length = 0; rw [hg, r1, q5]; rfl) (by show K g.1 1 (g.2.1 + 1) = 8; rw [hg, r1]; exact q6) (by show K g.1 2 (g.2.1 + 1) = 0; rw [hg, r1]; exact q7) rfl h7
      · cases r1
      · right; left
        obtain ⟨u1, u2, u3⟩ := r5
        exact hgive (w := w) (x := (hh : Int)) h4' (by omega) u1 u2 u3 (by rw [Int.toNat_natCast]; exact r4) h7
      · right; right
        have hst : a_step K BG CH bl mo de (g :: f :: r, true, 0, true, Y') = some (f :: r, true, 0, true, Y') := st_pop (by rw [r1]; rfl)
        have k1 := to_op hI h4' hst a_D_same
        exact ⟨s' + 1, Y', ⟨k1.1, k1.2.1, a_D_mono (by omega) (fun _ _ _ => rfl) k1.2.2⟩, h7, r2⟩
end ACl
