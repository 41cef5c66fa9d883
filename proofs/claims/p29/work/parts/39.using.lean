/-! a USING -/
section AUs
variable {q : Nat → Nat → Int} {K : Nat → Nat → Nat → Int} {BG : Nat → Nat → List Nat} {CH : Nat → Nat → List (Int × Int)} {bl : Int → Int → Bool} {mo de : Int} {nv : Nat → Prop} {cn : Nat → Int → Prop} {kc : Int → Prop} {I : aX → Prop}
variable {f f0 f' f1 f2 : aF} {r : List aF} {j i bi s n R : Nat} {Y Y0 Y1 : yM} {G : aC} {e0 m : Nat} {c c1 : Int} {e e1 : Nat → Nat → Int} {X0 X : aX} {bd : Nat → Nat} {vp : Nat → Prop}
/-- a call, and what of the kinds stays -/
theorem to_call2 {bd : Nat → Nat} {vp : Nat → Prop} {p v nd : Int} (A : a_ast q K BG CH bl nv cn kc bd vp) (hI : a_inv K BG CH bl mo de I) (ih : a_ex q K BG CH bl mo de nv cn kc I R) (h : a_to q K BG CH bl mo de I X0 s (f :: r, false, bi, true, Y) c e) (hc : c ≤ -1) (hs : a_step K BG CH bl mo de (f :: r, false, bi, true, Y) = some (a_enter de f r Y p v nd)) (hp : vp p.toNat) (hR : mo - Y 13 3 ≤ R) :
    a_off K BG CH bl mo de X0 ∨ (∃ s' Y', a_to q K BG CH bl mo de I X0 s' (a_at f r (f.2.1 + 1) Y') (c + 1) e ∧ mo - Y' 13 3 ≤ R ∧ (∀ x : Int, 0 ≤ x → x < Y 1 0 → Y' 2 x.toNat = Y 2 x.toNat)) ∨ (∃ s' Y', a_to q K BG CH bl mo de I X0 s' (a_throw f r Y') (c + 1) e ∧ mo - Y' 13 3 ≤ R ∧ a_ko cn kc (bd p.toNat) Y' ∧ (∀ x : Int, 0 ≤ x → x < Y 1 0 → Y' 2 x.toNat = Y 2 x.toNat)) := by
  have hp0 := A.2.2.2.2.1 _ hp
  have hkc : kc 1 := by
    obtain ⟨-, -, -, -, -, -, -, -, -, -, -, -, -, -, -, -, -, -, -, -, -, k1, -⟩ := A
    exact k1.1
  unfold a_enter at hs
  by_cases hd : de ≤ (r.length : Int) + 1
  · rw [if_pos hd] at hs
    have h0 := (hI.2 _ h.2.1).1
    have h3 := to_op hI h hs (a_D_new h0)
    right; right
    refine ⟨s + 1, _, h3, ?_, ko_new (Or.inl hkc), (a_D_new (q := q) (Y := Y) (k := 1) (cs := -1) h0).2.2.2.2.1⟩
    have := (a_D_new (q := q) (Y := Y) (k := 1) (cs := -1) h0).1
    omega
  · rw [if_neg hd] at hs
    have h3 := to_op hI h hs a_D_enter
    obtain ⟨hfin, m, e1, hL, q1, q2, q3, q4, q5, q6, q7⟩ := hp0
    rcases to_sub2 hI ih h3 (by omega) hL (fun x hx => absurd hx (Nat.not_lt_zero x)) (fun lt lg hx => by cases hx) (by rw [a_enter_3]; exact hR) with h4 | ⟨s', g, fl, bi', Y', h4, h5, h6, h7, h8⟩
    · exact Or.inl h4
    · replace h7 : mo - Y' 13 3 ≤ R := by
        have := a_enter_3 (Y := Y) (p := p.toNat) (l := (r.length : Int) + 2)
        omega
      replace h8 : ∀ x : Int, 0 ≤ x → x < Y 1 0 → Y' 2 x.toNat = Y 2 x.toNat := fun x hx hx2 => by
        have e1 : a_enterY Y p.toNat ((r.length : Int) + 2) 1 0 = Y 1 0 := by
          unfold a_enterY
          rw [yU_c (by decide), yU_c (by decide), yU_c (by decide)]
        have e2 : a_enterY Y p.toNat ((r.length : Int) + 2) 2 x.toNat = Y 2 x.toNat := by
          unfold a_enterY
          rw [yU_c (by decide), yU_c (by decide), yU_c (by decide)]
        exact (h8 x hx (by rw [e1]; exact hx2)).trans e2
      have h4' : a_to q K BG CH bl mo de I X0 s' (g :: f :: r, fl, bi', true, Y') (c + 1 - 4) e := ⟨h4.1, h4.2.1, a_D_mono (Int.le_refl _) (fun k x hx => by
        have hq : ¬ x = bd p.toNat := fun hq => hfin k (by rw [← hq]; exact hx)
        rw [if_neg hq]; omega) h4.2.2⟩
      have hg : g.1 = p.toNat := h5.1
      have hgive : ∀ {s1 : Nat} {g1 : aF} {b1 : Nat} {Y1 : yM} {w : Int} {x : Int} {c1 : Int}, a_to q K BG CH bl mo de I X0 s1 (g1 :: f :: r, false, b1, true, Y1) c1 e → c1 ≤ c → (BG g1.1 g1.2.1).length = b1 → K g1.1 1 g1.2.1 = 8 → K g1.1 2 g1.2.1 = x → g1.2.2.2.2.2 x.toNat = some w → mo - Y1 13 3 ≤ R → (∀ x : Int, 0 ≤ x → x < Y 1 0 → Y1 2 x.toNat = Y 2 x.toNat) → ∃ s' Y', a_to q K BG CH bl mo de I X0 s' (a_at f r (f.2.1 + 1) Y') (c + 1) e ∧ mo - Y' 13 3 ≤ R ∧ (∀ x : Int, 0 ≤ x → x < Y 1 0 → Y' 2 x.toNat = Y 2 x.toNat) := by
        intro s1 g1 b1 Y1 w x c1 k1 k2 k3 k4 k5 k6 k7 kk
        have hst : a_step K BG CH bl mo de (g1 :: f :: r, false, b1, true, Y1) = some (a_at f r (f.2.1 + 1) (if 0 ≤ g1.2.2.1 then yU Y1 14 g1.2.2.1.toNat w else Y1)) := by
          rw [st_op k3 k4 k5 rfl rfl rfl]
          show (match g1.2.2.2.2.2 x.toNat with
            | none => none
            | some v => _) = _
          rw [k6]
        have k8 : a_D q Y1 (if 0 ≤ g1.2.2.1 then yU Y1 14 g1.2.2.1.toNat w else Y1) 1 1 (fun _ _ => 0) := by
          split
          · exact a_D_U (by decide) (by decide) (by decide) (Or.inl (by decide))
          · exact a_D_same
        have k9 := to_op hI k1 hst k8
        refine ⟨s1 + 1, _, ⟨k9.1, k9.2.1, a_D_mono (by omega) (fun _ _ _ => rfl) k9.2.2⟩, ?_, fun x hx hx2 => ?_⟩
        · have := k8.1
          omega
        · rw [← kk x hx hx2]
          split
          · exact yU_c (by decide)
          · rfl
      rcases h6 with ⟨rfl, rfl, r1, r2⟩ | ⟨rfl, lt, lg, dd, hh, m', r1, -⟩ | ⟨rfl, dd, hh, m', w, r1, r2, r3, r4, r5⟩ | ⟨rfl, rfl, r1, r2⟩
      · right; left
        have hst : a_step K BG CH bl mo de (g :: f :: r, false, 0, true, Y') = some (a_at (g.1, g.2.1, g.2.2.1, g.2.2.2.1, g.2.2.2.2.1, a_upd g.2.2.2.2.2 0 (a_val Y' 0)) (f :: r) (g.2.1 + 1) Y') := by
          rw [st_op (o := 7) (x := 0) (y := 0) (by rw [hg, r1, q1]; rfl) (by rw [hg, r1]; exact q2) (by rw [hg, r1]; exact q3) (by rw [hg, r1]; exact q4) rfl rfl]
          rfl
        have k1 := to_op hI h4' hst a_D_same
        exact hgive (w := a_val Y' 0) (x := 0) k1 (by omega) (by show (BG g.1 (g.2.1 + 1)).length = 0; rw [hg, r1, q5]; rfl) (by show K g.1 1 (g.2.1 + 1) = 8; rw [hg, r1]; exact q6) (by show K g.1 2 (g.2.1 + 1) = 0; rw [hg, r1]; exact q7) rfl h7 h8
      · cases r1
      · right; left
        obtain ⟨u1, u2, u3⟩ := r5
        exact hgive (w := w) (x := (hh : Int)) h4' (by omega) u1 u2 u3 (by rw [Int.toNat_natCast]; exact r4) h7 h8
      · right; right
        have hst : a_step K BG CH bl mo de (g :: f :: r, true, 0, true, Y') = some (f :: r, true, 0, true, Y') := st_pop (by rw [r1]; rfl)
        have k1 := to_op hI h4' hst a_D_same
        exact ⟨s' + 1, Y', ⟨k1.1, k1.2.1, a_D_mono (by omega) (fun _ _ _ => rfl) k1.2.2⟩, h7, r2, h8⟩
/-- the CLOSE on a way -/
theorem us_close (A : a_ast q K BG CH bl nv cn kc bd vp) (hI : a_inv K BG CH bl mo de I) (ih : a_ex q K BG CH bl mo de nv cn kc I R) (h : a_to q K BG CH bl mo de I (f0 :: r, false, j, true, Y0) s (f1 :: r, false, bi, true, Y) c (a_bi n)) (hq : q 0 n = 13) (hc : c ≤ -8) (hf : a_fr G f0 f1) (hR : mo - Y 13 3 ≤ R) (hcl : q 3 n ≠ -1)
    (g1 : (BG f1.1 f1.2.1).length = bi) (g2 : K f1.1 1 f1.2.1 = 17) (g3 : K f1.1 2 f1.2.1 = q 3 n) (g4 : K f1.1 5 f1.2.1 = (n : Int)) (g5 : CH f1.1 f1.2.1 = a_hs G.1)
    (kont : ∀ s' Y', a_to q K BG CH bl mo de I (f0 :: r, false, j, true, Y0) s' (a_at f1 r (f1.2.1 + 1) Y') (c + 1) (a_bi n) → mo - Y' 13 3 ≤ R → a_go q K BG CH bl mo de nv cn kc n G e0 f0 r j Y0) : a_go q K BG CH bl mo de nv cn kc n G e0 f0 r j Y0 := by
  obtain ⟨-, -, -, -, -, -, -, -, -, -, -, -, -, -, -, -, -, -, -, -, Ac, -, -, -, Avp⟩ := id A
  rcases to_call A hI ih h (by omega) (st_op g1 g2 g3 rfl rfl g4) ((Avp n hq).2 hcl) hR with k1 | ⟨s', Y', k1, k2⟩ | ⟨s', Y', k1, k2, k3⟩
  · exact off_go k1
  · exact kont s' Y' k1 k2
  · exact to_fin k1 (by omega) (bi_ok (by omega)) hf (Or.inr (Or.inr (Or.inr ⟨rfl, rfl, by rw [g5], ko_mono (fun x => Ac n x hq hcl) k3⟩)))
/-- a way out of a USING -/
theorem us_leave {g : aG} (A : a_ast q K BG CH bl nv cn kc bd vp) (hI : a_inv K BG CH bl mo de I) (ih : a_ex q K BG CH bl mo de nv cn kc I R) (h : a_to q K BG CH bl mo de I (f0 :: r, false, j, true, Y0) s (f1 :: r, false, bi, true, Y) c (a_bi n)) (hq : q 0 n = 13) (hc : c ≤ -8) (hf : a_fr G f0 f1) (hlp : a_lp G) (hR : mo - Y 13 3 ≤ R) (hg : g.1 = n)
    (ho : (∃ lt lg dd hh m, G.2.2.2.2 = some (lt, lg) ∧ G.2.1 ≤ dd ∧ G.2.2.1 ≤ hh ∧ a_has f1 dd ∧ a_wb q (K f1.1) (BG f1.1) (CH f1.1) (a_Ld q (K f1.1) (BG f1.1) (CH f1.1) m) lt lg (g :: G.1) dd hh f1.2.1 bi) ∨ (∃ dd hh m v, G.2.1 ≤ dd ∧ G.2.2.1 ≤ hh ∧ a_has f1 dd ∧ f1.2.2.2.2.2 hh = some v ∧ a_wo q (K f1.1) (BG f1.1) (CH f1.1) (a_Ld q (K f1.1) (BG f1.1) (CH f1.1) m) (g :: G.1) dd hh f1.2.1 bi)) :
    a_go q K BG CH bl mo de nv cn kc n G e0 f0 r j Y0 := by
  rcases ho with ⟨lt, lg, dd, hh, m', a1, a2, a3, a4, a5⟩ | ⟨dd, hh, m', v, a2, a3, a4, av, a5⟩
  · unfold a_wb at a5
    have hlg := hlp lt lg a1
    rw [if_neg (by omega), hg, if_pos hq] at a5
    by_cases hcl : q 3 n = -1
    · rw [if_pos hcl] at a5
      exact to_fin h (by omega) (bi_ok (by omega)) hf (Or.inr (Or.inl ⟨rfl, lt, lg, dd, hh, m', a1, a2, a3, a4, a5⟩))
    · rw [if_neg hcl] at a5
      obtain ⟨g1, g2, g3, g4, g5, g6⟩ := a5
      refine us_close A hI ih h hq hc hf hR hcl g1 g2 g3 g4 g5 (fun s' Y' k1 k2 => ?_)
      exact to_fin k1 (by omega) (bi_ok (by omega)) (fr_at hf) (Or.inr (Or.inl ⟨rfl, lt, lg, dd, hh, m', a1, a2, a3, a4, g6⟩))
  · unfold a_wo at a5
    rw [hg, if_pos hq] at a5
    by_cases hcl : q 3 n = -1
    · rw [if_pos hcl] at a5
      exact to_fin h (by omega) (bi_ok (by omega)) hf (Or.inr (Or.inr (Or.inl ⟨rfl, dd, hh, m', v, a2, a3, a4, av, a5⟩)))
    · rw [if_neg hcl] at a5
      obtain ⟨g1, g2, g3, g4, g5, g6⟩ := a5
      refine us_close A hI ih h hq hc hf hR hcl g1 g2 g3 g4 g5 (fun s' Y' k1 k2 => ?_)
      exact to_fin k1 (by omega) (bi_ok (by omega)) (fr_at hf) (Or.inr (Or.inr (Or.inl ⟨rfl, dd, hh, m', v, a2, a3, a4, av, g6⟩)))
/-- the SUPPRESS -/
theorem st_supp {d : Nat} {v : Int} (hm : 0 < Y 1 0) (h : (BG f.1 f.2.1).length = bi) (h1 : K f.1 1 f.2.1 = 19) (h2 : K f.1 2 f.2.1 = (d : Int)) (hv : f.2.2.2.2.1 d = some v) : a_step K BG CH bl mo de (f :: r, false, bi, true, Y) = some (a_throw f r (a_fly (if Y 0 16 = v then Y else yU Y 1 1 (Y 1 1 + 1)) v)) := by
  rw [st_op h h1 h2 rfl rfl rfl]
  show (if 0 < Y 1 0 then (f.2.2.2.2.1 (d : Int).toNat).map _ else none) = _
  rw [if_pos hm, Int.toNat_natCast, hv]; rfl
theorem a_D_supp {v : Int} : a_D q Y (a_fly (if Y 0 16 = v then Y else yU Y 1 1 (Y 1 1 + 1)) v) 1 65 (fun _ _ => 0) := by
  split
  · exact a_D_mono (by decide) (fun _ _ _ => rfl) a_D_fly
  · have h := a_D_trans (a_D_sup (q := q) (Y := Y)) (a_D_fly (q := q) (x := v))
    exact a_D_mono (by decide) (fun _ _ _ => rfl) h
/-- a USING, from its part on -/
theorem us_part {p : Nat} {hs : List (Int × Int)} (A : a_ast q K BG CH bl nv cn kc bd vp) (hI : a_inv K BG CH bl mo de I) (ih : a_ex q K BG CH bl mo de nv cn kc I R) (h : a_to q K BG CH bl mo de I (f0 :: r, false, j, true, Y0) s (f1 :: r, false, bi, true, Y) c (a_bi n)) (hq : q 0 n = 13) (hc : c ≤ -120) (hf : a_fr G f0 f1) (hhas : a_has f0 G.2.1) (hlp : a_lp G) (hR : mo - Y 13 3 ≤ R)
    (hL : a_Ld q (K f0.1) (BG f0.1) (CH f0.1) m (q 2 n).toNat ((n, G.2.2.2.1, G.2.2.2.2, hs) :: G.1, G.2) f1.2.1 bi p)
    (hn : if q 3 n = -1 then hs = [] ∧ e0 = p else (hs = [(-1, ((p + 2 : Nat) : Int))] ∧ e0 = p + 6 ∧
      (BG f0.1 p = [] ∧ K f0.1 1 p = 17 ∧ K f0.1 2 p = q 3 n ∧ K f0.1 5 p = (n : Int) ∧ CH f0.1 p = a_hs G.1) ∧
      (BG f0.1 (p + 1) = [] ∧ K f0.1 1 (p + 1) = 6 ∧ K f0.1 2 (p + 1) = (e0 : Int)) ∧
      (BG f0.1 (p + 2) = [] ∧ K f0.1 1 (p + 2) = 11 ∧ K f0.1 2 (p + 2) = (G.2.1 : Int)) ∧
      (BG f0.1 (p + 3) = [] ∧ K f0.1 1 (p + 3) = 17 ∧ K f0.1 2 (p + 3) = q 3 n ∧ K f0.1 5 (p + 3) = (n : Int) ∧ CH f0.1 (p + 3) = (-1, ((p + 5 : Nat) : Int)) :: a_hs G.1) ∧
      (BG f0.1 (p + 4) = [] ∧ K f0.1 1 (p + 4) = 12 ∧ K f0.1 2 (p + 4) = (G.2.1 : Int) ∧ CH f0.1 (p + 4) = a_hs G.1) ∧
      (BG f0.1 (p + 5) = [] ∧ K f0.1 1 (p + 5) = 19 ∧ K f0.1 2 (p + 5) = (G.2.1 : Int) ∧ CH f0.1 (p + 5) = a_hs G.1))) : a_go q K BG CH bl mo de nv cn kc n G e0 f0 r j Y0 := by
  obtain ⟨Ab, -, -, -, -, -, -, -, -, -, An, -, -, Acb, -, -, -, -, -, -, Ac, -, -, -, Avp⟩ := id A
  have e1 : f1.1 = f0.1 := hf.1
  rcases to_sub (G := ((n, G.2.2.2.1, G.2.2.2.2, hs) :: G.1, G.2)) hI ih h (by omega) (by rw [e1]; exact hL) (has_fr hhas hf (Nat.le_refl _)) (fun lt lg hx => by
    have := hlp lt lg hx
    show lg ≤ (_ :: G.1).length
    rw [List.length_cons]; omega) hR with w | ⟨s', f2, fl, bi', Y', k1, k2, k3, k4⟩
  · exact off_go w
  have k5 := to_drop k1 (Ab n (by omega))
  have k6 : a_fr G f0 f2 := fr_trans hf k2 (Nat.le_refl _) (Nat.le_refl _)
  rcases k3 with ⟨rfl, rfl, v7, v8⟩ | ⟨rfl, lt, lg, dd, h2, m', v7, v8, v9, v10, v11⟩ | ⟨rfl, dd, h2, m', v, v7, v8, v9, v10, v11⟩ | ⟨rfl, rfl, v7, v8⟩
  · by_cases hcl : q 3 n = -1
    · rw [if_pos hcl] at hn
      exact to_fin k5 (by omega) (bi_ok (by omega)) k6 (Or.inl ⟨rfl, rfl, by rw [v7, hn.2], fun hv => v8 (An n hq hv)⟩)
    · rw [if_neg hcl] at hn
      obtain ⟨-, -, ⟨g1, g2, g3, g4, g5⟩, ⟨g6, g7, g8⟩, -⟩ := hn
      refine us_close A hI ih k5 hq (by omega) k6 (by omega) hcl (by rw [k6.1, v7, g1]; rfl) (by rw [k6.1, v7]; exact g2) (by rw [k6.1, v7]; exact g3) (by rw [k6.1, v7]; exact g4) (by rw [k6.1, v7]; exact g5) (fun s2 Y2 u1 u2 => ?_)
      have u3 := to_op hI u1 (st_skip (d := e0) (by show (BG f2.1 (f2.2.1 + 1)).length = 0; rw [k6.1, v7, g6]; rfl) (by show K f2.1 1 (f2.2.1 + 1) = 6; rw [k6.1, v7]; exact g7) (by show K f2.1 2 (f2.2.1 + 1) = _; rw [k6.1, v7]; exact g8)) a_D_same
      exact to_fin u3 (by omega) (bi_ok (by omega)) (fr_at k6) (Or.inl ⟨rfl, rfl, rfl, fun hv => v8 (An n hq hv)⟩)
  · exact us_leave (g := (n, G.2.2.2.1, G.2.2.2.2, hs)) A hI ih k5 hq (by omega) k6 hlp (by omega) rfl (Or.inl ⟨lt, lg, dd, h2, m', v7, v8, v9, v10, v11⟩)
  · exact us_leave (g := (n, G.2.2.2.1, G.2.2.2.2, hs)) A hI ih k5 hq (by omega) k6 hlp (by omega) rfl (Or.inr ⟨dd, h2, m', v, v7, v8, v9, v10, v11⟩)
  · rw [hs_cons] at v7
    have v7' : a_look bl (a_kd Y' (Y' 0 16)) (CH f2.1 f2.2.1) = a_look bl (a_kd Y' (Y' 0 16)) (hs ++ a_hs G.1) := v7
    have hko : a_ko cn kc n Y' := ko_mono (fun x => Acb n x (by omega)) v8
    by_cases hcl : q 3 n = -1
    · rw [if_pos hcl] at hn
      rw [hn.1] at v7'
      exact to_fin k5 (by omega) (bi_ok (by omega)) k6 (Or.inr (Or.inr (Or.inr ⟨rfl, rfl, v7', hko⟩)))
    · rw [if_neg hcl] at hn
      obtain ⟨hhs, -, -, -, ⟨g1, g2, g3⟩, ⟨g4, g5, g6, g7, g8⟩, ⟨g9, g10, g11, g12⟩, ⟨g13, g14, g15, g16⟩⟩ := hn
      rw [hhs] at v7'
      have hfl := (hI.2 _ k5.2.1).2.2 rfl
      dsimp only at hfl
      have u1 := to_op hI k5 (st_look (h := ((p + 2 : Nat) : Int)) (v7'.trans (if_pos (Or.inl rfl)))) a_D_same
      rw [Int.toNat_natCast] at u1
      have e2 : f2.1 = f0.1 := k6.1
      have u2 := to_op hI u1 (st_caught (d := G.2.1) (by omega) (by show (BG f2.1 (p + 2)).length = 0; rw [e2, g1]; rfl) (by show K f2.1 1 (p + 2) = 11; rw [e2]; exact g2) (by show K f2.1 2 (p + 2) = _; rw [e2]; exact g3)) a_D_same
      have hf1 : a_fr G f0 (f2.1, p + 2, f2.2.2) := k6
      have hf2 := fr_upd (i := p + 2 + 1) (v := Y' 0 16) hf1
      have hv : a_upd f2.2.2.2.2.1 G.2.1 (Y' 0 16) G.2.1 = some (Y' 0 16) := if_pos rfl
      rcases to_call2 A hI ih u2 (by omega) (st_op (o := 17) (x := q 3 n) (nd := (n : Int)) (by show (BG f2.1 (p + 2 + 1)).length = 0; rw [e2, g4]; rfl) (by show K f2.1 1 (p + 2 + 1) = 17; rw [e2]; exact g5) (by show K f2.1 2 (p + 2 + 1) = _; rw [e2]; exact g6) rfl rfl (by show K f2.1 5 (p + 2 + 1) = _; rw [e2]; exact g7)) ((Avp n hq).2 hcl) (by omega) with w | ⟨s2, Y2, w1, w2, w3⟩ | ⟨s2, Y2, w1, w2, w3, w4⟩
      · exact off_go w
      · have w5 := to_op hI w1 (st_again (d := G.2.1) (v := Y' 0 16) (by show (BG f2.1 (p + 2 + 1 + 1)).length = 0; rw [e2, g9]; rfl) (by show K f2.1 1 (p + 2 + 1 + 1) = 12; rw [e2]; exact g10) (by show K f2.1 2 (p + 2 + 1 + 1) = _; rw [e2]; exact g11) hv) a_D_fly
        refine to_fin w5 (by omega) (bi_ok (by omega)) (fr_at hf2) (Or.inr (Or.inr (Or.inr ⟨rfl, rfl, by show a_look bl _ (CH f2.1 (p + 2 + 1 + 1)) = _; rw [e2, g12], ?_⟩)))
        unfold a_ko
        have e3 : a_fly Y2 (Y' 0 16) 0 16 = Y' 0 16 := yU_at
        rw [e3]
        have e4 : a_fly Y2 (Y' 0 16) 2 (Y' 0 16).toNat = Y' 2 (Y' 0 16).toNat := (yU_c (by decide)).trans (w3 _ hfl.1 hfl.2)
        rw [e4]
        exact hko
      · have hf3 := (hI.2 _ w1.2.1).2.2 rfl
        change 0 ≤ Y2 0 16 ∧ Y2 0 16 < Y2 1 0 at hf3
        have w5 := to_op hI w1 (st_look (h := ((p + 5 : Nat) : Int)) (by show a_look bl _ (CH f2.1 (p + 2 + 1)) = _; rw [e2, g8]; exact if_pos (Or.inl rfl))) a_D_same
        rw [Int.toNat_natCast] at w5
        have w6 := to_step hI w5 (st_supp (d := G.2.1) (v := Y' 0 16) (by omega) (by show (BG f2.1 (p + 5)).length = 0; rw [e2, g13]; rfl) (by show K f2.1 1 (p + 5) = 19; rw [e2]; exact g14) (by show K f2.1 2 (p + 5) = _; rw [e2]; exact g15) hv) a_D_supp
        have w7 := to_imb (e1 := a_bi n) w6 (Int.le_refl _) (fun k x _ => by show a_bi n k x + 0 = _; omega)
        refine to_fin w7 (by omega) (bi_ok (by omega)) (fr_at hf2) (Or.inr (Or.inr (Or.inr ⟨rfl, rfl, by show a_look bl _ (CH f2.1 (p + 5)) = _; rw [e2, g16], ?_⟩)))
        unfold a_ko
        have e3 : ∀ Z : yM, a_fly Z (Y' 0 16) 0 16 = Y' 0 16 := fun Z => yU_at
        rw [e3]
        have e4 : a_fly (if Y2 0 16 = Y' 0 16 then Y2 else yU Y2 1 1 (Y2 1 1 + 1)) (Y' 0 16) 2 (Y' 0 16).toNat = Y' 2 (Y' 0 16).toNat := by
          refine (yU_c (by decide)).trans ?_
          rw [← w4 _ hfl.1 hfl.2]
          split
          · rfl
          · exact yU_c (by decide)
        rw [e4]
        exact hko
/-- a USING -/
theorem nd_using (A : a_ast q K BG CH bl nv cn kc bd vp) (hI : a_inv K BG CH bl mo de I) (ih : a_ex q K BG CH bl mo de nv cn kc I R) (h : a_to q K BG CH bl mo de I (f :: r, false, j, true, Y0) 1 (f :: r, false, j + 1, true, Y) (-127) (a_bi n)) (hh : a_has f G.2.1) (hlp : a_lp G) (hR : mo - Y 13 3 ≤ R) (hq : q 0 n = 13)
    (hn : a_using q (K f.1) (BG f.1) (CH f.1) (a_Ld q (K f.1) (BG f.1) (CH f.1) m) n G f.2.1 j e0) : a_go q K BG CH bl mo de nv cn kc n G e0 f r j Y0 := by
  obtain ⟨i', j', p, hs, ho, hL, hn⟩ := hn
  obtain ⟨-, -, -, -, -, -, -, -, -, -, -, -, -, -, -, -, -, -, -, Aca, -, -, -, -, Avp⟩ := id A
  by_cases ha : q 1 n = -1
  · rw [if_pos ha] at ho
    obtain ⟨rfl, rfl⟩ := ho
    exact us_part A hI ih h hq (by omega) fr_refl hh hlp hR hL hn
  · rw [if_neg ha] at ho
    obtain ⟨g1, g2, g3, g4, g5, rfl, rfl⟩ := ho
    rcases to_call A hI ih h (by omega) (st_op g1 g2 g3 rfl rfl g4) ((Avp n hq).1 ha) hR with k1 | ⟨s', Y', k1, k2⟩ | ⟨s', Y', k1, k2, k3⟩
    · exact off_go k1
    · exact us_part A hI ih k1 hq (by omega) (fr_at fr_refl) hh hlp k2 hL hn
    · exact to_fin k1 (by omega) (bi_ok (by omega)) fr_refl (Or.inr (Or.inr (Or.inr ⟨rfl, rfl, by rw [g5], ko_mono (fun x => Aca n x hq ha) k3⟩)))
/-- every node that is laid runs as it should -/
theorem ex_all (A : a_ast q K BG CH bl nv cn kc bd vp) (hI : a_inv K BG CH bl mo de I) : ∀ R, a_ex q K BG CH bl mo de nv cn kc I R
  | 0 => by
    intro m n G i j e0 f r Y hX hi hL hh hlp hR
    cases m with
    | zero => exact hL.elim
    | succ m =>
      rcases nd_start (q := q) (R := 0) hI hX (n := n) (by rw [hi]; exact hL.1) (by omega) with h | ⟨h, hR'⟩
      · exact off_go h
      · have h1 := (hI.2 _ h.2.1).2.1
        dsimp only at h1
        have h3 : a_begin Y n 13 3 = Y 13 3 + 1 := by
          unfold a_begin
          rw [yU_c (by decide), yU_at]
        omega
  | R + 1 => by
    have ih := ex_all A hI R
    intro m n G i j e0 f r Y hX hi hL hh hlp hR
    subst hi
    cases m with
    | zero => exact hL.elim
    | succ m =>
      rcases nd_start (q := q) (R := R) hI hX (n := n) hL.1 (by omega) with h | ⟨h, hR'⟩
      · exact off_go h
      · have hn : a_node q (K f.1) (BG f.1) (CH f.1) (a_Ld q (K f.1) (BG f.1) (CH f.1) m) n G f.2.1 j e0 := hL.2
        unfold a_node at hn
        dsimp only at hn
        by_cases h0 : q 0 n = 0
        · rw [if_pos h0] at hn
          exact nd_one A hI ih h hh hR' (Or.inl ⟨h0, hn⟩)
        rw [if_neg h0] at hn
        by_cases h1 : q 0 n = 1
        · rw [if_pos h1] at hn
          exact nd_one A hI ih h hh hR' (Or.inr (Or.inl ⟨h1, hn⟩))
        rw [if_neg h1] at hn
        by_cases h2 : q 0 n = 2
        · rw [if_pos h2] at hn
          exact nd_one A hI ih h hh hR' (Or.inr (Or.inr (Or.inl ⟨h2, hn⟩)))
        rw [if_neg h2] at hn
        by_cases h3 : q 0 n = 3
        · rw [if_pos h3] at hn
          exact nd_one A hI ih h hh hR' (Or.inr (Or.inr (Or.inr (Or.inl ⟨h3, hn⟩))))
        rw [if_neg h3] at hn
        by_cases h4 : q 0 n = 4
        · rw [if_pos h4] at hn
          exact nd_seq A hI ih h hh hlp hR' h4 hn
        rw [if_neg h4] at hn
        by_cases h5 : q 0 n = 5
        · rw [if_pos h5] at hn
          exact nd_if A hI ih h hh hlp hR' h5 hn
        rw [if_neg h5] at hn
        by_cases h6 : q 0 n = 6
        · rw [if_pos h6] at hn
          exact nd_loop A hI ih h hh hR' h6 hn
        rw [if_neg h6] at hn
        by_cases h7 : q 0 n = 7
        · rw [if_pos h7] at hn
          exact nd_break h hh h7 hn
        rw [if_neg h7] at hn
        by_cases h8 : q 0 n = 8
        · rw [if_pos h8] at hn
          exact nd_return hI h hh h8 hn
        rw [if_neg h8] at hn
        by_cases h9 : q 0 n = 9
        · rw [if_pos h9] at hn
          exact nd_one A hI ih h hh hR' (Or.inr (Or.inr (Or.inr (Or.inr (Or.inl ⟨h9, hn⟩)))))
        rw [if_neg h9] at hn
        by_cases h10 : q 0 n = 10
        · rw [if_pos h10] at hn
          exact nd_one A hI ih h hh hR' (Or.inr (Or.inr (Or.inr (Or.inr (Or.inr (Or.inl ⟨h10, hn⟩))))))
        rw [if_neg h10] at hn
        by_cases h11 : q 0 n = 11
        · rw [if_pos h11] at hn
          exact nd_try A hI ih h hh hlp hR' h11 hn
        rw [if_neg h11] at hn
        by_cases h13 : q 0 n = 13
        · rw [if_pos h13] at hn
          exact nd_using A hI ih h hh hlp hR' h13 hn
        rw [if_neg h13] at hn
        by_cases h14 : q 0 n = 14
        · rw [if_pos h14] at hn
          exact nd_one A hI ih h hh hR' (Or.inr (Or.inr (Or.inr (Or.inr (Or.inr (Or.inr (Or.inr ⟨hn.1, hn.2.1, Or.inl ⟨h14, hn.2.2⟩⟩)))))))
        rw [if_neg h14] at hn
        by_cases h15 : q 0 n = 15
        · rw [if_pos h15] at hn
          exact nd_one A hI ih h hh hR' (Or.inr (Or.inr (Or.inr (Or.inr (Or.inr (Or.inr (Or.inr ⟨hn.1, hn.2.1, Or.inr (Or.inl ⟨h15, hn.2.2⟩)⟩)))))))
        rw [if_neg h15] at hn
        by_cases h16 : q 0 n = 16
        · rw [if_pos h16] at hn
          exact nd_one A hI ih h hh hR' (Or.inr (Or.inr (Or.inr (Or.inr (Or.inr (Or.inr (Or.inr ⟨hn.1, hn.2.1, Or.inr (Or.inr (Or.inl ⟨h16, hn.2.2⟩))⟩)))))))
        rw [if_neg h16] at hn
        by_cases h17 : q 0 n = 17
        · rw [if_pos h17] at hn
          exact nd_one A hI ih h hh hR' (Or.inr (Or.inr (Or.inr (Or.inr (Or.inr (Or.inr (Or.inr ⟨hn.1, hn.2.1, Or.inr (Or.inr (Or.inr ⟨h17, hn.2.2⟩))⟩)))))))
        rw [if_neg h17] at hn
        by_cases h18 : q 0 n = 18
        · rw [if_pos h18] at hn
          exact nd_one A hI ih h hh hR' (Or.inr (Or.inr (Or.inr (Or.inr (Or.inr (Or.inr (Or.inl ⟨h18, hn⟩)))))))
        rw [if_neg h18] at hn
        exact hn.elim
end AUs
