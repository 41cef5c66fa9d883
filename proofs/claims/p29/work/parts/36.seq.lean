/-! sequences, conditions, loops, breaks, returns -/
section ASq
variable {q : Nat → Nat → Int} {K : Nat → Nat → Nat → Int} {BG : Nat → Nat → List Nat} {CH : Nat → Nat → List (Int × Int)} {bl : Int → Int → Bool} {mo de : Int} {nv : Nat → Prop} {cn : Nat → Int → Prop} {kc : Int → Prop} {I : aX → Prop}
variable {f f0 f' f1 f2 : aF} {r : List aF} {j i bi s n R : Nat} {Y Y0 Y1 : yM} {G : aC} {e0 m : Nat} {c c1 : Int} {e e1 : Nat → Nat → Int} {X0 X : aX} {bd : Nat → Nat} {vp : Nat → Prop}
theorem has_same (h : a_has f G.2.1) {d : Nat} (hd : d ≤ G.2.1) (hf : a_fr G f f1) : a_has f1 d := has_le (has_fr h hf (Nat.le_refl _)) hd
/-- a part that is laid in the same surroundings -/
theorem go_part {n1 e' : Nat} (hI : a_inv K BG CH bl mo de I) (ih : a_ex q K BG CH bl mo de nv cn kc I R) (h : a_to q K BG CH bl mo de I (f0 :: r, false, j, true, Y0) s (f :: r, false, bi, true, Y) c (a_bi n)) (hq : q 0 n ≠ 11) (hc : c ≤ 0) (hf : a_fr G f0 f) (hL : a_Ld q (K f.1) (BG f.1) (CH f.1) m n1 G f.2.1 bi e') (hb : ∀ k, ¬ a_tf q k n1) (hh : a_has f0 G.2.1) (hlp : a_lp G) (hR : mo - Y 13 3 ≤ R) (hcn : ∀ x, cn n1 x → cn n x)
    (kont : ∀ s' f' Y', a_to q K BG CH bl mo de I (f0 :: r, false, j, true, Y0) s' (f' :: r, false, 0, true, Y') (c - 4) (a_bi n) → a_fr G f0 f' → f'.2.1 = e' → ¬ nv n1 → mo - Y' 13 3 ≤ R → a_go q K BG CH bl mo de nv cn kc n G e0 f0 r j Y0) : a_go q K BG CH bl mo de nv cn kc n G e0 f0 r j Y0 := by
  rcases to_sub hI ih h hc hL (has_fr hh hf (Nat.le_refl _)) hlp hR with k1 | ⟨s', f', fl, bi', Y', k1, k2, k3, k4⟩
  · exact off_go k1
  · have k5 := to_drop k1 hb
    have k6 := fr_trans hf k2 (Nat.le_refl _) (Nat.le_refl _)
    rcases lv_up (G := G) (n := n) k3 (Nat.le_refl _) (Nat.le_refl _) hcn e0 with ⟨rfl, rfl, k7, k8⟩ | k7
    · exact kont s' f' Y' k5 k6 k7 k8 (by omega)
    · exact to_fin k5 (by omega) (bi_ok hq) k6 k7
theorem nd_seq (A : a_ast q K BG CH bl nv cn kc bd vp) (hI : a_inv K BG CH bl mo de I) (ih : a_ex q K BG CH bl mo de nv cn kc I R) (h : a_to q K BG CH bl mo de I (f :: r, false, j, true, Y0) 1 (f :: r, false, j + 1, true, Y) (-127) (a_bi n)) (hh : a_has f G.2.1) (hlp : a_lp G) (hR : mo - Y 13 3 ≤ R) (hs : q 0 n = 4)
    (hn : ∃ mid, a_Ld q (K f.1) (BG f.1) (CH f.1) m (q 2 n).toNat G f.2.1 (j + 1) mid ∧ a_Ld q (K f.1) (BG f.1) (CH f.1) m (q 3 n).toNat G mid 0 e0) : a_go q K BG CH bl mo de nv cn kc n G e0 f r j Y0 := by
  obtain ⟨mid, h1, h2⟩ := hn
  obtain ⟨Ab, Ac, -, -, -, -, An, -, -, -, -, -, -, Acb, Acc, -⟩ := id A
  refine go_part hI ih h (by omega) (by omega) fr_refl h1 (Ab n (Or.inl hs)) hh hlp hR (fun x => Acb n x (Or.inl hs)) (fun s' f' Y' k1 k2 k3 k4 k5 => ?_)
  refine go_part hI ih k1 (by omega) (by omega) k2 (by rw [k2.1, k3]; exact h2) (Ac n (Or.inl hs)) hh hlp k5 (fun x => Acc n x (Or.inl hs)) (fun s2 f2 Y2 g1 g2 g3 g4 g5 => ?_)
  exact to_fin g1 (by omega) (bi_ok (by omega)) g2 (Or.inl ⟨rfl, rfl, g3, fun hv => by
    rcases An n hs hv with q1 | q1
    · exact k4 q1
    · exact g4 q1⟩)
theorem nd_if (A : a_ast q K BG CH bl nv cn kc bd vp) (hI : a_inv K BG CH bl mo de I) (ih : a_ex q K BG CH bl mo de nv cn kc I R) (h : a_to q K BG CH bl mo de I (f :: r, false, j, true, Y0) 1 (f :: r, false, j + 1, true, Y) (-127) (a_bi n)) (hh : a_has f G.2.1) (hlp : a_lp G) (hR : mo - Y 13 3 ≤ R) (hs : q 0 n = 5)
    (hn : (BG f.1 f.2.1).length = j + 1 ∧ K f.1 1 f.2.1 = 5 ∧ K f.1 3 f.2.1 = q 1 n ∧ ∃ mid, a_Ld q (K f.1) (BG f.1) (CH f.1) m (q 2 n).toNat G (f.2.1 + 1) 0 mid ∧ (if q 3 n = -1 then e0 = mid ∧ K f.1 2 f.2.1 = (e0 : Int) else (BG f.1 mid = [] ∧ K f.1 1 mid = 6 ∧ K f.1 2 mid = (e0 : Int) ∧ K f.1 2 f.2.1 = ((mid + 1 : Nat) : Int) ∧ a_Ld q (K f.1) (BG f.1) (CH f.1) m (q 3 n).toNat G (mid + 1) 0 e0))) : a_go q K BG CH bl mo de nv cn kc n G e0 f r j Y0 := by
  obtain ⟨g1, g2, g3, mid, h1, h2⟩ := hn
  obtain ⟨Ab, Ac, -, -, -, -, -, An, -, -, -, -, -, Acb, Acc, -⟩ := id A
  have hst := st_op (K := K) (CH := CH) (bl := bl) (mo := mo) (de := de) (r := r) (Y := Y) g1 g2 rfl g3 rfl rfl
  have hop : a_op de f r Y 5 (K f.1 2 f.2.1) (q 1 n) (K f.1 4 f.2.1) (K f.1 5 f.2.1) = some (a_at f r (if 0 < yw (a_val Y (q 1 n)) then f.2.1 + 1 else (K f.1 2 f.2.1).toNat) Y) := rfl
  have hst := hst.trans hop
  by_cases hv : 0 < yw (a_val Y (q 1 n))
  · rw [if_pos hv] at hst
    have k0 := to_op hI h hst a_D_same
    refine go_part hI ih k0 (by omega) (by omega) (fr_at (i := f.2.1 + 1) fr_refl) h1 (Ab n (Or.inr (Or.inl hs))) hh hlp hR (fun x => Acb n x (Or.inr (Or.inl hs))) (fun s' f' Y' k1 k2 k3 k4 k5 => ?_)
    by_cases hc : q 3 n = -1
    · rw [if_pos hc] at h2
      exact to_fin k1 (by omega) (bi_ok (by omega)) k2 (Or.inl ⟨rfl, rfl, by rw [k3, h2.1], fun hv => (An n hs hv).1 hc⟩)
    · rw [if_neg hc] at h2
      obtain ⟨b1, b2, b3, b4, b5⟩ := h2
      have hst2 : a_step K BG CH bl mo de (f' :: r, false, 0, true, Y') = some (a_at f' r e0 Y') := by
        rw [st_op (o := 6) (x := (e0 : Int)) (by rw [k2.1, k3, b1]; rfl) (by rw [k2.1, k3]; exact b2) (by rw [k2.1, k3]; exact b3) rfl rfl rfl]
        show some (a_at f' r (e0 : Int).toNat Y') = _
        rw [Int.toNat_natCast]
      exact to_fin (to_op hI k1 hst2 a_D_same) (by omega) (bi_ok (by omega)) (fr_at k2) (Or.inl ⟨rfl, rfl, rfl, fun hv => k4 (An n hs hv).2.1⟩)
  · rw [if_neg hv] at hst
    have k0 := to_op hI h hst a_D_same
    by_cases hc : q 3 n = -1
    · rw [if_pos hc] at h2
      exact to_fin k0 (by omega) (bi_ok (by omega)) (fr_at fr_refl) (Or.inl ⟨rfl, rfl, by show (K f.1 2 f.2.1).toNat = e0; rw [h2.2, Int.toNat_natCast], fun hv => (An n hs hv).1 hc⟩)
    · rw [if_neg hc] at h2
      obtain ⟨b1, b2, b3, b4, b5⟩ := h2
      refine go_part hI ih k0 (by omega) (by omega) (fr_at fr_refl) (by show a_Ld q (K f.1) (BG f.1) (CH f.1) m _ G (K f.1 2 f.2.1).toNat 0 _; rw [b4, Int.toNat_natCast]; exact b5) (Ac n (Or.inr ⟨hs, hc⟩)) hh hlp hR (fun x => Acc n x (Or.inr ⟨hs, hc⟩)) (fun s' f' Y' k1 k2 k3 k4 k5 => ?_)
      exact to_fin k1 (by omega) (bi_ok (by omega)) k2 (Or.inl ⟨rfl, rfl, k3, fun hv => k4 (An n hs hv).2.2⟩)
theorem wb_here {k : Nat → Nat → Int} {bg : Nat → List Nat} {ch : Nat → List (Int × Int)} {P : Nat → aC → Nat → Nat → Nat → Prop} {lt d hh : Nat} {gs : List aG} (h : a_wb q k bg ch P lt gs.length gs d hh i bi) : (bg i).length = bi ∧ k 1 i = 6 ∧ k 2 i = (lt : Int) := by
  cases gs with
  | nil => exact h.2
  | cons g gs =>
    unfold a_wb at h
    rw [if_pos (show gs.length + 1 = (g :: gs).length from rfl)] at h
    exact h
theorem nd_loop (A : a_ast q K BG CH bl nv cn kc bd vp) (hI : a_inv K BG CH bl mo de I) (ih : a_ex q K BG CH bl mo de nv cn kc I R) (h : a_to q K BG CH bl mo de I (f :: r, false, j, true, Y0) 1 (f :: r, false, j + 1, true, Y) (-127) (a_bi n)) (hh : a_has f G.2.1) (hR : mo - Y 13 3 ≤ R) (hs : q 0 n = 6)
    (hn : (BG f.1 f.2.1).length = j + 1 ∧ K f.1 1 f.2.1 = 20 ∧ BG f.1 (f.2.1 + 1) = [] ∧ K f.1 1 (f.2.1 + 1) = 5 ∧ K f.1 2 (f.2.1 + 1) = (e0 : Int) ∧ K f.1 3 (f.2.1 + 1) = 100 + q 1 n ∧ ∃ mid, a_Ld q (K f.1) (BG f.1) (CH f.1) m (q 2 n).toNat (G.1, G.2.1, G.2.2.1, G.2.2.2.1, some (e0, G.1.length)) (f.2.1 + 2) 0 mid ∧ BG f.1 mid = [] ∧ K f.1 1 mid = 6 ∧ K f.1 2 mid = ((f.2.1 + 1 : Nat) : Int) ∧ e0 = mid + 1) : a_go q K BG CH bl mo de nv cn kc n G e0 f r j Y0 := by
  obtain ⟨g1, g2, g3, g4, g5, g6, mid, h1, b1, b2, b3, b4⟩ := hn
  obtain ⟨Ab, -, -, -, -, -, -, -, An, -, -, -, -, Acb, -⟩ := id A
  have hst : a_step K BG CH bl mo de (f :: r, false, j + 1, true, Y) = some (a_at f r (f.2.1 + 1) Y) := st_op g1 g2 rfl rfl rfl rfl
  have k0 := to_op hI h hst a_D_same
  have hnv : ¬ nv n := An n (by omega)
  have test : ∀ R' : Nat, ∀ s' f' Y', a_to q K BG CH bl mo de I (f :: r, false, j, true, Y0) s' (f' :: r, false, 0, true, Y') (-126) (a_bi n) → a_fr G f f' → f'.2.1 = f.2.1 + 1 → mo - Y' 13 3 ≤ R → mo - Y' 13 3 ≤ R' → a_go q K BG CH bl mo de nv cn kc n G e0 f r j Y0 := by
    intro R'
    induction R' with
    | zero =>
      intro s' f' Y' t1 t2 t3 t4 t5
      have hst : a_step K BG CH bl mo de (f' :: r, false, 0, true, Y') = some (a_at f' r (if 0 < yw (a_val Y' (100 + q 1 n)) then f'.2.1 + 1 else e0) Y') := by
        rw [st_op (o := 5) (x := (e0 : Int)) (y := 100 + q 1 n) (by rw [t2.1, t3, g3]; rfl) (by rw [t2.1, t3]; exact g4) (by rw [t2.1, t3]; exact g5) (by rw [t2.1, t3]; exact g6) rfl rfl]
        show some (a_at f' r (if 0 < yw (a_val Y' (100 + q 1 n)) then f'.2.1 + 1 else (e0 : Int).toNat) Y') = _
        rw [Int.toNat_natCast]
      have u0 := to_op hI t1 hst a_D_same
      by_cases hv : 0 < yw (a_val Y' (100 + q 1 n))
      · rw [if_pos hv] at u0
        rcases to_sub (n := (q 2 n).toNat) (m := m) (e0 := mid) (G := (G.1, G.2.1, G.2.2.1, G.2.2.2.1, some (e0, G.1.length))) hI ih u0 (by omega) (by show a_Ld q (K f'.1) (BG f'.1) (CH f'.1) m _ _ (f'.2.1 + 1) 0 mid; rw [t2.1, t3]; exact h1) (has_fr hh (fr_at t2) (Nat.le_refl _)) (fun lt lg hx => by cases hx; exact Nat.le_refl _) t4 with v1 | ⟨s2, f2, fl, b2', Y2, v1, v2, v3, v4⟩
        · exact off_go v1
        · have w1 := hI.2 _ v1.2.1
          dsimp only at w1
          omega
      · rw [if_neg hv] at u0
        exact to_fin u0 (by omega) (bi_ok (by omega)) (fr_at t2) (Or.inl ⟨rfl, rfl, rfl, hnv⟩)
    | succ R' ihR =>
      intro s' f' Y' t1 t2 t3 t4 t5
      have hst : a_step K BG CH bl mo de (f' :: r, false, 0, true, Y') = some (a_at f' r (if 0 < yw (a_val Y' (100 + q 1 n)) then f'.2.1 + 1 else e0) Y') := by
        rw [st_op (o := 5) (x := (e0 : Int)) (y := 100 + q 1 n) (by rw [t2.1, t3, g3]; rfl) (by rw [t2.1, t3]; exact g4) (by rw [t2.1, t3]; exact g5) (by rw [t2.1, t3]; exact g6) rfl rfl]
        show some (a_at f' r (if 0 < yw (a_val Y' (100 + q 1 n)) then f'.2.1 + 1 else (e0 : Int).toNat) Y') = _
        rw [Int.toNat_natCast]
      have u0 := to_op hI t1 hst a_D_same
      by_cases hv : 0 < yw (a_val Y' (100 + q 1 n))
      · rw [if_pos hv] at u0
        rcases to_sub (n := (q 2 n).toNat) (m := m) (e0 := mid) (G := (G.1, G.2.1, G.2.2.1, G.2.2.2.1, some (e0, G.1.length))) hI ih u0 (by omega) (by show a_Ld q (K f'.1) (BG f'.1) (CH f'.1) m _ _ (f'.2.1 + 1) 0 mid; rw [t2.1, t3]; exact h1) (has_fr hh (fr_at t2) (Nat.le_refl _)) (fun lt lg hx => by cases hx; exact Nat.le_refl _) t4 with v1 | ⟨s2, f2, fl, b2', Y2, v1, v2, v3, v4⟩
        · exact off_go v1
        · have v5 := to_drop v1 (Ab n (Or.inr (Or.inr (Or.inl hs))))
          have v6 : a_fr G f f2 := fr_trans (fr_at (i := f'.2.1 + 1) t2) v2 (Nat.le_refl _) (Nat.le_refl _)
          rcases v3 with ⟨rfl, rfl, v7, v8⟩ | ⟨rfl, lt, lg, dd, h2, m', v7, v8, v9, v10, v11⟩ | ⟨rfl, dd, h2, m', v, v7, v8, v9, v10, v11⟩ | ⟨rfl, rfl, v7, v8⟩
          · have hst2 : a_step K BG CH bl mo de (f2 :: r, false, 0, true, Y2) = some (a_at f2 r (f.2.1 + 1) Y2) := by
              rw [st_op (o := 6) (x := ((f.2.1 + 1 : Nat) : Int)) (by rw [v6.1, v7, b1]; rfl) (by rw [v6.1, v7]; exact b2) (by rw [v6.1, v7]; exact b3) rfl rfl rfl]
              show some (a_at f2 r ((f.2.1 + 1 : Nat) : Int).toNat Y2) = _
              rw [Int.toNat_natCast]
            exact ihR _ _ _ (to_imb (to_op hI v5 hst2 a_D_same) (by omega) (fun _ _ _ => rfl)) (fr_at v6) rfl (by show mo - Y2 13 3 ≤ R; omega) (by show mo - Y2 13 3 ≤ R'; omega)
          · cases v7
            obtain ⟨x1, x2, x3⟩ := wb_here v11
            have hst2 : a_step K BG CH bl mo de (f2 :: r, false, b2', true, Y2) = some (a_at f2 r e0 Y2) := by
              rw [st_op (o := 6) (x := (e0 : Int)) x1 x2 x3 rfl rfl rfl]
              show some (a_at f2 r (e0 : Int).toNat Y2) = _
              rw [Int.toNat_natCast]
            exact to_fin (to_op hI v5 hst2 a_D_same) (by omega) (bi_ok (by omega)) (fr_at v6) (Or.inl ⟨rfl, rfl, rfl, hnv⟩)
          · exact to_fin v5 (by omega) (bi_ok (by omega)) v6 (Or.inr (Or.inr (Or.inl ⟨rfl, dd, h2, m', v, v7, v8, v9, v10, v11⟩)))
          · exact to_fin v5 (by omega) (bi_ok (by omega)) v6 (Or.inr (Or.inr (Or.inr ⟨rfl, rfl, v7, ko_mono (fun x => Acb n x (Or.inr (Or.inr (Or.inl hs)))) v8⟩)))
      · rw [if_neg hv] at u0
        exact to_fin u0 (by omega) (bi_ok (by omega)) (fr_at t2) (Or.inl ⟨rfl, rfl, rfl, hnv⟩)
  exact test R _ _ _ k0 (fr_at fr_refl) rfl hR hR
theorem nd_break (h : a_to q K BG CH bl mo de I (f :: r, false, j, true, Y0) 1 (f :: r, false, j + 1, true, Y) (-127) (a_bi n)) (hh : a_has f G.2.1) (hs : q 0 n = 7)
    (hn : ∃ lt lg, G.2.2.2.2 = some (lt, lg) ∧ a_wb q (K f.1) (BG f.1) (CH f.1) (a_Ld q (K f.1) (BG f.1) (CH f.1) m) lt lg G.1 G.2.1 G.2.2.1 f.2.1 (j + 1)) : a_go q K BG CH bl mo de nv cn kc n G e0 f r j Y0 := by
  obtain ⟨lt, lg, h1, h2⟩ := hn
  exact to_fin h (by omega) (bi_ok (by omega)) fr_refl (Or.inr (Or.inl ⟨rfl, lt, lg, G.2.1, G.2.2.1, m, h1, Nat.le_refl _, Nat.le_refl _, hh, h2⟩))
theorem nd_return (hI : a_inv K BG CH bl mo de I) (h : a_to q K BG CH bl mo de I (f :: r, false, j, true, Y0) 1 (f :: r, false, j + 1, true, Y) (-127) (a_bi n)) (hh : a_has f G.2.1) (hs : q 0 n = 8)
    (hn : (BG f.1 f.2.1).length = j + 1 ∧ K f.1 1 f.2.1 = 7 ∧ K f.1 2 f.2.1 = q 2 n ∧ K f.1 3 f.2.1 = (G.2.2.1 : Int) ∧ a_wo q (K f.1) (BG f.1) (CH f.1) (a_Ld q (K f.1) (BG f.1) (CH f.1) m) G.1 G.2.1 G.2.2.1 (f.2.1 + 1) 0) : a_go q K BG CH bl mo de nv cn kc n G e0 f r j Y0 := by
  obtain ⟨g1, g2, g3, g4, g5⟩ := hn
  have hst : a_step K BG CH bl mo de (f :: r, false, j + 1, true, Y) = some (a_at (f.1, f.2.1, f.2.2.1, f.2.2.2.1, f.2.2.2.2.1, a_upd f.2.2.2.2.2 G.2.2.1 (a_val Y (q 2 n))) r (f.2.1 + 1) Y) := by
    rw [st_op g1 g2 g3 g4 rfl rfl]
    show some (a_at (f.1, f.2.1, f.2.2.1, f.2.2.2.1, f.2.2.2.2.1, a_upd f.2.2.2.2.2 (G.2.2.1 : Int).toNat (a_val Y (q 2 n))) r (f.2.1 + 1) Y) = _
    rw [Int.toNat_natCast]
  refine to_fin (to_op hI h hst a_D_same) (by omega) (bi_ok (by omega)) ⟨rfl, rfl, rfl, fun _ _ => rfl, fun x hx => ?_⟩ (Or.inr (Or.inr (Or.inl ⟨rfl, G.2.1, G.2.2.1, m, a_val Y (q 2 n), Nat.le_refl _, Nat.le_refl _, hh, ?_, g5⟩)))
  · show a_upd f.2.2.2.2.2 G.2.2.1 _ x = _
    unfold a_upd
    rw [if_neg (by omega)]
  · show a_upd f.2.2.2.2.2 G.2.2.1 _ G.2.2.1 = _
    unfold a_upd
    rw [if_pos rfl]
end ASq
