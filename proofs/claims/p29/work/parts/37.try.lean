/-! a TRY -/
section ATr
variable {q : Nat → Nat → Int} {K : Nat → Nat → Nat → Int} {BG : Nat → Nat → List Nat} {CH : Nat → Nat → List (Int × Int)} {bl : Int → Int → Bool} {mo de : Int} {nv : Nat → Prop} {cn : Nat → Int → Prop} {kc : Int → Prop} {I : aX → Prop}
variable {f f0 f' f1 f2 : aF} {r : List aF} {j i bi s n R : Nat} {Y Y0 Y1 : yM} {G : aC} {e0 m : Nat} {c c1 : Int} {e e1 : Nat → Nat → Int} {X0 X : aX} {bd : Nat → Nat} {vp : Nat → Prop}
/-- a part, and what of the kinds stays -/
theorem to_sub2 (hI : a_inv K BG CH bl mo de I) (ih : a_ex q K BG CH bl mo de nv cn kc I R) (h : a_to q K BG CH bl mo de I X0 s (f :: r, false, bi, true, Y) c e) (hc : c ≤ 0) (hL : a_Ld q (K f.1) (BG f.1) (CH f.1) m n G f.2.1 bi e0) (hh : a_has f G.2.1) (hlp : a_lp G) (hR : mo - Y 13 3 ≤ R) :
    a_off K BG CH bl mo de X0 ∨ ∃ s' f' fl bi' Y', a_to q K BG CH bl mo de I X0 s' (f' :: r, fl, bi', true, Y') (c - 4) (fun k x => e k x + if x = n then 1 else 0) ∧ a_fr G f f' ∧ a_lv q K BG CH bl nv cn kc n G e0 f' fl bi' Y' ∧ Y 13 3 + 1 ≤ Y' 13 3 ∧ (∀ x : Int, 0 ≤ x → x < Y 1 0 → Y' 2 x.toNat = Y 2 x.toNat) := by
  obtain ⟨h1, h2, h3⟩ := h
  obtain ⟨t, X', g1, g2⟩ := ih m n G f.2.1 bi e0 f r Y h2 rfl hL hh hlp hR
  have g3 := a_run_add K BG CH bl mo de (t := t) h1
  rw [g1] at g3
  rcases g2 with ⟨fr', bi', Y', rfl, b1, b2, b3, b4, b5⟩ | ⟨f', fl, bi', Y', rfl, b1, b2, b3⟩
  · left
    obtain ⟨a1, a2, a3, a5, a6, a7, a8⟩ := h3
    refine ⟨s + t, _, g3, fr', bi', Y', rfl, b1, ?_⟩
    dsimp only at a1 a2 a3 a7
    exact ⟨by omega, by omega, by omega, by omega⟩
  · right
    have h4 := a_D_trans h3 b2
    refine ⟨s + t, f', fl, bi', Y', ⟨g3, run_inv hI h2 g1, a_D_mono (Int.le_of_eq (by omega)) (fun _ _ _ => rfl) h4⟩, b1, b3, ?_, b2.2.2.2.2.1⟩
    have k1 := b2.2.1
    have k2 := b2.2.2.1
    omega
theorem to_begin {n' : Nat} (hI : a_inv K BG CH bl mo de I) (h : a_to q K BG CH bl mo de I X0 s (f :: r, false, bi, true, Y) c e) (hc : c ≤ 0) (hb : (BG f.1 f.2.1)[bi]? = some n') :
    a_off K BG CH bl mo de X0 ∨ (a_to q K BG CH bl mo de I X0 (s + 1) (f :: r, false, bi + 1, true, a_begin Y n') (c - 127) (fun k x => e k x + a_bi n' k x) ∧ a_begin Y n' 13 3 = Y 13 3 + 1 ∧ a_begin Y n' 0 16 = Y 0 16 ∧ (∀ x, a_begin Y n' 2 x = Y 2 x) ∧ a_begin Y n' 1 0 = Y 1 0) := by
  by_cases hm : mo ≤ Y 13 3
  · left
    obtain ⟨h1, h2, a1, a2, a3, a5, a6, a7, a8⟩ := h
    dsimp only at a1 a2 a3 a7
    refine ⟨s + 1, _, by rw [a_run_add K BG CH bl mo de h1]; exact run_one (st_cut hb hm), f :: r, bi, Y, rfl, hm, a1, ?_, a3, a7⟩
    omega
  · right
    refine ⟨to_imb (to_step hI h (st_begin hb hm) a_D_begin) (by omega) (fun _ _ _ => rfl), ?_, ?_, fun x => ?_, ?_⟩
    · unfold a_begin
      rw [yU_c (by decide), yU_at]
    · unfold a_begin
      rw [yU_c (by decide), yU_c (by decide)]
    · unfold a_begin
      rw [yU_c (by decide), yU_c (by decide)]
    · unfold a_begin
      rw [yU_c (by decide), yU_c (by decide)]
theorem fin_imb (A : a_ast q K BG CH bl nv cn kc bd vp) (hq : q 0 n = 11) (hf : q 1 n ≠ -1) (k x : Nat) (hx : a_tf q k x) : a_bi n k x + (if x = (q 1 n).toNat then 1 else 0) = if x = n then 1 else 0 := by
  obtain ⟨-, -, -, A4, -, A6, -⟩ := id A
  have hp : 0 ≤ q 1 n := by
    rcases A6 n hq with h | h
    · exact absurd h hf
    · exact h
  have ht : a_tf q n (q 1 n).toNat := ⟨hq, by omega⟩
  unfold a_bi
  by_cases hk : k = n
  · subst hk
    have e1 : x = (q 1 k).toNat := by
      have := hx.2
      omega
    rw [if_pos rfl, if_pos e1]; omega
  · have e1 : ¬ x = (q 1 n).toNat := fun h => hk (A4 k n x hx (by rw [h]; exact ht))
    rw [if_neg hk, if_neg e1]; omega
theorem nofin_imb (hf : q 1 n = -1) (k x : Nat) (hx : a_tf q k x) : a_bi n k x = if x = n then 1 else 0 := by
  unfold a_bi
  have hk : ¬ k = n := fun h => by
    have := hx.2
    rw [h, hf] at this
    omega
  rw [if_neg hk]; omega
/-- the FINALLY of a TRY -/
theorem fin_run {dd hh i' : Nat} (A : a_ast q K BG CH bl nv cn kc bd vp) (hI : a_inv K BG CH bl mo de I) (ih : a_ex q K BG CH bl mo de nv cn kc I R) (h : a_to q K BG CH bl mo de I (f0 :: r, false, j, true, Y0) s (f1 :: r, false, bi, true, Y) c (a_bi n)) (hq : q 0 n = 11) (hfin : q 1 n ≠ -1) (hc : c ≤ 0) (hf : a_fr G f0 f1) (hd : G.2.1 ≤ dd) (hh' : G.2.2.1 ≤ hh)
    (hL : a_Ld q (K f1.1) (BG f1.1) (CH f1.1) m (q 1 n).toNat (G.1, dd, hh + 1, G.2.2.2.1, G.2.2.2.2) f1.2.1 bi i') (hhas : a_has f1 dd) (hlp : a_lp G) (hR : mo - Y 13 3 ≤ R)
    (kont : ∀ s' f2 Y', a_to q K BG CH bl mo de I (f0 :: r, false, j, true, Y0) s' (f2 :: r, false, 0, true, Y') (c - 4) (fun _ x => if x = n then 1 else 0) → a_fr G f0 f2 → a_fr (G.1, dd, hh + 1, G.2.2.2.1, G.2.2.2.2) f1 f2 → f2.2.1 = i' → ¬ nv (q 1 n).toNat → mo - Y' 13 3 ≤ R → (∀ x : Int, 0 ≤ x → x < Y 1 0 → Y' 2 x.toNat = Y 2 x.toNat) → a_go q K BG CH bl mo de nv cn kc n G e0 f0 r j Y0) : a_go q K BG CH bl mo de nv cn kc n G e0 f0 r j Y0 := by
  rcases to_sub2 hI ih h hc hL hhas hlp hR with k1 | ⟨s', f2, fl, bi', Y', k1, k2, k3, k4, k5⟩
  · exact off_go k1
  · have k6 := to_imb k1 (Int.le_refl _) (fin_imb A hq hfin)
    have k7 : a_fr G f0 f2 := fr_trans hf k2 hd (by show G.2.2.1 ≤ hh + 1; omega)
    obtain ⟨-, -, -, -, -, -, -, -, -, -, -, -, -, -, -, -, -, Acf, -⟩ := id A
    rcases lv_up (G := G) (n := n) k3 hd (by omega) (fun x => Acf n x hq hfin) e0 with ⟨rfl, rfl, g1, g2⟩ | g1
    · exact kont s' f2 Y' k6 k7 k2 g1 g2 (by omega) k5
    · exact to_fin k6 (by omega) (fun _ _ _ => rfl) k7 g1
/-- a way out of a TRY -/
theorem try_leave {g : aG} (A : a_ast q K BG CH bl nv cn kc bd vp) (hI : a_inv K BG CH bl mo de I) (ih : a_ex q K BG CH bl mo de nv cn kc I R) (h : a_to q K BG CH bl mo de I (f0 :: r, false, j, true, Y0) s (f1 :: r, false, bi, true, Y) c (a_bi n)) (hq : q 0 n = 11) (hc : c ≤ -4) (hf : a_fr G f0 f1) (hlp : a_lp G) (hR : mo - Y 13 3 ≤ R) (hg : g.1 = n) (hg2 : g.2.1 = G.2.2.2.1) (hg3 : g.2.2.1 = G.2.2.2.2)
    (ho : (∃ lt lg dd hh m, G.2.2.2.2 = some (lt, lg) ∧ G.2.1 ≤ dd ∧ G.2.2.1 ≤ hh ∧ a_has f1 dd ∧ a_wb q (K f1.1) (BG f1.1) (CH f1.1) (a_Ld q (K f1.1) (BG f1.1) (CH f1.1) m) lt lg (g :: G.1) dd hh f1.2.1 bi) ∨ (∃ dd hh m v, G.2.1 ≤ dd ∧ G.2.2.1 ≤ hh ∧ a_has f1 dd ∧ f1.2.2.2.2.2 hh = some v ∧ a_wo q (K f1.1) (BG f1.1) (CH f1.1) (a_Ld q (K f1.1) (BG f1.1) (CH f1.1) m) (g :: G.1) dd hh f1.2.1 bi)) :
    a_go q K BG CH bl mo de nv cn kc n G e0 f0 r j Y0 := by
  rcases ho with ⟨lt, lg, dd, hh, m', a1, a2, a3, a4, a5⟩ | ⟨dd, hh, m', v, a2, a3, a4, av, a5⟩
  · unfold a_wb at a5
    have hlg := hlp lt lg a1
    rw [if_neg (by omega), hg, if_neg (by omega)] at a5
    by_cases hfin : q 1 n = -1
    · rw [if_pos hfin] at a5
      exact to_fin h hc (nofin_imb hfin) hf (Or.inr (Or.inl ⟨rfl, lt, lg, dd, hh, m', a1, a2, a3, a4, a5⟩))
    · rw [if_neg hfin, hg2, hg3] at a5
      obtain ⟨i', a6, a7⟩ := a5
      refine fin_run A hI ih h hq hfin (by omega) hf a2 a3 a6 a4 hlp hR (fun s' f2 Y' k1 k2 k3 k4 k5 k6 k7 => ?_)
      refine to_fin k1 (by omega) (fun _ _ _ => rfl) k2 (Or.inr (Or.inl ⟨rfl, lt, lg, dd, hh, m', a1, a2, a3, has_fr a4 k3 (Nat.le_refl _), ?_⟩))
      rw [k3.1, k4]
      exact a7
  · unfold a_wo at a5
    rw [hg, if_neg (by omega)] at a5
    by_cases hfin : q 1 n = -1
    · rw [if_pos hfin] at a5
      exact to_fin h hc (nofin_imb hfin) hf (Or.inr (Or.inr (Or.inl ⟨rfl, dd, hh, m', v, a2, a3, a4, av, a5⟩)))
    · rw [if_neg hfin, hg2, hg3] at a5
      obtain ⟨i', a6, a7⟩ := a5
      refine fin_run A hI ih h hq hfin (by omega) hf a2 a3 a6 a4 hlp hR (fun s' f2 Y' k1 k2 k3 k4 k5 k6 k7 => ?_)
      refine to_fin k1 (by omega) (fun _ _ _ => rfl) k2 (Or.inr (Or.inr (Or.inl ⟨rfl, dd, hh, m', v, a2, a3, has_fr a4 k3 (Nat.le_refl _), by rw [k3.2.2.2.2 hh (Nat.lt_succ_self hh)]; exact av, ?_⟩)))
      rw [k3.1, k4]
      exact a7
theorem has_upd {d : Nat} {v : Int} (h : a_has f d) : a_has (f.1, i, f.2.2.1, f.2.2.2.1, a_upd f.2.2.2.2.1 d v, f.2.2.2.2.2) (d + 1) := by
  intro x hx
  show ∃ w, a_upd f.2.2.2.2.1 d v x = some w
  unfold a_upd
  by_cases hd : x = d
  · exact ⟨v, if_pos hd⟩
  · obtain ⟨w, hw⟩ := h x (by omega)
    exact ⟨w, by rw [if_neg hd]; exact hw⟩
theorem fr_upd {v : Int} (h : a_fr G f0 f) : a_fr G f0 (f.1, i, f.2.2.1, f.2.2.2.1, a_upd f.2.2.2.2.1 G.2.1 v, f.2.2.2.2.2) := by
  obtain ⟨a1, a2, a3, a4, a5⟩ := h
  refine ⟨a1, a2, a3, fun x hx => ?_, a5⟩
  show a_upd f.2.2.2.2.1 G.2.1 v x = _
  unfold a_upd
  rw [if_neg (by omega)]
  exact a4 x hx
theorem st_caught {d : Nat} (hm : 0 < Y 1 0) (h : (BG f.1 f.2.1).length = bi) (h1 : K f.1 1 f.2.1 = 11) (h2 : K f.1 2 f.2.1 = (d : Int)) : a_step K BG CH bl mo de (f :: r, false, bi, true, Y) = some ((f.1, f.2.1 + 1, f.2.2.1, f.2.2.2.1, a_upd f.2.2.2.2.1 d (Y 0 16), f.2.2.2.2.2) :: r, false, 0, true, Y) := by
  rw [st_op h h1 h2 rfl rfl rfl]
  show (if 0 < Y 1 0 then some (a_at (f.1, f.2.1, f.2.2.1, f.2.2.2.1, a_upd f.2.2.2.2.1 (d : Int).toNat (Y 0 16), f.2.2.2.2.2) r (f.2.1 + 1) Y) else none) = _
  rw [if_pos hm, Int.toNat_natCast]; rfl
theorem st_skip {d : Nat} (h : (BG f.1 f.2.1).length = bi) (h1 : K f.1 1 f.2.1 = 6) (h2 : K f.1 2 f.2.1 = (d : Int)) : a_step K BG CH bl mo de (f :: r, false, bi, true, Y) = some (a_at f r d Y) := by
  rw [st_op h h1 h2 rfl rfl rfl]
  show some (a_at f r (d : Int).toNat Y) = _
  rw [Int.toNat_natCast]
theorem st_again {d : Nat} {v : Int} (h : (BG f.1 f.2.1).length = bi) (h1 : K f.1 1 f.2.1 = 12) (h2 : K f.1 2 f.2.1 = (d : Int)) (hv : f.2.2.2.2.1 d = some v) : a_step K BG CH bl mo de (f :: r, false, bi, true, Y) = some (a_throw f r (a_fly Y v)) := by
  rw [st_op h h1 h2 rfl rfl rfl]
  show (f.2.2.2.2.1 (d : Int).toNat).map _ = _
  rw [Int.toNat_natCast, hv]; rfl
/-- what flies is caught for the FINALLY, and thrown again behind it -/
theorem try_last {l l' : Nat} (A : a_ast q K BG CH bl nv cn kc bd vp) (hI : a_inv K BG CH bl mo de I) (ih : a_ex q K BG CH bl mo de nv cn kc I R) (h : a_to q K BG CH bl mo de I (f0 :: r, false, j, true, Y0) s (f1 :: r, true, 0, true, Y) c (a_bi n)) (hq : q 0 n = 11) (hfin : q 1 n ≠ -1) (hc : c ≤ -8) (hf : a_fr G f0 f1) (hhas : a_has f0 G.2.1) (hlp : a_lp G) (hR : mo - Y 13 3 ≤ R)
    (hl : a_look bl (a_kd Y (Y 0 16)) (CH f1.1 f1.2.1) = some (l : Int)) (k1 : BG f0.1 l = []) (k2 : K f0.1 1 l = 11) (k3 : K f0.1 2 l = (G.2.1 : Int)) (k4 : a_Ld q (K f0.1) (BG f0.1) (CH f0.1) m (q 1 n).toNat (G.1, G.2.1 + 1, G.2.2.1 + 1, G.2.2.2.1, G.2.2.2.2) (l + 1) 0 l') (k5 : BG f0.1 l' = []) (k6 : K f0.1 1 l' = 12) (k7 : K f0.1 2 l' = (G.2.1 : Int)) (k8 : CH f0.1 l' = a_hs G.1)
    (hk : ¬ nv (q 1 n).toNat → a_ko cn kc n Y) : a_go q K BG CH bl mo de nv cn kc n G e0 f0 r j Y0 := by
  have hfl := (hI.2 _ h.2.1).2.2 rfl
  dsimp only at hfl
  have g1 := to_op hI h (st_look hl) a_D_same
  rw [Int.toNat_natCast] at g1
  have e1 : f1.1 = f0.1 := hf.1
  have g2 := to_op hI g1 (st_caught (d := G.2.1) (by omega) (by show (BG f1.1 l).length = 0; rw [e1, k1]; rfl) (by show K f1.1 1 l = 11; rw [e1]; exact k2) (by show K f1.1 2 l = _; rw [e1]; exact k3)) a_D_same
  have hf1 : a_fr G f0 (f1.1, l, f1.2.2) := hf
  have hf2 := fr_upd (i := l + 1) (v := Y 0 16) hf1
  have hh1 : a_has (f1.1, l, f1.2.2) G.2.1 := has_fr hhas hf1 (Nat.le_refl _)
  refine fin_run (dd := G.2.1 + 1) (hh := G.2.2.1) A hI ih g2 hq hfin (by omega) hf2 (Nat.le_succ _) (Nat.le_refl _) (by rw [hf2.1]; exact k4) (has_upd (i := l + 1) (v := Y 0 16) hh1) hlp hR (fun s' f2 Y' u1 u2 u3 u4 u5 u6 u7 => ?_)
  have hv : f2.2.2.2.2.1 G.2.1 = some (Y 0 16) := by
    rw [u3.2.2.2.1 G.2.1 (Nat.lt_succ_self _)]
    show a_upd f1.2.2.2.2.1 G.2.1 (Y 0 16) G.2.1 = _
    unfold a_upd
    rw [if_pos rfl]
  have g3 := to_op hI u1 (st_again (by rw [u2.1, u4, k5]; rfl) (by rw [u2.1, u4]; exact k6) (by rw [u2.1, u4]; exact k7) hv) a_D_fly
  refine to_fin g3 (by omega) (fun _ _ _ => rfl) u2 (Or.inr (Or.inr (Or.inr ⟨rfl, rfl, by rw [u2.1, u4, k8], ?_⟩)))
  have hk' := hk u5
  unfold a_ko
  have e2 : a_fly Y' (Y 0 16) 0 16 = Y 0 16 := yU_at
  rw [e2]
  have e3 : a_fly Y' (Y 0 16) 2 (Y 0 16).toNat = Y 2 (Y 0 16).toNat := (yU_c (by decide)).trans (u7 _ hfl.1 hfl.2)
  rw [e3]
  exact hk'
end ATr
