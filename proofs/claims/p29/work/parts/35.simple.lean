/-! nodes that are one instruction; sequences, conditions, loops, breaks, returns -/
section ASi
variable {q : Nat → Nat → Int} {K : Nat → Nat → Nat → Int} {BG : Nat → Nat → List Nat} {CH : Nat → Nat → List (Int × Int)} {bl : Int → Int → Bool} {mo de : Int} {nv : Nat → Prop} {cn : Nat → Int → Prop} {kc : Int → Prop} {I : aX → Prop}
variable {f f0 f' f1 f2 : aF} {r : List aF} {j i bi s n R : Nat} {Y Y0 Y1 : yM} {G : aC} {e0 m : Nat} {c c1 : Int} {e e1 : Nat → Nat → Int} {X0 X : aX} {bd : Nat → Nat} {vp : Nat → Prop}
theorem to_imb (h : a_to q K BG CH bl mo de I X0 s X c e) (hc : c ≤ c1) (he : ∀ k x, a_tf q k x → e k x = e1 k x) : a_to q K BG CH bl mo de I X0 s X c1 e1 := ⟨h.1, h.2.1, a_D_mono hc he h.2.2⟩
theorem to_drop {b : Nat} (h : a_to q K BG CH bl mo de I X0 s X c (fun k x => e k x + if x = b then 1 else 0)) (hb : ∀ k, ¬ a_tf q k b) : a_to q K BG CH bl mo de I X0 s X c e :=
  to_imb h (Int.le_refl _) (fun k x hx => by
    have hq : ¬ x = b := fun hq => hb k (by rw [← hq]; exact hx)
    rw [if_neg hq]; omega)
/-- how much oftener a FINALLY began than its TRY, once n began -/
def a_bi (n : Nat) : Nat → Nat → Int := fun k x => (if x = n then 1 else 0) - (if k = n then 1 else 0)
theorem bi_ok (hq : q 0 n ≠ 11) (k x : Nat) (h : a_tf q k x) : a_bi n k x = if x = n then 1 else 0 := by
  unfold a_bi
  have hk : ¬ k = n := fun hk => hq (by rw [← hk]; exact h.1)
  rw [if_neg hk]; omega
theorem fr_refl : a_fr G f f := ⟨rfl, rfl, rfl, fun _ _ => rfl, fun _ _ => rfl⟩
theorem fr_trans {G' : aC} (h : a_fr G f f1) (h' : a_fr G' f1 f2) (hd : G.2.1 ≤ G'.2.1) (hh : G.2.2.1 ≤ G'.2.2.1) : a_fr G f f2 := by
  obtain ⟨a1, a2, a3, a4, a5⟩ := h
  obtain ⟨b1, b2, b3, b4, b5⟩ := h'
  exact ⟨b1.trans a1, b2.trans a2, b3.trans a3, fun x hx => (b4 x (by omega)).trans (a4 x hx), fun x hx => (b5 x (by omega)).trans (a5 x hx)⟩
theorem has_fr {G' : aC} {d : Nat} (h : a_has f d) (h' : a_fr G' f f1) (hd : d ≤ G'.2.1) : a_has f1 d := by
  intro x hx
  obtain ⟨v, hv⟩ := h x hx
  exact ⟨v, by rw [h'.2.2.2.1 x (by omega)]; exact hv⟩
theorem has_le {d d' : Nat} (h : a_has f d) (hd : d' ≤ d) : a_has f d' := fun x hx => h x (by omega)
/-- the frame as an op leaves it -/
theorem fr_at (h : a_fr G f0 f) : a_fr G f0 (f.1, i, f.2.2) := h
theorem nd_start (hI : a_inv K BG CH bl mo de I) (hX : I (f :: r, false, j, true, Y)) (hb : (BG f.1 f.2.1)[j]? = some n) (hR : mo - Y 13 3 ≤ (R : Int) + 1) :
    a_off K BG CH bl mo de (f :: r, false, j, true, Y) ∨ (a_to q K BG CH bl mo de I (f :: r, false, j, true, Y) 1 (f :: r, false, j + 1, true, a_begin Y n) (-127) (a_bi n) ∧ mo - (a_begin Y n) 13 3 ≤ R) := by
  by_cases hm : mo ≤ Y 13 3
  · left
    exact ⟨1, _, run_one (st_cut hb hm), f :: r, j, Y, rfl, hm, Int.le_refl _, by show (1 : Int) + 64 * (Y 1 1 - Y 1 1) ≤ 128 * (Y 13 3 - Y 13 3) + 128; omega, Int.le_refl _, rfl⟩
  · right
    have h3 : a_begin Y n 13 3 = Y 13 3 + 1 := by
      unfold a_begin
      rw [yU_c (by decide), yU_at]
    have h := to_step hI (to_refl (q := q) (K := K) (BG := BG) (CH := CH) (bl := bl) (mo := mo) (de := de) hX) (st_begin hb hm) (a_D_begin (n := n))
    exact ⟨to_imb h (by omega) (fun k x _ => by show 0 + _ = _; rw [Int.zero_add]; rfl), by omega⟩
/-- an outcome of a part is one of the whole, but for the common end -/
theorem lv_up {n1 dd hh : Nat} {cau : Int} {fl : Bool} (h : a_lv q K BG CH bl nv cn kc n1 (G.1, dd, hh, cau, G.2.2.2.2) e0 f fl bi Y) (hd : G.2.1 ≤ dd) (hh' : G.2.2.1 ≤ hh) (hc : ∀ x, cn n1 x → cn n x) (e' : Nat) :
    (fl = false ∧ bi = 0 ∧ f.2.1 = e0 ∧ ¬ nv n1) ∨ a_lv q K BG CH bl nv cn kc n G e' f fl bi Y := by
  rcases h with h | ⟨h1, lt, lg, d1, h2, m', a1, a2, a3, a4, a5⟩ | ⟨h1, d1, h2, m', v, a1, a2, a3, a4, a5⟩ | ⟨h1, h2, a1, a2⟩
  · exact Or.inl h
  · exact Or.inr (Or.inr (Or.inl ⟨h1, lt, lg, d1, h2, m', a1, Nat.le_trans hd a2, Nat.le_trans hh' a3, a4, a5⟩))
  · exact Or.inr (Or.inr (Or.inr (Or.inl ⟨h1, d1, h2, m', v, Nat.le_trans hd a1, Nat.le_trans hh' a2, a3, a4, a5⟩)))
  · exact Or.inr (Or.inr (Or.inr (Or.inr ⟨h1, h2, a1, ko_mono hc a2⟩)))
theorem one_norm (hI : a_inv K BG CH bl mo de I) (h : a_to q K BG CH bl mo de I (f :: r, false, j, true, Y0) 1 (f :: r, false, j + 1, true, Y) (-127) (a_bi n)) (hq : q 0 n ≠ 11) (hs : a_step K BG CH bl mo de (f :: r, false, j + 1, true, Y) = some (a_at f r (f.2.1 + 1) Y1)) (hD : a_D q Y Y1 1 1 (fun _ _ => 0)) (he : e0 = f.2.1 + 1) (hn : ¬ nv n) : a_go q K BG CH bl mo de nv cn kc n G e0 f r j Y0 :=
  to_fin (to_op hI h hs hD) (by omega) (bi_ok hq) (fr_at fr_refl) (Or.inl ⟨rfl, rfl, he.symm, hn⟩)
theorem one_thr (hI : a_inv K BG CH bl mo de I) (h : a_to q K BG CH bl mo de I (f :: r, false, j, true, Y0) 1 (f :: r, false, j + 1, true, Y) (-127) (a_bi n)) (hq : q 0 n ≠ 11) (hs : a_step K BG CH bl mo de (f :: r, false, j + 1, true, Y) = some (a_throw f r Y1)) (hD : a_D q Y Y1 1 1 (fun _ _ => 0)) (hc : CH f.1 f.2.1 = a_hs G.1) (hk : a_ko cn kc n Y1) : a_go q K BG CH bl mo de nv cn kc n G e0 f r j Y0 :=
  to_fin (to_op hI h hs hD) (by omega) (bi_ok hq) fr_refl (Or.inr (Or.inr (Or.inr ⟨rfl, rfl, by rw [hc], hk⟩)))
/-- the nodes of one instruction -/
theorem nd_one (A : a_ast q K BG CH bl nv cn kc bd vp) (hI : a_inv K BG CH bl mo de I) (ih : a_ex q K BG CH bl mo de nv cn kc I R) (h : a_to q K BG CH bl mo de I (f :: r, false, j, true, Y0) 1 (f :: r, false, j + 1, true, Y) (-127) (a_bi n)) (hh : a_has f G.2.1) (hR : mo - Y 13 3 ≤ R)
    (hn : (q 0 n = 0 ∧ a_one (K f.1) (BG f.1) (CH f.1) n G f.2.1 j e0 1 (q 1 n) (q 2 n) 0) ∨ (q 0 n = 1 ∧ a_one (K f.1) (BG f.1) (CH f.1) n G f.2.1 j e0 2 (q 1 n) (q 2 n) 0) ∨ (q 0 n = 2 ∧ a_one (K f.1) (BG f.1) (CH f.1) n G f.2.1 j e0 3 (q 1 n) (q 2 n) 0) ∨ (q 0 n = 3 ∧ a_one (K f.1) (BG f.1) (CH f.1) n G f.2.1 j e0 4 (q 2 n) 0 0) ∨
      (q 0 n = 9 ∧ a_one (K f.1) (BG f.1) (CH f.1) n G f.2.1 j e0 9 (q 1 n) (q 2 n) 0) ∨ (q 0 n = 10 ∧ a_one (K f.1) (BG f.1) (CH f.1) n G f.2.1 j e0 10 (q 1 n) (q 2 n) 0) ∨ (q 0 n = 18 ∧ a_one (K f.1) (BG f.1) (CH f.1) n G f.2.1 j e0 16 (q 1 n) 0 0) ∨
      (0 ≤ G.2.2.2.1 ∧ G.2.2.2.1 < (G.2.1 : Int) ∧ ((q 0 n = 14 ∧ a_one (K f.1) (BG f.1) (CH f.1) n G f.2.1 j e0 12 G.2.2.2.1 0 0) ∨ (q 0 n = 15 ∧ a_one (K f.1) (BG f.1) (CH f.1) n G f.2.1 j e0 13 (q 1 n) (q 2 n) G.2.2.2.1) ∨ (q 0 n = 16 ∧ a_one (K f.1) (BG f.1) (CH f.1) n G f.2.1 j e0 14 (q 1 n) G.2.2.2.1 0) ∨ (q 0 n = 17 ∧ a_one (K f.1) (BG f.1) (CH f.1) n G f.2.1 j e0 15 (q 1 n) G.2.2.2.1 0)))) :
    a_go q K BG CH bl mo de nv cn kc n G e0 f r j Y0 := by
  have h10 := (hI.2 _ h.2.1).1
  dsimp only at h10
  obtain ⟨-, -, -, -, -, -, -, -, An, -, -, Ath, Aca, -, -, -, -, -, -, -, -, Ak, Aag, Avp, -⟩ := id A
  rcases hn with ⟨hs, g1, g2, g3, g4, g5, g6, g7, g8⟩ | ⟨hs, g1, g2, g3, g4, g5, g6, g7, g8⟩ | ⟨hs, g1, g2, g3, g4, g5, g6, g7, g8⟩ | ⟨hs, g1, g2, g3, g4, g5, g6, g7, g8⟩ | ⟨hs, g1, g2, g3, g4, g5, g6, g7, g8⟩ | ⟨hs, g1, g2, g3, g4, g5, g6, g7, g8⟩ | ⟨hs, g1, g2, g3, g4, g5, g6, g7, g8⟩ | ⟨w0, w1, hn⟩
  · exact one_norm hI h (by omega) (st_op g1 g3 g4 g5 g6 g7) (a_D_U (by decide) (by decide) (by decide) (Or.inl (by decide))) g2 (An n (by omega))
  · exact one_norm hI h (by omega) (st_op g1 g3 g4 g5 g6 g7) (a_D_U (by decide) (by decide) (by decide) (Or.inl (by decide))) g2 (An n (by omega))
  · have hst := st_op (K := K) (CH := CH) (bl := bl) (mo := mo) (de := de) (r := r) (Y := Y) g1 g3 g4 g5 g6 g7
    by_cases hz : yw (a_val Y (q 2 n)) = 0
    · refine one_thr (Y1 := a_new Y 3 (-1)) hI h (by omega) (hst.trans ?_) (a_D_new h10) (g8 (by decide)) (ko_new (Or.inl Ak.2.2.1))
      show (if yw (a_val Y (q 2 n)) = 0 then _ else _) = _
      rw [if_pos hz]
    · refine one_norm (Y1 := yU Y 14 (q 1 n).toNat (ydiv (Y 14 (q 1 n).toNat) (a_val Y (q 2 n)))) hI h (by omega) (hst.trans ?_) (a_D_U (by decide) (by decide) (by decide) (Or.inl (by decide))) g2 (An n (by omega))
      show (if yw (a_val Y (q 2 n)) = 0 then _ else _) = _
      rw [if_neg hz]
  · exact one_norm hI h (by omega) (st_op g1 g3 g4 g5 g6 g7) (a_D_U (by decide) (by decide) (by decide) (Or.inr (by decide))) g2 (An n (by omega))
  · rcases to_call A hI ih h (by omega) (st_op g1 g3 g4 g5 g6 g7) (Avp n hs) hR with k1 | ⟨s', Y', k1, k2⟩ | ⟨s', Y', k1, k2, k3⟩
    · exact off_go k1
    · exact to_fin k1 (by omega) (bi_ok (by omega)) (fr_at fr_refl) (Or.inl ⟨rfl, rfl, g2.symm, An n (by omega)⟩)
    · exact to_fin k1 (by omega) (bi_ok (by omega)) fr_refl (Or.inr (Or.inr (Or.inr ⟨rfl, rfl, by rw [g8 (by decide)], ko_mono (fun x => Aca n x hs) k3⟩)))
  · exact one_thr hI h (by omega) (st_op g1 g3 g4 g5 g6 g7) (a_D_new h10) (g8 (by decide)) (ko_new (Or.inr (Ath n (Or.inl hs))))
  · have hst := st_op (K := K) (CH := CH) (bl := bl) (mo := mo) (de := de) (r := r) (Y := Y) g1 g3 g4 g5 g6 g7
    by_cases hz : Y 15 (q 1 n).toNat = -1
    · refine one_thr (Y1 := a_new Y 4 (-1)) hI h (by omega) (hst.trans ?_) (a_D_new h10) (g8 (by decide)) (ko_new (Or.inl Ak.2.2.2))
      show some (if Y 15 (q 1 n).toNat = -1 then _ else _) = _
      rw [if_pos hz]
    · refine one_thr (Y1 := a_fly Y (Y 15 (q 1 n).toNat)) hI h (by omega) (hst.trans ?_) a_D_fly (g8 (by decide)) (Or.inr (Or.inl (Aag n (Or.inr hs) _)))
      show some (if Y 15 (q 1 n).toNat = -1 then _ else _) = _
      rw [if_neg hz]
  · have hx : G.2.2.2.1.toNat < G.2.1 := by omega
    obtain ⟨v, hv⟩ := hh _ hx
    rcases hn with ⟨hs, g1, g2, g3, g4, g5, g6, g7, g8⟩ | ⟨hs, g1, g2, g3, g4, g5, g6, g7, g8⟩ | ⟨hs, g1, g2, g3, g4, g5, g6, g7, g8⟩ | ⟨hs, g1, g2, g3, g4, g5, g6, g7, g8⟩
    · refine one_thr (Y1 := a_fly Y v) hI h (by omega) ((st_op g1 g3 g4 g5 g6 g7).trans ?_) a_D_fly (g8 (by decide)) (Or.inr (Or.inl (Aag n (Or.inl hs) _)))
      show (f.2.2.2.2.1 G.2.2.2.1.toNat).map _ = _
      rw [hv]; rfl
    · refine one_thr (Y1 := a_new Y (q 1 n) v) hI h (by omega) ((st_op g1 g3 g4 g5 g6 g7).trans ?_) (a_D_new h10) (g8 (by decide)) (ko_new (Or.inr (Ath n (Or.inr hs))))
      show (f.2.2.2.2.1 G.2.2.2.1.toNat).map _ = _
      rw [hv]; rfl
    · refine one_norm (Y1 := yU Y 15 (q 1 n).toNat v) hI h (by omega) ((st_op g1 g3 g4 g5 g6 g7).trans ?_) (a_D_U (by decide) (by decide) (by decide) (Or.inl (by decide))) g2 (An n (by omega))
      show (f.2.2.2.2.1 G.2.2.2.1.toNat).map _ = _
      rw [hv]; rfl
    · have hst := st_op (K := K) (CH := CH) (bl := bl) (mo := mo) (de := de) (r := r) (Y := Y) g1 g3 g4 g5 g6 g7
      have hop : a_op de f r Y 15 (q 1 n) G.2.2.2.1 0 n = some (if Y 15 (q 1 n).toNat = -1 then a_at f r (f.2.1 + 1) Y else if a_behind Y v 3000 (Y 15 (q 1 n).toNat) = true then a_throw f r (a_new Y 2 (-1)) else a_at f r (f.2.1 + 1) (yU Y 3 v.toNat (Y 15 (q 1 n).toNat))) := by
        show (f.2.2.2.2.1 G.2.2.2.1.toNat).map _ = _
        rw [hv]; rfl
      have hst := hst.trans hop
      by_cases hz : Y 15 (q 1 n).toNat = -1
      · rw [if_pos hz] at hst
        exact one_norm hI h (by omega) hst a_D_same g2 (An n (by omega))
      · rw [if_neg hz] at hst
        by_cases hy : a_behind Y v 3000 (Y 15 (q 1 n).toNat) = true
        · rw [if_pos hy] at hst
          exact one_thr hI h (by omega) hst (a_D_new h10) (g8 (by decide)) (ko_new (Or.inl Ak.2.1))
        · rw [if_neg hy] at hst
          exact one_norm hI h (by omega) hst (a_D_U (by decide) (by decide) (by decide) (Or.inl (by decide))) g2 (An n (by omega))
end ASi
