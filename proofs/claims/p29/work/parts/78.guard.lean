/-! beneath a guard: what its parts need -/
/-- k catches further on from n -/
def cpath (P : yM) (n : Nat) : Nat → Nat → Prop
  | 0, c => P 7 c = 12 ∧ (c : Int) < P 1 7 ∧ P 11 c = (n : Int)
  | k + 1, c => P 7 c = 12 ∧ (c : Int) < P 1 7 ∧ ∃ w : Nat, P 11 c = (w : Int) ∧ cpath P n k w
def own (P : yM) (n c : Nat) : Prop := ∃ k, cpath P n k c
/-- what a guard's own see -/
noncomputable def hU (M : yM) (g : Nat) (hs : List (Int × Int)) (H : Int → List (Int × Int)) : Int → List (Int × Int) := fun y => @ite _ (on M y g) (Classical.propDecidable _) (hs ++ H y) (H y)
noncomputable def gbf (M : yM) (g : Nat) : Nat → Int := fun t => @ite _ (on M (M 101 t) g) (Classical.propDecidable _) 1 0
section GuA
variable {cc d e b i N n n' r o c f g : Nat} {P M M' M0 M1 M2 M3 MB Mc Me : yM} {op x y z nd gd lb v L L1 p u : Int} {tgt tgt1 : Int → Nat} {k : Nat → Nat → Int} {bg : Nat → List Nat} {ch : Nat → List (Int × Int)} {H H1 : Int → List (Int × Int)} {hl : List (Int × Int)} {G G1 : aC} {ly : yM → Int → Int → Option yM}
theorem hU_on (h : on M u g) : hU M g hl H u = hl ++ H u := by
  unfold hU
  rw [if_pos h]
theorem hU_off (h : ¬ on M u g) : hU M g hl H u = H u := by
  unfold hU
  rw [if_neg h]
theorem gb_on {t : Nat} (h : on M (M 101 t) g) : gbf M g t = 1 := by
  unfold gbf
  rw [if_pos h]
theorem gb_off {t : Nat} (h : ¬ on M (M 101 t) g) : gbf M g t = 0 := by
  unfold gbf
  rw [if_neg h]
theorem gb_ok (hI : lI cc P b M) (hb : b ≤ 90) (hl : M cc 0 ≤ 300) (hN : 1000 ≤ N) (hg : (g : Int) < M 96 7) {t : Nat} (ht : (t : Int) < M cc 0) : f_49 N M (t : Int) (g : Int) = some (gbf M g t) ∧ (gbf M g t = 0 ∨ gbf M g t = 1) := by
  obtain ⟨v, e1, e2⟩ := gd_ok (N := N) hI hb hl hN hg ht
  rcases e2 with ⟨rfl, e2⟩ | ⟨rfl, e2⟩
  · rw [gb_on e2]; exact ⟨e1, Or.inr rfl⟩
  · rw [gb_off e2]; exact ⟨e1, Or.inl rfl⟩
theorem own_12 (h : own P n c) : P 7 c = 12 ∧ (c : Int) < P 1 7 := by
  obtain ⟨k, h⟩ := h
  cases k with
  | zero => exact ⟨h.1, h.2.1⟩
  | succ k => exact ⟨h.1, h.2.1⟩
theorem own_an (h : own P n c) (ha : an P x.toNat c) : P 7 x.toNat = 12 ∨ an P x.toNat n := by
  obtain ⟨k, h⟩ := h
  induction k generalizing c with
  | zero =>
    rcases an_of ha h.2.2 with q | q
    · rw [← q]; exact Or.inl h.1
    · exact Or.inr q
  | succ k ih =>
    obtain ⟨h1, -, w, h2, h3⟩ := h
    rcases an_of ha h2 with q | q
    · rw [← q]; exact Or.inl h1
    · exact ih q h3
theorem own_up (h : own P n c) : an P n c := by
  obtain ⟨k, h⟩ := h
  induction k generalizing c with
  | zero => exact an_up h.2.2 an_rfl
  | succ k ih =>
    obtain ⟨-, -, w, h2, h3⟩ := h
    exact an_up h2 (ih h3)
theorem own_lt (hA : pA P) (h : own P n c) : (c : Int) < n ∧ (n : Int) < P 1 7 := by
  obtain ⟨k, h⟩ := h
  induction k generalizing c with
  | zero =>
    have := hA.2.2.2.2.1 c h.2.1
    have := h.2.2
    omega
  | succ k ih =>
    obtain ⟨h1, h2, w, h3, h4⟩ := h
    have := ih h4
    have := hA.2.2.2.2.1 c h2
    omega
theorem own_in (hA : pA P) (h11 : P 7 n = 11) (h : own P n c) : P 13 c = P 13 n ∧ P 15 c = P 15 n := by
  obtain ⟨k, h⟩ := h
  induction k generalizing c with
  | zero =>
    obtain ⟨e1, e2, e3⟩ := hA.2.2.2.2.2.1 c n h.2.1 h.2.2
    rw [if_neg (by omega)] at e3
    exact ⟨e1, e3⟩
  | succ k ih =>
    obtain ⟨h1, h2, w, h3, h4⟩ := h
    obtain ⟨f1, f2⟩ := ih h4
    obtain ⟨e1, e2, e3⟩ := hA.2.2.2.2.2.1 c w h2 h3
    have hw := (own_12 ⟨k, h4⟩).1
    rw [if_neg (by omega)] at e3
    exact ⟨e1.trans f1, e3.trans f2⟩
theorem own_next (h : own P n c) (hp : prc P c p) (hlt : (c : Int) < P 1 7) : own P n p.toNat := by
  obtain ⟨k, h⟩ := h
  exact ⟨k + 1, hp.2.2.2, by have := hp.1; have := hp.2.1; omega, c, hp.2.2.1, h⟩
theorem an_trans {x y z : Nat} (h1 : an P x y) (h2 : an P y z) : an P x z := by
  obtain ⟨k, h2⟩ := h2
  induction k generalizing z with
  | zero =>
    have e : z = y := h2
    rw [e]; exact h1
  | succ k ih =>
    obtain ⟨w, h3, h4⟩ := h2
    exact an_up h3 (ih h4)
/-- a guard stands: its node, its place -/
def gK (P : yM) (d n g : Nat) (M0 M : yM) : Prop := (g : Int) = M0 96 7 ∧ (g : Int) < M 96 7 ∧ M 98 g = (n : Int) ∧ M 99 g = M0 (105 + d) 0 ∧ M 100 g = (d : Int)
theorem gK_K (h : gK P d n g M0 M) (hK : lK cc M M') : gK P d n g M0 M' := by
  obtain ⟨h1, h2, h3, h4, h5⟩ := h
  obtain ⟨e1, e2, e3⟩ := hK.2.2.2.2.1 g h2
  have := hK.1
  exact ⟨h1, by omega, e1.trans h3, e2.trans h4, e3.trans h5⟩
/-- guards that are seen from a guard: it, and those around it -/
theorem gK_on (hcc : pC cc) (hd : d < 90) (hs0 : sO cc P d b M0) (hg : sg cc d M0 M) (h : gK P d n g M0 M) {z : Nat} : on M (g : Int) z ↔ z = g ∨ on M0 (M0 (105 + d) 0) z := by
  have hgd := hs0.1.2.2.2.1 d (Nat.le_refl d)
  have hK := on_K (y := z) hs0.2 hg.2.1 (u := M0 (105 + d) 0) (by omega)
  constructor
  · intro q
    rcases on_cs q with q | ⟨-, q⟩
    · exact Or.inl (by omega)
    · rw [Int.toNat_natCast, h.2.2.2.1] at q
      exact Or.inr (hK.mp q)
  · rintro (rfl | q)
    · exact on_rfl
    · refine on_up (by omega) ?_
      rw [Int.toNat_natCast, h.2.2.2.1]
      exact hK.mpr q
/-- a part beneath the guard can be laid -/
theorem gd_nB (hA : pA P) (hcc : pC cc) (hd : d < 90) (hs0 : sO cc P d b M0) (hn : nB P d n M0) (hg : sg cc d M0 M) (h : gK P d n g M0 M) {w : Nat} (hw : w = n ∨ own P n w) (hp : 0 ≤ p ∧ p < (w : Int) ∧ P 11 p.toNat = (w : Int) ∧ P 7 p.toNat ≠ 12) (hfin : P 7 n = 11 → ∀ f : Nat, P 8 n = (f : Int) → prt P n (P 8 n) ∧ p ≠ (f : Int)) (h13 : P 13 p.toNat ≠ -1) (h0 : M (105 + (d + 1)) 0 = (g : Int)) (hR : nR P M p.toNat (105 + (d + 1))) : nB P (d + 1) p.toNat M := by
  have hgd := hs0.1.2.2.2.1 d (Nat.le_refl d)
  have hwn : (w : Int) ≤ n ∧ an P n w := by
    rcases hw with rfl | hw
    · exact ⟨Int.le_refl _, an_rfl⟩
    · have := own_lt hA hw
      exact ⟨by omega, own_up hw⟩
  have key : ∀ f : Nat, P 7 f ≠ 12 → ¬ an P f n → p ≠ (f : Int) → ¬ an P f p.toNat := fun f q1 q2 q3 q4 => by
    rcases an_of q4 hp.2.2.1 with q | q
    · omega
    · rcases hw with rfl | hw
      · exact q2 q
      · rcases own_an (x := (f : Int)) hw (by rw [Int.toNat_natCast]; exact q) with q | q
        · rw [Int.toNat_natCast] at q; exact q1 q
        · rw [Int.toNat_natCast] at q; exact q2 q
  refine ⟨by have := hn.1; omega, hp.2.2.2, h13, ?_, hR⟩
  rw [h0]
  intro z hz
  rcases (gK_on hcc hd hs0 hg h).mp hz with rfl | hz0
  · rw [h.2.2.1]
    refine ⟨by omega, fun q1 f q2 => ?_⟩
    rw [Int.toNat_natCast] at q1 q2
    obtain ⟨pf, pq⟩ := hfin q1 f q2
    rw [q2] at pf
    have hf := pf.2.2.2
    rw [Int.toNat_natCast] at hf
    refine key f hf (fun q => ?_) pq
    have := an_le hA q hn.1
    have := pf.2.1
    omega
  · have hlt := on_lt hs0.2 (by omega) hz0
    rw [(hg.2.1.2.2.2.2.1 z (by omega)).1]
    obtain ⟨i1, i2⟩ := hn.2.2.2.1 z hz0
    refine ⟨by omega, fun q1 f q2 => ?_⟩
    have hR := hs0.2.2.2.2.2.2.2.2.2.1 z (by omega)
    have hO := (hA.2.2.2.1 (M0 98 z).toNat (by have := hR.2.2.2.1; omega)).2.2.2.2.2.2.2.2.1 q1
    rcases hO.1 with q4 | q4
    · omega
    · have ef : (P 8 (M0 98 z).toNat).toNat = f := by omega
      have hf := q4.2.2.2
      rw [ef] at hf
      have hf2 := q4.2.2.1
      rw [ef] at hf2
      refine key f hf (i2 q1 f q2) (fun q => ?_)
      have e1 := hp.2.2.1
      rw [show p.toNat = f by omega] at e1
      omega
/-- the place beneath the guard -/
theorem gd_sO (hcc : pC cc) (hd : d < 90) (hs0 : sO cc P d e M0) (hn : nB P d n M0) (hg : sg cc d M0 M) (hs : sO cc P d b M) (h : gK P d n g M0 M) (h0 : M (105 + (d + 1)) 0 = (g : Int)) (h1 : M (105 + d) 1 ≤ M (105 + (d + 1)) 1 ∧ M (105 + (d + 1)) 1 ≤ (d : Int) + 1) (h2 : 0 ≤ M (105 + (d + 1)) 2 ∧ M (105 + (d + 1)) 2 ≤ (d : Int) + 1) (h3 : -1 ≤ M (105 + (d + 1)) 3 ∧ M (105 + (d + 1)) 3 < 90) (h4 : 0 ≤ M (105 + (d + 1)) 4 ∧ M (105 + (d + 1)) 4 ≤ M 96 10) (h5 : -1 ≤ M (105 + (d + 1)) 5 ∧ M (105 + (d + 1)) 5 < M 96 7) : sO cc P (d + 1) b M := by
  have hgd0 := hs0.1.2.2.2.1 d (Nat.le_refl d)
  have hgd := hs.1.2.2.2.1 d (Nat.le_refl d)
  have pl : ∀ j, M (105 + d) j = M0 (105 + d) j := fun j => lw_pl hcc hg.1 (Nat.le_refl d) (by omega) j
  have hg2 := h.2.1
  refine sO_in hd hs (by omega) h2 h3 h4 h5 (by omega) (fun _ => ?_) (fun z hz => ?_)
  · rw [h0, Int.toNat_natCast, h.2.2.2.2]
    exact Int.le_refl _
  · rw [h0] at hz
    rcases (gK_on hcc hd hs0 hg h).mp hz with rfl | hz0
    · rw [h.2.2.1, h.2.2.2.1, h.2.2.2.2, Int.toNat_natCast, Int.toNat_natCast, pl 0]
      refine ⟨rfl, ?_, h1.1⟩
      have hnR := hn.2.2.2.2
      unfold nR at hnR ⊢
      rw [pl 1, pl 3, pl 4]
      exact hnR
    · have hz1 : on M (M (105 + d) 0) z := by
        rw [pl 0]
        exact (on_K hs0.2 hg.2.1 (by omega)).mpr hz0
      obtain ⟨c1, c2, c3⟩ := hs.1.2.2.2.2 z hz1
      exact ⟨c1, c2, by omega⟩
/-- what parts beneath the guard leave alone -/
theorem gd_sf (hA : pA P) (hcc : pC cc) (hd : d < 90) (hs0 : sO cc P d b M0) (hg : sg cc d M0 M) (h : gK P d n g M0 M) (hp : an P n p.toNat) (hfin : P 7 n = 11 → ∀ f : Nat, P 8 n = (f : Int) → P 11 f = (n : Int)) (h0 : M (105 + (d + 1)) 0 = (g : Int)) (hs : sf P M0 d n c) : sf P M (d + 1) p.toNat c := by
  have hgd := hs0.1.2.2.2.1 d (Nat.le_refl d)
  refine ⟨fun q => hs.1 (an_trans hp q), fun z hz => ?_⟩
  rw [h0] at hz
  rcases (gK_on hcc hd hs0 hg h).mp hz with rfl | hz0
  · rw [h.2.2.1, Int.toNat_natCast]
    exact fun q1 f q2 q3 => hs.1 (an_in q3 (hfin q1 f q2))
  · have hlt := on_lt hs0.2 (by omega) hz0
    rw [(hg.2.1.2.2.2.2.1 z (by omega)).1]
    exact hs.2 z hz0
/-- and its own catches, too -/
theorem gd_own (hA : pA P) (hcc : pC cc) (hd : d < 90) (hs0 : sO cc P d b M0) (hn : nB P d n M0) (hg : sg cc d M0 M) (h : gK P d n g M0 M) (hp : p.toNat < n ∧ P 7 p.toNat ≠ 12) (hfin : P 7 n = 11 → ∀ f : Nat, P 8 n = (f : Int) → f < n ∧ P 7 f ≠ 12) (h0 : M (105 + (d + 1)) 0 = (g : Int) ∨ M (105 + (d + 1)) 0 = M0 (105 + d) 0) (hc : own P n c) : sf P M (d + 1) p.toNat c := by
  have hgd := hs0.1.2.2.2.1 d (Nat.le_refl d)
  have key : ∀ f : Nat, P 7 f ≠ 12 → ¬ an P f n → ¬ an P f c := fun f q1 q2 q3 => by
    rcases own_an (x := (f : Int)) hc (by rw [Int.toNat_natCast]; exact q3) with q | q
    · rw [Int.toNat_natCast] at q; exact q1 q
    · rw [Int.toNat_natCast] at q; exact q2 q
  have hlt : ∀ f : Nat, f < n → ¬ an P f n := fun f hf q => by
    have := an_le hA q hn.1
    omega
  refine ⟨key _ hp.2 (hlt _ hp.1), fun z hz => ?_⟩
  have old : on M0 (M0 (105 + d) 0) z → P 7 (M 98 z).toNat = 11 → ∀ f : Nat, P 8 (M 98 z).toNat = (f : Int) → ¬ an P f c := fun hz0 => by
    have hzl := on_lt hs0.2 (by omega) hz0
    rw [(hg.2.1.2.2.2.2.1 z (by omega)).1]
    intro q1 f q2
    have hR := hs0.2.2.2.2.2.2.2.2.2.1 z (by omega)
    have hO := (hA.2.2.2.1 (M0 98 z).toNat (by have := hR.2.2.2.1; omega)).2.2.2.2.2.2.2.2.1 q1
    rcases hO.1 with q4 | q4
    · omega
    · have hf := q4.2.2.2
      rw [show (P 8 (M0 98 z).toNat).toNat = f by omega] at hf
      exact key f hf ((hn.2.2.2.1 z hz0).2 q1 f q2)
  rcases h0 with h0 | h0
  · rw [h0] at hz
    rcases (gK_on hcc hd hs0 hg h).mp hz with rfl | hz0
    · rw [h.2.2.1, Int.toNat_natCast]
      exact fun q1 f q2 => key f (hfin q1 f q2).2 (hlt f (hfin q1 f q2).1)
    · exact old hz0
  · rw [h0] at hz
    exact old ((on_K hs0.2 hg.2.1 (by omega)).mp hz)
/-- the guards of a part beneath the guard, as the abstract machine has them -/
theorem gd_gG (hcc : pC cc) (hd : d < 90) (hs0 : sO cc P d b M0) (hg : sg cc d M0 M) (h : gK P d n g M0 M) (hs : sO cc P d e M) (hKe : lK cc M Me) (ht : ∀ l : Int, l ≤ M0 96 10 → tgt1 l = tgt l) (hH : H (g : Int) = H (M0 (105 + d) 0)) (hG : gG M0 tgt H d G) (h0 : M (105 + (d + 1)) 0 = (g : Int)) (h2 : M (105 + (d + 1)) 2 = M0 (105 + d) 2) (h4 : M (105 + (d + 1)) 4 = M0 (105 + d) 4) (h5 : M (105 + (d + 1)) 5 = M0 (105 + d) 5) {ca : Nat} (h1 : M (105 + (d + 1)) 1 = (ca : Int)) {ct : Int} (h3 : M (105 + (d + 1)) 3 = ct) : gG M tgt1 (hU Me g hl H) (d + 1) ((n, G.2.2.2.1, G.2.2.2.2, hl) :: G.1, ca, G.2.2.1, ct, G.2.2.2.2) := by
  have hgd := hs0.1.2.2.2.1 d (Nat.le_refl d)
  obtain ⟨g1, g2, g3, g4, g5⟩ := hG
  have pl : ∀ j, M (105 + d) j = M0 (105 + d) j := fun j => lw_pl hcc hg.1 (Nat.le_refl d) (by omega) j
  have hge : (g : Int) = M0 96 7 := h.1
  have hoff : ∀ y : Int, y < M0 96 7 → ¬ on Me y g := fun y hy q => by
    have q := (on_K hs.2 hKe (by have := h.2.1; omega)).mp q
    have := on_lt hs.2 (by have := h.2.1; omega) q
    omega
  have hRold := gR_in hcc hd hs0 hg.1 hg.2.1 (H1 := hU Me g hl H) (fun y hy => hU_off (hoff y hy)) ht g1
  have e98 : M 98 ((g : Int)).toNat = (n : Int) := by rw [Int.toNat_natCast]; exact h.2.2.1
  have e99 : M 99 ((g : Int)).toNat = M0 (105 + d) 0 := by rw [Int.toNat_natCast]; exact h.2.2.2.1
  have e100 : M 100 ((g : Int)).toNat = (d : Int) := by rw [Int.toNat_natCast]; exact h.2.2.2.2
  have hlp := lpR_2 (pl' := 105 + d) hs0.2 hg.2.1 (u := M0 (105 + d) 0) (by omega) (pl 4) (pl 5) (ht _ (by omega)) g5
  unfold gG
  rw [h0, h1, h2, h3]
  refine ⟨⟨by omega, e98, ?_, ?_, ?_, ?_⟩, rfl, g3, rfl, ?_⟩
  · rw [e99, hU_on on_rfl, hU_off (hoff _ (by omega)), hH]
  · rw [e100, Int.toNat_natCast, pl 3]; exact g4
  · rw [e100, e99, Int.toNat_natCast]; exact hlp
  · rw [e99]; exact hRold
  · dsimp only
    rcases g5 with ⟨q1, q2⟩ | ⟨q1, lg, kk, q2, q3, q4⟩
    · exact Or.inl ⟨by rw [h4]; exact q1, q2⟩
    · refine Or.inr ⟨by rw [h4]; exact q1, lg, kk + 1, by rw [h4, ht _ (by omega)]; exact q2, by rw [List.length_cons]; omega, ?_⟩
      refine ⟨by omega, ?_⟩
      rw [e99, h5]
      exact gdr_eq (lI_gD hs0.2) (fun z hz => (hg.2.1.2.2.2.2.1 z hz).2.1) kk _ (by omega) q4
/-- its own guards, further in: each sees what the one around it sees -/
theorem hU_new (hH : ∀ y : Nat, (g : Int) < (y : Int) → (y : Int) < Me 96 7 → H (y : Int) = H (Me 99 y)) {y : Nat} (h1 : (g : Int) < (y : Int)) (h2 : (y : Int) < Me 96 7) : hU Me g hl H (y : Int) = hU Me g hl H (Me 99 y) := by
  have key : on Me (y : Int) g ↔ on Me (Me 99 y) g := ⟨fun q => by
    rcases on_cs q with q | q
    · omega
    · have := q.2
      rw [Int.toNat_natCast] at this
      exact this, fun q => on_up (by omega) (by rw [Int.toNat_natCast]; exact q)⟩
  by_cases q : on Me (y : Int) g
  · rw [hU_on q, hU_on (key.mp q), hH y h1 h2]
  · rw [hU_off q, hU_off (fun q2 => q (key.mpr q2)), hH y h1 h2]
end GuA
