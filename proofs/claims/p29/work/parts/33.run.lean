/-! what a run of a node does: pieces -/
section ARu
variable {q : Nat → Nat → Int} {K : Nat → Nat → Nat → Int} {BG : Nat → Nat → List Nat} {CH : Nat → Nat → List (Int × Int)} {bl : Int → Int → Bool} {mo de : Int} {nv : Nat → Prop} {cn : Nat → Int → Prop} {kc : Int → Prop} {I : aX → Prop}
/-- the run up to here -/
def a_to (q : Nat → Nat → Int) (K : Nat → Nat → Nat → Int) (BG : Nat → Nat → List Nat) (CH : Nat → Nat → List (Int × Int)) (bl : Int → Int → Bool) (mo de : Int) (I : aX → Prop) (X0 : aX) (s : Nat) (X : aX) (c : Int) (e : Nat → Nat → Int) : Prop :=
  a_run K BG CH bl mo de s X0 = some X ∧ I X ∧ a_D q X0.2.2.2.2 X.2.2.2.2 s c e
def a_inv (K : Nat → Nat → Nat → Int) (BG : Nat → Nat → List Nat) (CH : Nat → Nat → List (Int × Int)) (bl : Int → Int → Bool) (mo de : Int) (I : aX → Prop) : Prop :=
  (∀ X X', I X → a_step K BG CH bl mo de X = some X' → I X') ∧ (∀ X, I X → 0 ≤ X.2.2.2.2 1 0 ∧ X.2.2.2.2 13 3 ≤ mo ∧ (X.2.1 = true → 0 ≤ X.2.2.2.2 0 16 ∧ X.2.2.2.2 0 16 < X.2.2.2.2 1 0))
theorem to_refl {X0 : aX} (h : I X0) : a_to q K BG CH bl mo de I X0 0 X0 0 (fun _ _ => 0) := ⟨rfl, h, a_D_refl⟩
theorem run_one {X X1 : aX} (h : a_step K BG CH bl mo de X = some X1) : a_run K BG CH bl mo de 1 X = some X1 := by
  show (a_step K BG CH bl mo de X).bind (a_run K BG CH bl mo de 0) = _
  rw [h]; rfl
theorem to_step {X0 X X1 : aX} {s : Nat} {c c1 : Int} {e e1 : Nat → Nat → Int} (hI : a_inv K BG CH bl mo de I) (h : a_to q K BG CH bl mo de I X0 s X c e) (hs : a_step K BG CH bl mo de X = some X1) (hd : a_D q X.2.2.2.2 X1.2.2.2.2 1 c1 e1) : a_to q K BG CH bl mo de I X0 (s + 1) X1 (c + c1) (fun k f => e k f + e1 k f) := by
  obtain ⟨h1, h2, h3⟩ := h
  exact ⟨by rw [a_run_add K BG CH bl mo de h1]; exact run_one hs, hI.1 _ _ h2 hs, a_D_trans h3 hd⟩
/-- a step that begins nothing -/
theorem to_op {X0 X X1 : aX} {s : Nat} {c : Int} {e : Nat → Nat → Int} (hI : a_inv K BG CH bl mo de I) (h : a_to q K BG CH bl mo de I X0 s X c e) (hs : a_step K BG CH bl mo de X = some X1) (hd : a_D q X.2.2.2.2 X1.2.2.2.2 1 1 (fun _ _ => 0)) : a_to q K BG CH bl mo de I X0 (s + 1) X1 (c + 1) e := by
  obtain ⟨h1, h2, h3⟩ := to_step hI h hs hd
  exact ⟨h1, h2, a_D_mono (Int.le_refl _) (fun k f _ => by show e k f + 0 = e k f; omega) h3⟩
variable {f f0 f' : aF} {r : List aF} {j i bi s n : Nat} {Y Y0 : yM} {G : aC} {e0 : Nat} {c : Int} {e : Nat → Nat → Int} {o x y z nd : Int}
theorem st_op (h : (BG f.1 f.2.1).length = bi) (h1 : K f.1 1 f.2.1 = o) (h2 : K f.1 2 f.2.1 = x) (h3 : K f.1 3 f.2.1 = y) (h4 : K f.1 4 f.2.1 = z) (h5 : K f.1 5 f.2.1 = nd) : a_step K BG CH bl mo de (f :: r, false, bi, true, Y) = a_op de f r Y o x y z nd := by
  unfold a_step
  dsimp only
  rw [if_neg (by decide), if_neg (by decide), List.getElem?_eq_none (by omega), h1, h2, h3, h4, h5]
theorem st_begin (h : (BG f.1 f.2.1)[bi]? = some n) (hm : ¬ mo ≤ Y 13 3) : a_step K BG CH bl mo de (f :: r, false, bi, true, Y) = some (f :: r, false, bi + 1, true, a_begin Y n) := by
  unfold a_step
  dsimp only
  rw [if_neg (by decide), if_neg (by decide), h]
  dsimp only
  rw [if_neg hm]
theorem st_cut (h : (BG f.1 f.2.1)[bi]? = some n) (hm : mo ≤ Y 13 3) : a_step K BG CH bl mo de (f :: r, false, bi, true, Y) = some (f :: r, false, bi, false, Y) := by
  unfold a_step
  dsimp only
  rw [if_neg (by decide), if_neg (by decide), h]
  dsimp only
  rw [if_pos hm]
theorem st_look {h : Int} (hl : a_look bl (a_kd Y (Y 0 16)) (CH f.1 f.2.1) = some h) : a_step K BG CH bl mo de (f :: r, true, bi, true, Y) = some (a_at f r h.toNat Y) := by
  unfold a_step
  dsimp only
  rw [if_neg (by decide), if_pos rfl, hl]
theorem st_pop (hl : a_look bl (a_kd Y (Y 0 16)) (CH f.1 f.2.1) = none) : a_step K BG CH bl mo de (f :: r, true, bi, true, Y) = some (r, true, 0, true, Y) := by
  unfold a_step
  dsimp only
  rw [if_neg (by decide), if_pos rfl, hl]
/-- the way a node goes is the way its whole goes -/
theorem to_fin {fl : Bool} (h : a_to q K BG CH bl mo de I (f0 :: r, false, j, true, Y0) s (f' :: r, fl, bi, true, Y) c e) (hc : c ≤ -4) (he : ∀ k x, a_tf q k x → e k x = if x = n then 1 else 0) (hf : a_fr G f0 f') (hl : a_lv q K BG CH bl nv cn kc n G e0 f' fl bi Y) : a_go q K BG CH bl mo de nv cn kc n G e0 f0 r j Y0 := by
  obtain ⟨h1, h2, h3⟩ := h
  exact ⟨s, _, h1, Or.inr ⟨f', fl, bi, Y, rfl, hf, a_D_mono hc he h3, hl⟩⟩
end ARu
