/-! what a run of a node does: the frame of the proof -/
theorem yU_c {M : yM} {a b i j : Nat} {x : Int} (h : b ≠ a) : yU M a i x b j = M b j := yU_ne fun q => h q.1
theorem yU_i {M : yM} {a b i j : Nat} {x : Int} (h : j ≠ i) : yU M a i x b j = M b j := yU_ne fun q => h q.2
/-- a TRY k with the FINALLY f -/
def a_tf (q : Nat → Nat → Int) (k f : Nat) : Prop := q 0 k = 11 ∧ q 1 k = (f : Int)
/-- from Y to Y' in t steps at most 128 for each that begins, what is suppressed counting 64, and c; e: how much oftener the FINALLY than its TRY -/
def a_D (q : Nat → Nat → Int) (Y Y' : yM) (t : Nat) (c : Int) (e : Nat → Nat → Int) : Prop :=
  Y 13 3 ≤ Y' 13 3 ∧ (t : Int) + 64 * (Y' 1 1 - Y 1 1) ≤ 128 * (Y' 13 3 - Y 13 3) + c ∧ Y 1 1 ≤ Y' 1 1 ∧ Y 1 0 ≤ Y' 1 0 ∧ (∀ x : Int, 0 ≤ x → x < Y 1 0 → Y' 2 x.toNat = Y 2 x.toNat) ∧ Y' 13 0 = Y 13 0 ∧
  ∀ k f, a_tf q k f → Y' 16 f - Y 16 f - (Y' 16 k - Y 16 k) = e k f
section ADe
variable {q : Nat → Nat → Int} {Y Y1 Y2 : yM} {s t : Nat} {c c1 c2 : Int} {e e1 e2 : Nat → Nat → Int}
theorem a_D_refl : a_D q Y Y 0 0 (fun _ _ => 0) := ⟨Int.le_refl _, by omega, Int.le_refl _, Int.le_refl _, fun _ _ _ => rfl, rfl, fun _ _ _ => by show _ = (0 : Int); omega⟩
theorem a_D_trans (h1 : a_D q Y Y1 s c1 e1) (h2 : a_D q Y1 Y2 t c2 e2) : a_D q Y Y2 (s + t) (c1 + c2) (fun k f => e1 k f + e2 k f) := by
  obtain ⟨a1, a2, a3, a5, a6, a7, a8⟩ := h1
  obtain ⟨b1, b2, b3, b5, b6, b7, b8⟩ := h2
  refine ⟨by omega, by omega, by omega, by omega, fun x h0 hx => ?_, by omega, fun k f h => ?_⟩
  · rw [b6 x h0 (by omega), a6 x h0 hx]
  · have := a8 k f h
    have := b8 k f h
    show _ = e1 k f + e2 k f
    omega
theorem a_D_mono (hc : c ≤ c1) (he : ∀ k f, a_tf q k f → e k f = e1 k f) (h : a_D q Y Y1 s c e) : a_D q Y Y1 s c1 e1 := by
  obtain ⟨a1, a2, a3, a5, a6, a7, a8⟩ := h
  exact ⟨a1, by omega, a3, a5, a6, a7, fun k f h => by rw [a8 k f h, he k f h]⟩
theorem a_D_begin {n : Nat} : a_D q Y (a_begin Y n) 1 (-127) (fun k f => (if f = n then 1 else 0) - (if k = n then 1 else 0)) := by
  have h3 : a_begin Y n 13 3 = Y 13 3 + 1 := by
    unfold a_begin
    rw [yU_c (by decide), yU_at]
  have h16 : ∀ x, a_begin Y n 16 x = if x = n then Y 16 n + 1 else Y 16 x := by
    intro x
    unfold a_begin
    by_cases hx : x = n
    · subst hx
      rw [yU_at, if_pos rfl]
    · rw [yU_i hx, yU_c (by decide), if_neg hx]
  have ho : ∀ b j, b ≠ 13 → b ≠ 16 → a_begin Y n b j = Y b j := by
    intro b j h1 h2
    unfold a_begin
    rw [yU_c h2, yU_c h1]
  have h0 : a_begin Y n 13 0 = Y 13 0 := by
    unfold a_begin
    rw [yU_c (by decide), yU_i (by decide)]
  refine ⟨by omega, ?_, ?_, ?_, fun x _ _ => ho _ _ (by decide) (by decide), h0, fun k f _ => ?_⟩
  · rw [ho 1 1 (by decide) (by decide)]; omega
  · rw [ho 1 1 (by decide) (by decide)]; exact Int.le_refl _
  · rw [ho 1 0 (by decide) (by decide)]; exact Int.le_refl _
  · show a_begin Y n 16 f - Y 16 f - (a_begin Y n 16 k - Y 16 k) = (if f = n then (1 : Int) else 0) - (if k = n then 1 else 0)
    rw [h16, h16]
    by_cases hf : f = n
    · by_cases hk : k = n
      · rw [if_pos hf, if_pos hk, if_pos hf, if_pos hk, hf, hk]; omega
      · rw [if_pos hf, if_neg hk, if_pos hf, if_neg hk, hf]; omega
    · by_cases hk : k = n
      · rw [if_neg hf, if_pos hk, if_neg hf, if_pos hk, hk]; omega
      · rw [if_neg hf, if_neg hk, if_neg hf, if_neg hk]; omega
/-- a step that begins nothing -/
theorem a_D_op (h3 : Y1 13 3 = Y 13 3) (h11 : Y1 1 1 = Y 1 1) (h10 : Y 1 0 ≤ Y1 1 0) (h2 : ∀ x : Int, 0 ≤ x → x < Y 1 0 → Y1 2 x.toNat = Y 2 x.toNat) (h0 : Y1 13 0 = Y 13 0) (h16 : ∀ x, Y1 16 x = Y 16 x) : a_D q Y Y1 1 1 (fun _ _ => 0) :=
  ⟨by omega, by omega, by omega, h10, h2, h0, fun k f _ => by show _ = (0 : Int); rw [h16, h16]; omega⟩
theorem a_D_same : a_D q Y Y 1 1 (fun _ _ => 0) := a_D_op rfl rfl (Int.le_refl _) (fun _ _ _ => rfl) rfl (fun _ => rfl)
theorem a_D_U {a i : Nat} {x : Int} (h1 : a ≠ 1) (h2 : a ≠ 2) (h3 : a ≠ 16) (h4 : a ≠ 13 ∨ (i ≠ 0 ∧ i ≠ 3)) : a_D q Y (yU Y a i x) 1 1 (fun _ _ => 0) := by
  refine a_D_op ?_ (yU_c h1.symm) (Int.le_of_eq (yU_c h1.symm).symm) (fun _ _ _ => yU_c h2.symm) ?_ (fun _ => yU_c h3.symm)
  · rcases h4 with h4 | ⟨h4, h5⟩
    · exact yU_c h4.symm
    · exact yU_i h5.symm
  · rcases h4 with h4 | ⟨h4, h5⟩
    · exact yU_c h4.symm
    · exact yU_i h4.symm
theorem a_D_new {k cs : Int} (h0 : 0 ≤ Y 1 0) : a_D q Y (a_new Y k cs) 1 1 (fun _ _ => 0) := by
  unfold a_new a_fly
  refine a_D_op ?_ ?_ ?_ (fun x hx hx2 => ?_) ?_ (fun x => ?_)
  · rw [yU_c (by decide), yU_c (by decide), yU_c (by decide), yU_c (by decide)]
  · rw [yU_c (by decide), yU_i (by decide), yU_c (by decide), yU_c (by decide)]
  · rw [yU_c (by decide), yU_at]; omega
  · rw [yU_c (by decide), yU_c (by decide), yU_c (by decide), yU_i (by omega)]
  · rw [yU_c (by decide), yU_c (by decide), yU_c (by decide), yU_c (by decide)]
  · rw [yU_c (by decide), yU_c (by decide), yU_c (by decide), yU_c (by decide)]
theorem a_D_sup : a_D q Y (yU Y 1 1 (Y 1 1 + 1)) 0 64 (fun _ _ => 0) := by
  have h11 : yU Y 1 1 (Y 1 1 + 1) 1 1 = Y 1 1 + 1 := yU_at
  have h3 : yU Y 1 1 (Y 1 1 + 1) 13 3 = Y 13 3 := yU_c (by decide)
  refine ⟨by omega, by omega, by omega, Int.le_of_eq (yU_i (by decide)).symm, fun x _ _ => yU_c (by decide), yU_c (by decide), fun k f _ => ?_⟩
  show _ = (0 : Int)
  rw [yU_c (by decide), yU_c (by decide)]; omega
theorem a_D_fly {x : Int} : a_D q Y (a_fly Y x) 1 1 (fun _ _ => 0) := a_D_U (by decide) (by decide) (by decide) (Or.inl (by decide))
theorem a_new_16 {k cs : Int} : a_new Y k cs 0 16 = Y 1 0 := by
  unfold a_new a_fly
  exact yU_at
theorem a_new_2 {k cs : Int} : a_new Y k cs 2 (Y 1 0).toNat = k := by
  unfold a_new a_fly
  rw [yU_c (by decide), yU_c (by decide), yU_c (by decide), yU_at]
end ADe
section AEx
variable (q : Nat → Nat → Int) (K : Nat → Nat → Nat → Int) (BG : Nat → Nat → List Nat) (CH : Nat → Nat → List (Int × Int)) (bl : Int → Int → Bool) (mo de : Int) (nv : Nat → Prop) (cn : Nat → Int → Prop) (kc : Int → Prop) (I : aX → Prop)
/-- the frame's other parts stay -/
def a_fr (G : aC) (f f' : aF) : Prop := f'.1 = f.1 ∧ f'.2.2.1 = f.2.2.1 ∧ f'.2.2.2.1 = f.2.2.2.1 ∧ (∀ x, x < G.2.1 → f'.2.2.2.2.1 x = f.2.2.2.2.1 x) ∧ (∀ x, x < G.2.2.1 → f'.2.2.2.2.2 x = f.2.2.2.2.2 x)
def a_has (f : aF) (d : Nat) : Prop := ∀ x, x < d → ∃ v, f.2.2.2.2.1 x = some v
/-- may it be what flies out of n -/
def a_ko (n : Nat) (Y : yM) : Prop := 40 ≤ Y 0 16 ∨ kc (Y 2 (Y 0 16).toNat) ∨ cn n (Y 2 (Y 0 16).toNat)
def a_cut (Y : yM) (X' : aX) (t : Nat) : Prop := ∃ fr' bi' Y', X' = (fr', false, bi', false, Y') ∧ mo ≤ Y' 13 3 ∧ Y 13 3 ≤ Y' 13 3 ∧ (t : Int) + 64 * (Y' 1 1 - Y 1 1) ≤ 128 * (Y' 13 3 - Y 13 3) + 128 ∧ Y 1 1 ≤ Y' 1 1 ∧ Y' 13 0 = Y 13 0
/-- how a node is left -/
def a_lv (n : Nat) (G : aC) (e : Nat) (f' : aF) (fl : Bool) (bi : Nat) (Y' : yM) : Prop :=
  (fl = false ∧ bi = 0 ∧ f'.2.1 = e ∧ ¬ nv n) ∨
  (fl = false ∧ ∃ lt lg dd hh m, G.2.2.2.2 = some (lt, lg) ∧ G.2.1 ≤ dd ∧ G.2.2.1 ≤ hh ∧ a_has f' dd ∧ a_wb q (K f'.1) (BG f'.1) (CH f'.1) (a_Ld q (K f'.1) (BG f'.1) (CH f'.1) m) lt lg G.1 dd hh f'.2.1 bi) ∨
  (fl = false ∧ ∃ dd hh m v, G.2.1 ≤ dd ∧ G.2.2.1 ≤ hh ∧ a_has f' dd ∧ f'.2.2.2.2.2 hh = some v ∧ a_wo q (K f'.1) (BG f'.1) (CH f'.1) (a_Ld q (K f'.1) (BG f'.1) (CH f'.1) m) G.1 dd hh f'.2.1 bi) ∨
  (fl = true ∧ bi = 0 ∧ a_look bl (a_kd Y' (Y' 0 16)) (CH f'.1 f'.2.1) = a_look bl (a_kd Y' (Y' 0 16)) (a_hs G.1) ∧ a_ko cn kc n Y')
def a_go (n : Nat) (G : aC) (e : Nat) (f : aF) (r : List aF) (j : Nat) (Y : yM) : Prop :=
  ∃ t X', a_run K BG CH bl mo de t (f :: r, false, j, true, Y) = some X' ∧ (a_cut mo Y X' t ∨
    ∃ f' fl bi Y', X' = (f' :: r, fl, bi, true, Y') ∧ a_fr G f f' ∧ a_D q Y Y' t (-4) (fun _ x => if x = n then 1 else 0) ∧ a_lv q K BG CH bl nv cn kc n G e f' fl bi Y')
def a_lp (G : aC) : Prop := ∀ lt lg, G.2.2.2.2 = some (lt, lg) → lg ≤ G.1.length
def a_ex (R : Nat) : Prop := ∀ m n G i j e f r Y, I (f :: r, false, j, true, Y) → f.2.1 = i → a_Ld q (K f.1) (BG f.1) (CH f.1) m n G i j e → a_has f G.2.1 → a_lp G → mo - Y 13 3 ≤ R → a_go q K BG CH bl mo de nv cn kc n G e f r j Y
/-- a procedure is laid -/
def a_pl (bd : Nat → Nat) (p : Nat) : Prop := ∃ m e, a_Ld q (K p) (BG p) (CH p) m (bd p) ([], 0, 0, -1, none) 0 0 e ∧ BG p e = [] ∧ K p 1 e = 7 ∧ K p 2 e = 0 ∧ K p 3 e = 0 ∧ BG p (e + 1) = [] ∧ K p 1 (e + 1) = 8 ∧ K p 2 (e + 1) = 0
/-- what holds of the nodes -/
def a_ast (bd : Nat → Nat) (vp : Nat → Prop) : Prop :=
  (∀ n, q 0 n = 4 ∨ q 0 n = 5 ∨ q 0 n = 6 ∨ q 0 n = 11 ∨ q 0 n = 12 ∨ q 0 n = 13 → ∀ k, ¬ a_tf q k (q 2 n).toNat) ∧
  (∀ n, q 0 n = 4 ∨ (q 0 n = 5 ∧ q 3 n ≠ -1) → ∀ k, ¬ a_tf q k (q 3 n).toNat) ∧
  (∀ n, q 0 n = 12 → ∀ k, ¬ a_tf q k n) ∧
  (∀ k k' x, a_tf q k x → a_tf q k' x → k = k') ∧
  (∀ p, vp p → (∀ k, ¬ a_tf q k (bd p)) ∧ a_pl q K BG CH bd p) ∧
  (∀ n, q 0 n = 11 → q 1 n = -1 ∨ 0 ≤ q 1 n) ∧
  (∀ n, q 0 n = 4 → nv n → nv (q 2 n).toNat ∨ nv (q 3 n).toNat) ∧
  (∀ n, q 0 n = 5 → nv n → q 3 n ≠ -1 ∧ nv (q 2 n).toNat ∧ nv (q 3 n).toNat) ∧
  (∀ n, q 0 n = 0 ∨ q 0 n = 1 ∨ q 0 n = 2 ∨ q 0 n = 3 ∨ q 0 n = 6 ∨ q 0 n = 9 ∨ q 0 n = 16 ∨ q 0 n = 17 → ¬ nv n) ∧
  (∀ n cs, q 0 n = 11 → a_chain q (q 3 n) cs → nv n → (q 1 n ≠ -1 ∧ nv (q 1 n).toNat) ∨ (nv (q 2 n).toNat ∧ ∀ c, c ∈ cs → nv (q 2 c).toNat)) ∧
  (∀ n, q 0 n = 13 → nv n → nv (q 2 n).toNat) ∧
  (∀ n, q 0 n = 10 ∨ q 0 n = 15 → cn n (q 1 n)) ∧
  (∀ n x, q 0 n = 9 → cn (bd (q 2 n).toNat) x → cn n x) ∧
  (∀ n x, q 0 n = 4 ∨ q 0 n = 5 ∨ q 0 n = 6 ∨ q 0 n = 13 → cn (q 2 n).toNat x → cn n x) ∧
  (∀ n x, q 0 n = 4 ∨ (q 0 n = 5 ∧ q 3 n ≠ -1) → cn (q 3 n).toNat x → cn n x) ∧
  (∀ n cs x, q 0 n = 11 → a_chain q (q 3 n) cs → cn (q 2 n).toNat x → (∀ c, c ∈ cs → ¬ bl x (q 1 c) = true) → (q 1 n ≠ -1 → ¬ nv (q 1 n).toNat) → cn n x) ∧
  (∀ n cs c x, q 0 n = 11 → a_chain q (q 3 n) cs → c ∈ cs → cn (q 2 c).toNat x → (q 1 n ≠ -1 → ¬ nv (q 1 n).toNat) → cn n x) ∧
  (∀ n x, q 0 n = 11 → q 1 n ≠ -1 → cn (q 1 n).toNat x → cn n x) ∧
  (∀ n cs c, q 0 n = 11 → a_chain q (q 3 n) cs → c ∈ cs → q 1 c ≠ -1 ∧ q 0 c = 12) ∧
  (∀ n x, q 0 n = 13 → q 1 n ≠ -1 → cn (bd (q 1 n).toNat) x → cn n x) ∧
  (∀ n x, q 0 n = 13 → q 3 n ≠ -1 → cn (bd (q 3 n).toNat) x → cn n x) ∧
  (kc 1 ∧ kc 2 ∧ kc 3 ∧ kc 4) ∧
  (∀ n, q 0 n = 14 ∨ q 0 n = 18 → ∀ x, kc x) ∧
  (∀ n, q 0 n = 9 → vp (q 2 n).toNat) ∧
  (∀ n, q 0 n = 13 → (q 1 n ≠ -1 → vp (q 1 n).toNat) ∧ (q 3 n ≠ -1 → vp (q 3 n).toNat))
end AEx
