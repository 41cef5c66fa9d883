/-! what holds of the abstract machine at every step -/
def a_sum (g : Nat → Int) : Nat → Int
  | 0 => 0
  | n + 1 => a_sum g n + g n
theorem sum_same {g g' : Nat → Int} : ∀ {n : Nat}, (∀ i, i < n → g' i = g i) → a_sum g' n = a_sum g n
  | 0, _ => rfl
  | n + 1, h => by
    show a_sum g' n + g' n = a_sum g n + g n
    rw [sum_same (fun i hi => h i (by omega)), h n (Nat.lt_succ_self n)]
theorem sum_one {g g' : Nat → Int} {k : Nat} : ∀ {n : Nat}, k < n → (∀ i, i ≠ k → g' i = g i) → g' k = g k + 1 → a_sum g' n = a_sum g n + 1
  | 0, h, _, _ => absurd h (Nat.not_lt_zero _)
  | n + 1, h, h1, h2 => by
    show a_sum g' n + g' n = a_sum g n + g n + 1
    by_cases hk : k = n
    · subst hk
      rw [sum_same (fun i hi => h1 i (by omega)), h2]; omega
    · rw [sum_one (by omega) h1 h2, h1 n (fun q => hk q.symm)]; omega
def a_J (gn : Nat → Prop) (mo de nk : Int) (nn np : Nat) (Y : yM) : Prop :=
  0 ≤ Y 1 0 ∧ (0 < Y 1 0 → 0 ≤ Y 0 16 ∧ Y 0 16 < Y 1 0) ∧ (∀ i, Y 15 i = -1 ∨ (0 ≤ Y 15 i ∧ Y 15 i < Y 1 0)) ∧
  (∀ x : Int, 0 ≤ x → x < Y 1 0 → Y 3 x.toNat = -1 ∨ (0 ≤ Y 3 x.toNat ∧ Y 3 x.toNat < Y 1 0)) ∧ ac Y ∧ (∀ x : Int, 0 ≤ x → x < Y 1 0 → 0 ≤ Y 2 x.toNat ∧ Y 2 x.toNat < nk) ∧
  (∀ n, 0 ≤ Y 16 n) ∧ (∀ n, 0 < Y 16 n → gn n) ∧ a_sum (Y 16) nn = Y 13 3 ∧ (∀ p, 0 ≤ Y 17 p) ∧ a_sum (Y 17) np = Y 13 5 ∧ 0 ≤ Y 13 3 ∧ Y 13 3 ≤ mo ∧ (0 ≤ Y 13 7 ∧ Y 13 7 ≤ de) ∧ 0 ≤ Y 1 1
/-- a frame is sound -/
def a_ok (vp : Nat → Prop) (md : Int) (f : aF) : Prop := vp f.1 ∧ ∀ x v, f.2.2.2.2.1 x = some v → 0 ≤ v ∧ v < md
def a_I (vp gn : Nat → Prop) (mo de nk : Int) (nn np : Nat) (X : aX) : Prop :=
  a_J gn mo de nk nn np X.2.2.2.2 ∧ (∀ f, f ∈ X.1 → a_ok vp (X.2.2.2.2 1 0) f) ∧ (X.2.1 = true → 0 < X.2.2.2.2 1 0) ∧ (X.1.length : Int) ≤ de ∧ (X.2.2.2.1 = true → X.2.2.2.2 13 2 = -1) ∧ (X.2.2.2.1 = false → X.2.2.2.2 13 0 = 1 ∨ X.2.2.2.2 13 2 = -1)
/-- what holds of the code -/
def a_wk (K : Nat → Nat → Nat → Int) (BG : Nat → Nat → List Nat) (vp gn : Nat → Prop) (nk : Int) (nn np : Nat) : Prop :=
  5 ≤ nk ∧ (∀ p, vp p → p < np) ∧ ∀ p, vp p → ∀ i, (∀ n, n ∈ BG p i → n < nn ∧ gn n) ∧ (K p 1 i = 9 → vp (K p 3 i).toNat) ∧ (K p 1 i = 17 ∨ K p 1 i = 18 → vp (K p 2 i).toNat) ∧ (K p 1 i = 10 ∨ K p 1 i = 13 → 0 ≤ K p 2 i ∧ K p 2 i < nk)
section AIn
variable {K : Nat → Nat → Nat → Int} {BG : Nat → Nat → List Nat} {CH : Nat → Nat → List (Int × Int)} {bl : Int → Int → Bool} {mo de nk : Int} {vp gn : Nat → Prop} {nn np : Nat} {Y Y' : yM}
theorem J_eq (h : a_J gn mo de nk nn np Y) (h1 : ∀ j, Y' 1 j = Y 1 j) (h0 : Y' 0 16 = Y 0 16) (h2 : ∀ j, Y' 2 j = Y 2 j) (h3 : ∀ j, Y' 3 j = Y 3 j) (h15 : ∀ j, Y' 15 j = Y 15 j) (h16 : ∀ j, Y' 16 j = Y 16 j) (h17 : ∀ j, Y' 17 j = Y 17 j) (h133 : Y' 13 3 = Y 13 3) (h135 : Y' 13 5 = Y 13 5) (h137 : Y' 13 7 = Y 13 7) : a_J gn mo de nk nn np Y' := by
  obtain ⟨a1, a2, a3, a4, a5, a6, a7, a8, a9, a10, a11, a12, a13, a14, a15⟩ := h
  refine ⟨by rw [h1]; exact a1, ?_, ?_, ?_, ?_, ?_, ?_, ?_, ?_, ?_, ?_, by omega, by omega, by omega, by rw [h1]; exact a15⟩
  · rw [h1, h0]; exact a2
  · intro i; rw [h15, h1]; exact a3 i
  · intro x; rw [h1, h3]; exact a4 x
  · refine ac_same (fun x => ?_) (fun x _ => h3 _) a5
    unfold ac_K
    rw [h1]
  · intro x; rw [h1, h2]; exact a6 x
  · intro n; rw [h16]; exact a7 n
  · intro n; rw [h16]; exact a8 n
  · rw [h133, sum_same (fun i _ => h16 i)]; exact a9
  · intro n; rw [h17]; exact a10 n
  · rw [h135, sum_same (fun i _ => h17 i)]; exact a11
theorem J_14 {i : Nat} {x : Int} (h : a_J gn mo de nk nn np Y) : a_J gn mo de nk nn np (yU Y 14 i x) :=
  J_eq h (fun _ => yU_c (by decide)) (yU_c (by decide)) (fun _ => yU_c (by decide)) (fun _ => yU_c (by decide)) (fun _ => yU_c (by decide)) (fun _ => yU_c (by decide)) (fun _ => yU_c (by decide)) (yU_c (by decide)) (yU_c (by decide)) (yU_c (by decide))
theorem J_13 {i : Nat} {x : Int} (h : a_J gn mo de nk nn np Y) (hi : i ≠ 3 ∧ i ≠ 5 ∧ i ≠ 7) : a_J gn mo de nk nn np (yU Y 13 i x) :=
  J_eq h (fun _ => yU_c (by decide)) (yU_c (by decide)) (fun _ => yU_c (by decide)) (fun _ => yU_c (by decide)) (fun _ => yU_c (by decide)) (fun _ => yU_c (by decide)) (fun _ => yU_c (by decide)) (yU_i hi.1.symm) (yU_i hi.2.1.symm) (yU_i hi.2.2.symm)
theorem J_fly {e : Int} (h : a_J gn mo de nk nn np Y) (he : 0 ≤ e ∧ e < Y 1 0) : a_J gn mo de nk nn np (a_fly Y e) := by
  obtain ⟨a1, a2, a3, a4, a5, a6, a7, a8, a9, a10, a11, a12, a13, a14, a15⟩ := h
  have e0 : a_fly Y e 0 16 = e := yU_at
  have en : ∀ b j, b ≠ 0 → a_fly Y e b j = Y b j := fun b j hb => yU_c hb
  refine ⟨by rw [en 1 0 (by decide)]; exact a1, ?_, ?_, ?_, ?_, ?_, ?_, ?_, ?_, ?_, ?_, by rw [en _ _ (by decide)]; exact a12, by rw [en _ _ (by decide)]; exact a13, by rw [en _ _ (by decide)]; exact a14, by rw [en _ _ (by decide)]; exact a15⟩
  · rw [en 1 0 (by decide), e0]; exact fun _ => he
  · intro i; rw [en _ _ (by decide), en _ _ (by decide)]; exact a3 i
  · intro x; rw [en _ _ (by decide), en _ _ (by decide)]; exact a4 x
  · refine ac_same (fun x => ?_) (fun x _ => en _ _ (by decide)) a5
    unfold ac_K
    rw [en _ _ (by decide)]
  · intro x; rw [en _ _ (by decide), en _ _ (by decide)]; exact a6 x
  · intro n; rw [en _ _ (by decide)]; exact a7 n
  · intro n; rw [en _ _ (by decide)]; exact a8 n
  · rw [en _ _ (by decide), sum_same (fun i _ => en _ _ (by decide))]; exact a9
  · intro n; rw [en _ _ (by decide)]; exact a10 n
  · rw [en _ _ (by decide), sum_same (fun i _ => en _ _ (by decide))]; exact a11
theorem new_1 {k c : Int} : a_new Y k c 1 0 = Y 1 0 + 1 := by
  unfold a_new a_fly
  rw [yU_c (by decide), yU_at]
theorem J_new {k c : Int} (h : a_J gn mo de nk nn np Y) (hk : 0 ≤ k ∧ k < nk) (hc : c = -1 ∨ (0 ≤ c ∧ c < Y 1 0)) : a_J gn mo de nk nn np (a_new Y k c) := by
  obtain ⟨a1, a2, a3, a4, a5, a6, a7, a8, a9, a10, a11, a12, a13, a14, a15⟩ := h
  have e1 : a_new Y k c 1 0 = Y 1 0 + 1 := new_1
  have e11 : a_new Y k c 1 1 = Y 1 1 := by
    unfold a_new a_fly
    rw [yU_c (by decide), yU_i (by decide), yU_c (by decide), yU_c (by decide)]
  have e3 : ∀ x, a_new Y k c 3 x = if x = (Y 1 0).toNat then c else Y 3 x := fun x => by
    unfold a_new a_fly
    rw [yU_c (by decide), yU_c (by decide)]
    by_cases hx : x = (Y 1 0).toNat
    · rw [if_pos hx, hx, yU_at]
    · rw [if_neg hx, yU_i hx, yU_c (by decide)]
  have e2 : ∀ x, a_new Y k c 2 x = if x = (Y 1 0).toNat then k else Y 2 x := fun x => by
    unfold a_new a_fly
    rw [yU_c (by decide), yU_c (by decide), yU_c (by decide)]
    by_cases hx : x = (Y 1 0).toNat
    · rw [if_pos hx, hx, yU_at]
    · rw [if_neg hx, yU_i hx]
  have en : ∀ b j, b ≠ 0 → b ≠ 1 → b ≠ 2 → b ≠ 3 → a_new Y k c b j = Y b j := fun b j h0 h1 h2 h3 => by
    unfold a_new a_fly
    rw [yU_c h0, yU_c h1, yU_c h3, yU_c h2]
  refine ⟨by omega, ?_, ?_, ?_, ac_new a5 a1 a4 hc, ?_, ?_, ?_, ?_, ?_, ?_, ?_, ?_, ?_, by omega⟩
  · rw [a_new_16, e1]; exact fun _ => ⟨a1, by omega⟩
  · intro i
    rw [en 15 i (by decide) (by decide) (by decide) (by decide), e1]
    rcases a3 i with h | h
    · exact Or.inl h
    · exact Or.inr ⟨h.1, by omega⟩
  · intro x h0 hx
    rw [e1] at hx ⊢
    rw [e3]
    by_cases hq : x.toNat = (Y 1 0).toNat
    · rw [if_pos hq]; omega
    · rw [if_neg hq]
      have := a4 x h0 (by omega)
      omega
  · intro x h0 hx
    rw [e1] at hx
    rw [e2]
    by_cases hq : x.toNat = (Y 1 0).toNat
    · rw [if_pos hq]; exact hk
    · rw [if_neg hq]
      exact a6 x h0 (by omega)
  · intro n; rw [en 16 n (by decide) (by decide) (by decide) (by decide)]; exact a7 n
  · intro n; rw [en 16 n (by decide) (by decide) (by decide) (by decide)]; exact a8 n
  · rw [en 13 3 (by decide) (by decide) (by decide) (by decide), sum_same (fun i _ => en 16 i (by decide) (by decide) (by decide) (by decide))]; exact a9
  · intro n; rw [en 17 n (by decide) (by decide) (by decide) (by decide)]; exact a10 n
  · rw [en 13 5 (by decide) (by decide) (by decide) (by decide), sum_same (fun i _ => en 17 i (by decide) (by decide) (by decide) (by decide))]; exact a11
  · rw [en 13 3 (by decide) (by decide) (by decide) (by decide)]; exact a12
  · rw [en 13 3 (by decide) (by decide) (by decide) (by decide)]; exact a13
  · rw [en 13 7 (by decide) (by decide) (by decide) (by decide)]; exact a14
theorem J_begin {n : Nat} (h : a_J gn mo de nk nn np Y) (hn : n < nn) (hg : gn n) (hm : ¬ mo ≤ Y 13 3) : a_J gn mo de nk nn np (a_begin Y n) := by
  obtain ⟨a1, a2, a3, a4, a5, a6, a7, a8, a9, a10, a11, a12, a13, a14, a15⟩ := h
  have h3 : a_begin Y n 13 3 = Y 13 3 + 1 := by
    unfold a_begin
    rw [yU_c (by decide), yU_at]
  have h16 : ∀ x, a_begin Y n 16 x = if x = n then Y 16 n + 1 else Y 16 x := by
    intro x
    unfold a_begin
    by_cases hx : x = n
    · subst hx
      rw [yU_at, if_pos rfl]
    · rw [yU_i hx, yU_c (by decide), if_neg hx]
  have en : ∀ b j, b ≠ 13 → b ≠ 16 → a_begin Y n b j = Y b j := by
    intro b j h1 h2
    unfold a_begin
    rw [yU_c h2, yU_c h1]
  have ei : ∀ j, j ≠ 3 → a_begin Y n 13 j = Y 13 j := by
    intro j h1
    unfold a_begin
    rw [yU_c (by decide), yU_i h1]
  refine ⟨by rw [en 1 0 (by decide) (by decide)]; exact a1, ?_, ?_, ?_, ?_, ?_, ?_, ?_, ?_, ?_, ?_, by omega, by omega, by rw [ei 7 (by decide)]; exact a14, by rw [en 1 1 (by decide) (by decide)]; exact a15⟩
  · rw [en 1 0 (by decide) (by decide), en 0 16 (by decide) (by decide)]; exact a2
  · intro i; rw [en _ _ (by decide) (by decide), en _ _ (by decide) (by decide)]; exact a3 i
  · intro x; rw [en _ _ (by decide) (by decide), en _ _ (by decide) (by decide)]; exact a4 x
  · refine ac_same (fun x => ?_) (fun x _ => en _ _ (by decide) (by decide)) a5
    unfold ac_K
    rw [en _ _ (by decide) (by decide)]
  · intro x; rw [en _ _ (by decide) (by decide), en _ _ (by decide) (by decide)]; exact a6 x
  · intro x
    rw [h16]
    split
    · have := a7 n; omega
    · exact a7 x
  · intro x
    rw [h16]
    split
    · rename_i hx; intro _; rw [hx]; exact hg
    · exact a8 x
  · rw [h3, ← a9]
    exact sum_one hn (fun i hi => by rw [h16, if_neg hi]) (by rw [h16, if_pos rfl])
  · intro x; rw [en _ _ (by decide) (by decide)]; exact a10 x
  · rw [ei 5 (by decide), sum_same (fun i _ => en 17 i (by decide) (by decide))]; exact a11
theorem J_enter {p : Nat} {l : Int} (h : a_J gn mo de nk nn np Y) (hp : p < np) (hl : 0 ≤ l ∧ l ≤ de) : a_J gn mo de nk nn np (a_enterY Y p l) := by
  obtain ⟨a1, a2, a3, a4, a5, a6, a7, a8, a9, a10, a11, a12, a13, a14, a15⟩ := h
  have en : ∀ b j, b ≠ 13 → b ≠ 17 → a_enterY Y p l b j = Y b j := by
    intro b j h1 h2
    unfold a_enterY
    rw [yU_c h1, yU_c h2, yU_c h1]
  have e3 : a_enterY Y p l 13 3 = Y 13 3 := a_enter_3
  have e5 : a_enterY Y p l 13 5 = Y 13 5 + 1 := by
    unfold a_enterY
    rw [yU_i (by decide), yU_c (by decide), yU_at]
  have e7 : a_enterY Y p l 13 7 = if l ≤ Y 13 7 then Y 13 7 else l := yU_at
  have e17 : ∀ x, a_enterY Y p l 17 x = if x = p then Y 17 p + 1 else Y 17 x := by
    intro x
    unfold a_enterY
    rw [yU_c (by decide)]
    by_cases hx : x = p
    · subst hx
      rw [yU_at, if_pos rfl]
    · rw [yU_i hx, yU_c (by decide), if_neg hx]
  refine ⟨by rw [en 1 0 (by decide) (by decide)]; exact a1, ?_, ?_, ?_, ?_, ?_, ?_, ?_, ?_, ?_, ?_, by omega, by omega, ?_, by rw [en 1 1 (by decide) (by decide)]; exact a15⟩
  · rw [en 1 0 (by decide) (by decide), en 0 16 (by decide) (by decide)]; exact a2
  · intro i; rw [en _ _ (by decide) (by decide), en _ _ (by decide) (by decide)]; exact a3 i
  · intro x; rw [en _ _ (by decide) (by decide), en _ _ (by decide) (by decide)]; exact a4 x
  · refine ac_same (fun x => ?_) (fun x _ => en _ _ (by decide) (by decide)) a5
    unfold ac_K
    rw [en _ _ (by decide) (by decide)]
  · intro x; rw [en _ _ (by decide) (by decide), en _ _ (by decide) (by decide)]; exact a6 x
  · intro n; rw [en _ _ (by decide) (by decide)]; exact a7 n
  · intro n; rw [en _ _ (by decide) (by decide)]; exact a8 n
  · rw [e3, sum_same (fun i _ => en 16 i (by decide) (by decide))]; exact a9
  · intro x
    rw [e17]
    split
    · have := a10 p; omega
    · exact a10 x
  · rw [e5, ← a11]
    exact sum_one hp (fun i hi => by rw [e17, if_neg hi]) (by rw [e17, if_pos rfl])
  · rw [e7]
    split
    · exact a14
    · exact hl
theorem J_slot {i : Nat} {e : Int} (h : a_J gn mo de nk nn np Y) (he : 0 ≤ e ∧ e < Y 1 0) : a_J gn mo de nk nn np (yU Y 15 i e) := by
  obtain ⟨a1, a2, a3, a4, a5, a6, a7, a8, a9, a10, a11, a12, a13, a14, a15⟩ := h
  have en : ∀ b j, b ≠ 15 → yU Y 15 i e b j = Y b j := fun b j hb => yU_c hb
  refine ⟨by rw [en 1 0 (by decide)]; exact a1, ?_, ?_, ?_, ?_, ?_, ?_, ?_, ?_, ?_, ?_, by rw [en _ _ (by decide)]; exact a12, by rw [en _ _ (by decide)]; exact a13, by rw [en _ _ (by decide)]; exact a14, by rw [en _ _ (by decide)]; exact a15⟩
  · rw [en 1 0 (by decide), en 0 16 (by decide)]; exact a2
  · intro x
    rw [en 1 0 (by decide)]
    by_cases hx : x = i
    · rw [hx, yU_at]; exact Or.inr he
    · rw [yU_i hx]; exact a3 x
  · intro x; rw [en _ _ (by decide), en _ _ (by decide)]; exact a4 x
  · refine ac_same (fun x => ?_) (fun x _ => en _ _ (by decide)) a5
    unfold ac_K
    rw [en _ _ (by decide)]
  · intro x; rw [en _ _ (by decide), en _ _ (by decide)]; exact a6 x
  · intro n; rw [en _ _ (by decide)]; exact a7 n
  · intro n; rw [en _ _ (by decide)]; exact a8 n
  · rw [en _ _ (by decide), sum_same (fun i _ => en _ _ (by decide))]; exact a9
  · intro n; rw [en _ _ (by decide)]; exact a10 n
  · rw [en _ _ (by decide), sum_same (fun i _ => en _ _ (by decide))]; exact a11
theorem J_link {v c : Int} (h : a_J gn mo de nk nn np Y) (hv : 0 ≤ v ∧ v < Y 1 0) (hc : 0 ≤ c ∧ c < Y 1 0) (hb : a_behind Y v 3000 c = false) : a_J gn mo de nk nn np (yU Y 3 v.toNat c) := by
  obtain ⟨a1, a2, a3, a4, a5, a6, a7, a8, a9, a10, a11, a12, a13, a14, a15⟩ := h
  have en : ∀ b j, b ≠ 3 → yU Y 3 v.toNat c b j = Y b j := fun b j hb => yU_c hb
  refine ⟨by rw [en 1 0 (by decide)]; exact a1, ?_, ?_, ?_, ?_, ?_, ?_, ?_, ?_, ?_, ?_, by rw [en _ _ (by decide)]; exact a12, by rw [en _ _ (by decide)]; exact a13, by rw [en _ _ (by decide)]; exact a14, by rw [en _ _ (by decide)]; exact a15⟩
  · rw [en 1 0 (by decide), en 0 16 (by decide)]; exact a2
  · intro x; rw [en _ _ (by decide), en _ _ (by decide)]; exact a3 x
  · intro x h0 hx
    rw [en 1 0 (by decide)] at hx ⊢
    by_cases hq : x.toNat = v.toNat
    · rw [hq, yU_at]; exact Or.inr hc
    · rw [yU_i hq]; exact a4 x h0 hx
  · exact ac_link a5 (fun x hx => by
      have := a4 x hx.1 hx.2.2
      omega) hv.1 hb
  · intro x; rw [en _ _ (by decide), en _ _ (by decide)]; exact a6 x
  · intro n; rw [en _ _ (by decide)]; exact a7 n
  · intro n; rw [en _ _ (by decide)]; exact a8 n
  · rw [en _ _ (by decide), sum_same (fun i _ => en _ _ (by decide))]; exact a9
  · intro n; rw [en _ _ (by decide)]; exact a10 n
  · rw [en _ _ (by decide), sum_same (fun i _ => en _ _ (by decide))]; exact a11
theorem J_sup (h : a_J gn mo de nk nn np Y) : a_J gn mo de nk nn np (yU Y 1 1 (Y 1 1 + 1)) := by
  obtain ⟨a1, a2, a3, a4, a5, a6, a7, a8, a9, a10, a11, a12, a13, a14, a15⟩ := h
  have en : ∀ b j, b ≠ 1 → yU Y 1 1 (Y 1 1 + 1) b j = Y b j := fun b j hb => yU_c hb
  have e0 : yU Y 1 1 (Y 1 1 + 1) 1 0 = Y 1 0 := yU_i (by decide)
  have e1 : yU Y 1 1 (Y 1 1 + 1) 1 1 = Y 1 1 + 1 := yU_at
  refine ⟨by rw [e0]; exact a1, ?_, ?_, ?_, ?_, ?_, ?_, ?_, ?_, ?_, ?_, by rw [en _ _ (by decide)]; exact a12, by rw [en _ _ (by decide)]; exact a13, by rw [en _ _ (by decide)]; exact a14, by omega⟩
  · rw [e0, en 0 16 (by decide)]; exact a2
  · intro x; rw [en _ _ (by decide), e0]; exact a3 x
  · intro x; rw [e0, en _ _ (by decide)]; exact a4 x
  · refine ac_same (fun x => ?_) (fun x _ => en _ _ (by decide)) a5
    unfold ac_K
    rw [e0]
  · intro x; rw [e0, en _ _ (by decide)]; exact a6 x
  · intro n; rw [en _ _ (by decide)]; exact a7 n
  · intro n; rw [en _ _ (by decide)]; exact a8 n
  · rw [en _ _ (by decide), sum_same (fun i _ => en _ _ (by decide))]; exact a9
  · intro n; rw [en _ _ (by decide)]; exact a10 n
  · rw [en _ _ (by decide), sum_same (fun i _ => en _ _ (by decide))]; exact a11
end AIn
