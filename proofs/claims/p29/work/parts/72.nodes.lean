/-! nodes, sort by sort; nodes of one instruction; sequences, branches, loops -/
section NdA
variable {P : yM} {k : Nat → Nat → Int} {bg : Nat → List Nat} {ch : Nat → List (Int × Int)} {Pd : Nat → aC → Nat → Nat → Nat → Prop} {n i j e : Nat} {G : aC}
theorem nd_0 (h : P 7 n = 0) (h1 : a_one k bg ch n G i j e 1 (P 8 n) (P 9 n) (0)) : a_node (yq P) k bg ch Pd n G i j e := by
  unfold a_node
  dsimp only
  rw [show yq P 0 n = 0 from h, if_pos rfl]
  exact h1
theorem nd_1 (h : P 7 n = 1) (h1 : a_one k bg ch n G i j e 2 (P 8 n) (P 9 n) (0)) : a_node (yq P) k bg ch Pd n G i j e := by
  unfold a_node
  dsimp only
  rw [show yq P 0 n = 1 from h, if_neg (by decide), if_pos rfl]
  exact h1
theorem nd_2 (h : P 7 n = 2) (h1 : a_one k bg ch n G i j e 3 (P 8 n) (P 9 n) (0)) : a_node (yq P) k bg ch Pd n G i j e := by
  unfold a_node
  dsimp only
  rw [show yq P 0 n = 2 from h, if_neg (by decide), if_neg (by decide), if_pos rfl]
  exact h1
theorem nd_3 (h : P 7 n = 3) (h1 : a_one k bg ch n G i j e 4 (P 9 n) (0) (0)) : a_node (yq P) k bg ch Pd n G i j e := by
  unfold a_node
  dsimp only
  rw [show yq P 0 n = 3 from h, if_neg (by decide), if_neg (by decide), if_neg (by decide), if_pos rfl]
  exact h1
theorem nd_4 (h : P 7 n = 4) (h1 : ∃ mid, Pd (P 9 n).toNat G i (j + 1) mid ∧ Pd (P 10 n).toNat G mid 0 e) : a_node (yq P) k bg ch Pd n G i j e := by
  unfold a_node
  dsimp only
  rw [show yq P 0 n = 4 from h, if_neg (by decide), if_neg (by decide), if_neg (by decide), if_neg (by decide), if_pos rfl]
  exact h1
theorem nd_5 (h : P 7 n = 5) (h1 : (bg i).length = j + 1 ∧ k 1 i = 5 ∧ k 3 i = P 8 n ∧ ∃ mid, Pd (P 9 n).toNat G (i + 1) 0 mid ∧ (if P 10 n = -1 then e = mid ∧ k 2 i = (e : Int) else (bg mid = [] ∧ k 1 mid = 6 ∧ k 2 mid = (e : Int) ∧ k 2 i = ((mid + 1 : Nat) : Int) ∧ Pd (P 10 n).toNat G (mid + 1) 0 e))) : a_node (yq P) k bg ch Pd n G i j e := by
  unfold a_node
  dsimp only
  rw [show yq P 0 n = 5 from h, if_neg (by decide), if_neg (by decide), if_neg (by decide), if_neg (by decide), if_neg (by decide), if_pos rfl]
  exact h1
theorem nd_6 (h : P 7 n = 6) (h1 : (bg i).length = j + 1 ∧ k 1 i = 20 ∧ bg (i + 1) = [] ∧ k 1 (i + 1) = 5 ∧ k 2 (i + 1) = (e : Int) ∧ k 3 (i + 1) = 100 + P 8 n ∧ ∃ mid, Pd (P 9 n).toNat (G.1, G.2.1, G.2.2.1, G.2.2.2.1, some (e, G.1.length)) (i + 2) 0 mid ∧ bg mid = [] ∧ k 1 mid = 6 ∧ k 2 mid = ((i + 1 : Nat) : Int) ∧ e = mid + 1) : a_node (yq P) k bg ch Pd n G i j e := by
  unfold a_node
  dsimp only
  rw [show yq P 0 n = 6 from h, if_neg (by decide), if_neg (by decide), if_neg (by decide), if_neg (by decide), if_neg (by decide), if_neg (by decide), if_pos rfl]
  exact h1
theorem nd_7 (h : P 7 n = 7) (h1 : ∃ lt lg, G.2.2.2.2 = some (lt, lg) ∧ a_wb (yq P) k bg ch Pd lt lg G.1 G.2.1 G.2.2.1 i (j + 1)) : a_node (yq P) k bg ch Pd n G i j e := by
  unfold a_node
  dsimp only
  rw [show yq P 0 n = 7 from h, if_neg (by decide), if_neg (by decide), if_neg (by decide), if_neg (by decide), if_neg (by decide), if_neg (by decide), if_neg (by decide), if_pos rfl]
  exact h1
theorem nd_8 (h : P 7 n = 8) (h1 : (bg i).length = j + 1 ∧ k 1 i = 7 ∧ k 2 i = P 9 n ∧ k 3 i = (G.2.2.1 : Int) ∧ a_wo (yq P) k bg ch Pd G.1 G.2.1 G.2.2.1 (i + 1) 0) : a_node (yq P) k bg ch Pd n G i j e := by
  unfold a_node
  dsimp only
  rw [show yq P 0 n = 8 from h, if_neg (by decide), if_neg (by decide), if_neg (by decide), if_neg (by decide), if_neg (by decide), if_neg (by decide), if_neg (by decide), if_neg (by decide), if_pos rfl]
  exact h1
theorem nd_9 (h : P 7 n = 9) (h1 : a_one k bg ch n G i j e 9 (P 8 n) (P 9 n) (0)) : a_node (yq P) k bg ch Pd n G i j e := by
  unfold a_node
  dsimp only
  rw [show yq P 0 n = 9 from h, if_neg (by decide), if_neg (by decide), if_neg (by decide), if_neg (by decide), if_neg (by decide), if_neg (by decide), if_neg (by decide), if_neg (by decide), if_neg (by decide), if_pos rfl]
  exact h1
theorem nd_10 (h : P 7 n = 10) (h1 : a_one k bg ch n G i j e 10 (P 8 n) (P 9 n) (0)) : a_node (yq P) k bg ch Pd n G i j e := by
  unfold a_node
  dsimp only
  rw [show yq P 0 n = 10 from h, if_neg (by decide), if_neg (by decide), if_neg (by decide), if_neg (by decide), if_neg (by decide), if_neg (by decide), if_neg (by decide), if_neg (by decide), if_neg (by decide), if_neg (by decide), if_pos rfl]
  exact h1
theorem nd_11 (h : P 7 n = 11) (h1 : a_try (yq P) k bg ch Pd n G i j e) : a_node (yq P) k bg ch Pd n G i j e := by
  unfold a_node
  dsimp only
  rw [show yq P 0 n = 11 from h, if_neg (by decide), if_neg (by decide), if_neg (by decide), if_neg (by decide), if_neg (by decide), if_neg (by decide), if_neg (by decide), if_neg (by decide), if_neg (by decide), if_neg (by decide), if_neg (by decide), if_pos rfl]
  exact h1
theorem nd_13 (h : P 7 n = 13) (h1 : a_using (yq P) k bg ch Pd n G i j e) : a_node (yq P) k bg ch Pd n G i j e := by
  unfold a_node
  dsimp only
  rw [show yq P 0 n = 13 from h, if_neg (by decide), if_neg (by decide), if_neg (by decide), if_neg (by decide), if_neg (by decide), if_neg (by decide), if_neg (by decide), if_neg (by decide), if_neg (by decide), if_neg (by decide), if_neg (by decide), if_neg (by decide), if_pos rfl]
  exact h1
theorem nd_14 (h : P 7 n = 14) (h1 : 0 ≤ G.2.2.2.1 ∧ G.2.2.2.1 < (G.2.1 : Int) ∧ a_one k bg ch n G i j e 12 (G.2.2.2.1) (0) (0)) : a_node (yq P) k bg ch Pd n G i j e := by
  unfold a_node
  dsimp only
  rw [show yq P 0 n = 14 from h, if_neg (by decide), if_neg (by decide), if_neg (by decide), if_neg (by decide), if_neg (by decide), if_neg (by decide), if_neg (by decide), if_neg (by decide), if_neg (by decide), if_neg (by decide), if_neg (by decide), if_neg (by decide), if_neg (by decide), if_pos rfl]
  exact h1
theorem nd_15 (h : P 7 n = 15) (h1 : 0 ≤ G.2.2.2.1 ∧ G.2.2.2.1 < (G.2.1 : Int) ∧ a_one k bg ch n G i j e 13 (P 8 n) (P 9 n) (G.2.2.2.1)) : a_node (yq P) k bg ch Pd n G i j e := by
  unfold a_node
  dsimp only
  rw [show yq P 0 n = 15 from h, if_neg (by decide), if_neg (by decide), if_neg (by decide), if_neg (by decide), if_neg (by decide), if_neg (by decide), if_neg (by decide), if_neg (by decide), if_neg (by decide), if_neg (by decide), if_neg (by decide), if_neg (by decide), if_neg (by decide), if_neg (by decide), if_pos rfl]
  exact h1
theorem nd_16 (h : P 7 n = 16) (h1 : 0 ≤ G.2.2.2.1 ∧ G.2.2.2.1 < (G.2.1 : Int) ∧ a_one k bg ch n G i j e 14 (P 8 n) (G.2.2.2.1) (0)) : a_node (yq P) k bg ch Pd n G i j e := by
  unfold a_node
  dsimp only
  rw [show yq P 0 n = 16 from h, if_neg (by decide), if_neg (by decide), if_neg (by decide), if_neg (by decide), if_neg (by decide), if_neg (by decide), if_neg (by decide), if_neg (by decide), if_neg (by decide), if_neg (by decide), if_neg (by decide), if_neg (by decide), if_neg (by decide), if_neg (by decide), if_neg (by decide), if_pos rfl]
  exact h1
theorem nd_17 (h : P 7 n = 17) (h1 : 0 ≤ G.2.2.2.1 ∧ G.2.2.2.1 < (G.2.1 : Int) ∧ a_one k bg ch n G i j e 15 (P 8 n) (G.2.2.2.1) (0)) : a_node (yq P) k bg ch Pd n G i j e := by
  unfold a_node
  dsimp only
  rw [show yq P 0 n = 17 from h, if_neg (by decide), if_neg (by decide), if_neg (by decide), if_neg (by decide), if_neg (by decide), if_neg (by decide), if_neg (by decide), if_neg (by decide), if_neg (by decide), if_neg (by decide), if_neg (by decide), if_neg (by decide), if_neg (by decide), if_neg (by decide), if_neg (by decide), if_neg (by decide), if_pos rfl]
  exact h1
theorem nd_18 (h : P 7 n = 18) (h1 : a_one k bg ch n G i j e 16 (P 8 n) (0) (0)) : a_node (yq P) k bg ch Pd n G i j e := by
  unfold a_node
  dsimp only
  rw [show yq P 0 n = 18 from h, if_neg (by decide), if_neg (by decide), if_neg (by decide), if_neg (by decide), if_neg (by decide), if_neg (by decide), if_neg (by decide), if_neg (by decide), if_neg (by decide), if_neg (by decide), if_neg (by decide), if_neg (by decide), if_neg (by decide), if_neg (by decide), if_neg (by decide), if_neg (by decide), if_neg (by decide), if_pos rfl]
  exact h1
end NdA
