/-! instructions, one by one -/
theorem bind_id {α : Type} (o : Option α) : (Option.bind o fun t => some t) = o := by cases o <;> rfl
section YSa
variable {M M' : yM} {m c b i N : Nat} {o x y z nd v : Int}
theorem rd_U {a a' j : Nat} {k : Int} (h : a' ≠ a) : yrd (yU M a j v) a' k = yrd M a' k := by
  unfold yrd
  by_cases hq : 0 ≤ yw k ∧ (yw k).toNat < yln a'
  · rw [if_pos hq, if_pos hq, yU_c h]
  · rw [if_neg hq, if_neg hq]
theorem s_1 (hb : c + 1 ≠ b) (k1 : yrd M (c + 1) (i : Int) = 1) (k2 : yrd M (c + 2) (i : Int) = x) (k3 : yrd M (c + 3) (i : Int) = y) : f_92 M m c i b = some (ywr (yU M b 1 ((i : Int) + 1)) (m + 14) x (f_100 (yU M b 1 ((i : Int) + 1)) m y)) := by
  have e0 : ∀ v, yrd (yU M b 1 v) (c + 1) (i : Int) = 1 := fun v => (rd_U hb).trans k1
  unfold f_92
  rw [ylet_eq, ylet_eq, ylet_eq, e0, k2, k3]
  rfl
theorem s_2 (hb : c + 1 ≠ b) (k1 : yrd M (c + 1) (i : Int) = 2) (k2 : yrd M (c + 2) (i : Int) = x) (k3 : yrd M (c + 3) (i : Int) = y) : f_92 M m c i b = some (ywr (yU M b 1 ((i : Int) + 1)) (m + 14) x (yrd (yU M b 1 ((i : Int) + 1)) (m + 14) x + f_100 (yU M b 1 ((i : Int) + 1)) m y)) := by
  have e0 : ∀ v, yrd (yU M b 1 v) (c + 1) (i : Int) = 2 := fun v => (rd_U hb).trans k1
  unfold f_92
  rw [ylet_eq, ylet_eq, ylet_eq, e0, k2, k3]
  rfl
theorem s_4 (hb : c + 1 ≠ b) (k1 : yrd M (c + 1) (i : Int) = 4) (k2 : yrd M (c + 2) (i : Int) = x) : f_92 M m c i b = some (f_94 (yU M b 1 ((i : Int) + 1)) m (f_100 (yU M b 1 ((i : Int) + 1)) m x) (yrd (yU M b 1 ((i : Int) + 1)) (c + 5) (i : Int))) := by
  have e0 : ∀ v, yrd (yU M b 1 v) (c + 1) (i : Int) = 4 := fun v => (rd_U hb).trans k1
  unfold f_92
  rw [ylet_eq, ylet_eq, ylet_eq, e0, k2]
  rfl
theorem s_5 (hb : c + 1 ≠ b) (k1 : yrd M (c + 1) (i : Int) = 5) (k2 : yrd M (c + 2) (i : Int) = x) (k3 : yrd M (c + 3) (i : Int) = y) : f_92 M m c i b = cond (yrel 5 (f_100 (yU M b 1 ((i : Int) + 1)) m y) 0) (some (yU (yU M b 1 ((i : Int) + 1)) b 1 x)) (some (yU (yU M b 1 ((i : Int) + 1)) b 1 ((i : Int) + 1))) := by
  have e0 : ∀ v, yrd (yU M b 1 v) (c + 1) (i : Int) = 5 := fun v => (rd_U hb).trans k1
  unfold f_92
  rw [ylet_eq, ylet_eq, ylet_eq, e0, k2, k3]
  rfl
theorem s_6 (hb : c + 1 ≠ b) (k1 : yrd M (c + 1) (i : Int) = 6) (k2 : yrd M (c + 2) (i : Int) = x) : f_92 M m c i b = some (yU (yU M b 1 ((i : Int) + 1)) b 1 x) := by
  have e0 : ∀ v, yrd (yU M b 1 v) (c + 1) (i : Int) = 6 := fun v => (rd_U hb).trans k1
  unfold f_92
  rw [ylet_eq, ylet_eq, ylet_eq, e0, k2]
  rfl
theorem s_7 (hb : c + 1 ≠ b) (k1 : yrd M (c + 1) (i : Int) = 7) (k2 : yrd M (c + 2) (i : Int) = x) (k3 : yrd M (c + 3) (i : Int) = y) : f_92 M m c i b = some (ywr (yU M b 1 ((i : Int) + 1)) (b + 2) y (f_100 (yU M b 1 ((i : Int) + 1)) m x)) := by
  have e0 : ∀ v, yrd (yU M b 1 v) (c + 1) (i : Int) = 7 := fun v => (rd_U hb).trans k1
  unfold f_92
  rw [ylet_eq, ylet_eq, ylet_eq, e0, k2, k3]
  rfl
theorem s_8 (hb : c + 1 ≠ b) (k1 : yrd M (c + 1) (i : Int) = 8) (k2 : yrd M (c + 2) (i : Int) = x) : f_92 M m c i b = f_87 (yU M b 1 ((i : Int) + 1)) m b (yrd (yU M b 1 ((i : Int) + 1)) (b + 2) x) := by
  have e0 : ∀ v, yrd (yU M b 1 v) (c + 1) (i : Int) = 8 := fun v => (rd_U hb).trans k1
  unfold f_92
  rw [ylet_eq, ylet_eq, ylet_eq, e0, k2]
  exact bind_id _
theorem s_11 (hb : c + 1 ≠ b) (k1 : yrd M (c + 1) (i : Int) = 11) (k2 : yrd M (c + 2) (i : Int) = x) : f_92 M m c i b = some (ywr (yU M b 1 ((i : Int) + 1)) (b + 1) x (yU M b 1 ((i : Int) + 1) m 16)) := by
  have e0 : ∀ v, yrd (yU M b 1 v) (c + 1) (i : Int) = 11 := fun v => (rd_U hb).trans k1
  unfold f_92
  rw [ylet_eq, ylet_eq, ylet_eq, e0, k2]
  rfl
theorem s_14 (hb : c + 1 ≠ b) (k1 : yrd M (c + 1) (i : Int) = 14) (k2 : yrd M (c + 2) (i : Int) = x) (k3 : yrd M (c + 3) (i : Int) = y) : f_92 M m c i b = some (ywr (yU M b 1 ((i : Int) + 1)) (m + 15) x (yrd (yU M b 1 ((i : Int) + 1)) (b + 1) y)) := by
  have e0 : ∀ v, yrd (yU M b 1 v) (c + 1) (i : Int) = 14 := fun v => (rd_U hb).trans k1
  unfold f_92
  rw [ylet_eq, ylet_eq, ylet_eq, e0, k2, k3]
  rfl
theorem s_20 (hb : c + 1 ≠ b) (k1 : yrd M (c + 1) (i : Int) = 20) : f_92 M m c i b = some (yU M b 1 ((i : Int) + 1)) := by
  have e0 : ∀ v, yrd (yU M b 1 v) (c + 1) (i : Int) = 20 := fun v => (rd_U hb).trans k1
  unfold f_92
  rw [ylet_eq, ylet_eq, ylet_eq, e0]
  rfl
theorem s_3 (k1 : yrd M (c + 1) (i : Int) = 3) (k2 : yrd M (c + 2) (i : Int) = x) (k3 : yrd M (c + 3) (i : Int) = y) (k5 : yrd M (c + 5) (i : Int) = nd) : f_91 N M m c i b = f_83 N M m x (f_100 M m y) b nd := by
  unfold f_91
  rw [ylet_eq, ylet_eq, ylet_eq, k1, k2, k3, k5]
  exact bind_id _
theorem s_9 (k1 : yrd M (c + 1) (i : Int) = 9) (k2 : yrd M (c + 2) (i : Int) = x) (k3 : yrd M (c + 3) (i : Int) = y) (k5 : yrd M (c + 5) (i : Int) = nd) : f_91 N M m c i b = f_84 N M m y x nd := by
  unfold f_91
  rw [ylet_eq, ylet_eq, ylet_eq, k1, k2, k3, k5]
  exact bind_id _
theorem s_10 (k1 : yrd M (c + 1) (i : Int) = 10) (k2 : yrd M (c + 2) (i : Int) = x) (k3 : yrd M (c + 3) (i : Int) = y) (k5 : yrd M (c + 5) (i : Int) = nd) : f_91 N M m c i b = f_95 N M m x (f_100 M m y) (-1) nd := by
  unfold f_91
  rw [ylet_eq, ylet_eq, ylet_eq, k1, k2, k3, k5]
  exact bind_id _
theorem s_12 (k1 : yrd M (c + 1) (i : Int) = 12) (k2 : yrd M (c + 2) (i : Int) = x) : f_91 N M m c i b = some (f_85 M m (yrd M (b + 1) x)) := by
  unfold f_91
  rw [ylet_eq, ylet_eq, ylet_eq, k1, k2]
  rfl
theorem s_13 (k1 : yrd M (c + 1) (i : Int) = 13) (k2 : yrd M (c + 2) (i : Int) = x) (k3 : yrd M (c + 3) (i : Int) = y) (k4 : yrd M (c + 4) (i : Int) = z) (k5 : yrd M (c + 5) (i : Int) = nd) : f_91 N M m c i b = f_95 N M m x (f_100 M m y) (yrd M (b + 1) z) nd := by
  unfold f_91
  rw [ylet_eq, ylet_eq, ylet_eq, k1, k2, k3, k5, k4]
  exact bind_id _
theorem s_15 (k1 : yrd M (c + 1) (i : Int) = 15) (k2 : yrd M (c + 2) (i : Int) = x) (k3 : yrd M (c + 3) (i : Int) = y) (k5 : yrd M (c + 5) (i : Int) = nd) : f_91 N M m c i b = f_88 N M m (yrd M (m + 15) x) (yrd M (b + 1) y) b nd := by
  unfold f_91
  rw [ylet_eq, ylet_eq, ylet_eq, k1, k2, k3, k5]
  exact bind_id _
theorem s_16 (k1 : yrd M (c + 1) (i : Int) = 16) (k2 : yrd M (c + 2) (i : Int) = x) (k5 : yrd M (c + 5) (i : Int) = nd) : f_91 N M m c i b = f_98 N M m (yrd M (m + 15) x) nd := by
  unfold f_91
  rw [ylet_eq, ylet_eq, ylet_eq, k1, k2, k5]
  exact bind_id _
theorem s_17 (k1 : yrd M (c + 1) (i : Int) = 17) (k2 : yrd M (c + 2) (i : Int) = x) (k5 : yrd M (c + 5) (i : Int) = nd) : f_91 N M m c i b = f_84 N M m x (-1) nd := by
  unfold f_91
  rw [ylet_eq, ylet_eq, ylet_eq, k1, k2, k5]
  exact bind_id _
theorem s_18 (k1 : yrd M (c + 1) (i : Int) = 18) (k2 : yrd M (c + 2) (i : Int) = x) (k5 : yrd M (c + 5) (i : Int) = nd) : f_91 N M m c i b = f_84 N M m x (-1) nd := by
  unfold f_91
  rw [ylet_eq, ylet_eq, ylet_eq, k1, k2, k5]
  exact bind_id _
theorem s_19 (k1 : yrd M (c + 1) (i : Int) = 19) (k2 : yrd M (c + 2) (i : Int) = x) : f_91 N M m c i b = some (f_97 M m (yrd M (b + 1) x)) := by
  unfold f_91
  rw [ylet_eq, ylet_eq, ylet_eq, k1, k2]
  rfl
theorem mt_1 : f_42 M 1 = 0 := rfl
theorem mt_2 : f_42 M 2 = 0 := rfl
theorem mt_3 : f_42 M 3 = 1 := rfl
theorem mt_4 : f_42 M 4 = 0 := rfl
theorem mt_5 : f_42 M 5 = 0 := rfl
theorem mt_6 : f_42 M 6 = 0 := rfl
theorem mt_7 : f_42 M 7 = 0 := rfl
theorem mt_8 : f_42 M 8 = 0 := rfl
theorem mt_9 : f_42 M 9 = 1 := rfl
theorem mt_10 : f_42 M 10 = 1 := rfl
theorem mt_11 : f_42 M 11 = 0 := rfl
theorem mt_12 : f_42 M 12 = 1 := rfl
theorem mt_13 : f_42 M 13 = 1 := rfl
theorem mt_14 : f_42 M 14 = 0 := rfl
theorem mt_15 : f_42 M 15 = 1 := rfl
theorem mt_16 : f_42 M 16 = 1 := rfl
theorem mt_17 : f_42 M 17 = 1 := rfl
theorem mt_18 : f_42 M 18 = 1 := rfl
theorem mt_19 : f_42 M 19 = 1 := rfl
theorem mt_20 : f_42 M 20 = 0 := rfl
end YSa
