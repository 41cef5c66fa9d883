/-! the class's machine at cell m, and the abstract one -/
theorem ylet_eq {α β : Type} (x : α) (B : α → β) : ylet x B = B x := rfl
/-- numbers that an int holds -/
def ysm (x : Int) : Prop := -2147483648 ≤ x ∧ x ≤ 2147483647
theorem sm_w {x : Int} (h : ysm x) : yw x = x := yw_of h.1 h.2
section YNu
variable {M : yM} {a : Nat} {k x y : Int}
theorem rd_in (h0 : 0 ≤ k) (h1 : k < (yln a : Int)) : yrd M a k = M a k.toNat := by
  have hl := yln_le (a := a)
  have e : yw k = k := yw_of (by omega) (by omega)
  unfold yrd
  rw [e, if_pos ⟨h0, by omega⟩]
theorem wr_in {v : Int} (h0 : 0 ≤ k) (h1 : k < (yln a : Int)) : ywr M a k v = yU M a k.toNat v := by
  have hl := yln_le (a := a)
  have e : yw k = k := yw_of (by omega) (by omega)
  unfold ywr
  rw [e, if_pos ⟨h0, by omega⟩]
theorem rd_out (hs : ysm k) (h : k < 0 ∨ (yln a : Int) ≤ k) : yrd M a k = 0 := by
  unfold yrd
  rw [sm_w hs, if_neg (by omega)]
theorem wr_out {v : Int} (hs : ysm k) (h : k < 0 ∨ (yln a : Int) ≤ k) : ywr M a k v = M := by
  unfold ywr
  rw [sm_w hs, if_neg (by omega)]
theorem rel0 (hx : ysm x) (hy : ysm y) : yrel 0 x y = decide (x = y) := by rw [yrel0, sm_w hx, sm_w hy]
theorem rel1 (hx : ysm x) (hy : ysm y) : yrel 1 x y = !decide (x = y) := by rw [yrel1, sm_w hx, sm_w hy]
theorem rel2 (hx : ysm x) (hy : ysm y) : yrel 2 x y = decide (x < y) := by rw [yrel2, sm_w hx, sm_w hy]
theorem rel3 (hx : ysm x) (hy : ysm y) : yrel 3 x y = decide (y ≤ x) := by rw [yrel3, sm_w hx, sm_w hy]
theorem rel4 (hx : ysm x) (hy : ysm y) : yrel 4 x y = decide (y < x) := by rw [yrel4, sm_w hx, sm_w hy]
theorem rel5 (hx : ysm x) (hy : ysm y) : yrel 5 x y = decide (x ≤ y) := by rw [yrel5, sm_w hx, sm_w hy]
theorem cond_dt {α : Type} {p : Prop} [Decidable p] {X Z : α} (h : p) : cond (decide p) X Z = X := by rw [decide_eq_true h]; rfl
theorem cond_df {α : Type} {p : Prop} [Decidable p] {X Z : α} (h : ¬ p) : cond (decide p) X Z = Z := by rw [decide_eq_false h]; rfl
end YNu
section YLn
variable {m c : Nat}
theorem ln_13 (h : pM m) : yln (m + 13) = 9 := by rcases h with rfl | rfl <;> rfl
theorem ln_14 (h : pM m) : yln (m + 14) = 10 := by rcases h with rfl | rfl <;> rfl
theorem ln_15 (h : pM m) : yln (m + 15) = 4 := by rcases h with rfl | rfl <;> rfl
theorem ln_16 (h : pM m) : yln (m + 16) = 90 := by rcases h with rfl | rfl <;> rfl
theorem ln_17 (h : pM m) : yln (m + 17) = 8 := by rcases h with rfl | rfl <;> rfl
theorem ln_18 (h : pM m) : yln (m + 18) = 120 := by rcases h with rfl | rfl <;> rfl
theorem ln_2 (h : pM m) : yln (m + 1 + 1) = 3000 := by rcases h with rfl | rfl <;> rfl
theorem ln_3 (h : pM m) : yln (m + 1 + 2) = 3000 := by rcases h with rfl | rfl <;> rfl
theorem ln_4 (h : pM m) : yln (m + 1 + 3) = 13 := by rcases h with rfl | rfl <;> rfl
theorem ln_5 (h : pM m) : yln (m + 1 + 4) = 40 := by rcases h with rfl | rfl <;> rfl
theorem ln_6 (h : pM m) : yln (m + 1 + 5) = 40 := by rcases h with rfl | rfl <;> rfl
theorem ln_7 (h : pM m) : yln (m + 1 + 6) = 240 := by rcases h with rfl | rfl <;> rfl
theorem ln_8 (h : pM m) : yln (m + 1 + 7) = 40 := by rcases h with rfl | rfl <;> rfl
theorem ln_9 (h : pM m) : yln (m + 1 + 8) = 40 := by rcases h with rfl | rfl <;> rfl
theorem ln_10 (h : pM m) : yln (m + 1 + 9) = 40 := by rcases h with rfl | rfl <;> rfl
theorem ln_11 (h : pM m) : yln (m + 1 + 10) = 3000 := by rcases h with rfl | rfl <;> rfl
theorem ln_12 (h : pM m) : yln (m + 1 + 11) = 3000 := by rcases h with rfl | rfl <;> rfl
theorem ln_f {e j : Nat} (h : pM m) (he : e < 30) (hj : j = 1 ∨ j = 2) : yln (m + 20 + 3 * e + j) = 90 := by
  have k1 : ∀ e, e < 30 → yln (196 + 20 + 3 * e + 1) = 90 ∧ yln (196 + 20 + 3 * e + 2) = 90 ∧ yln (306 + 20 + 3 * e + 1) = 90 ∧ yln (306 + 20 + 3 * e + 2) = 90 := by decide
  obtain ⟨a1, a2, a3, a4⟩ := k1 e he
  rcases h with rfl | rfl <;> rcases hj with rfl | rfl <;> assumption
theorem ln_c {p j : Nat} (hp : p < 8) (hj : 1 ≤ j ∧ j ≤ 7) : yln (24 + 9 * p + j) = 300 := by
  have k1 : ∀ p, p < 8 → ∀ j, j < 8 → 1 ≤ j → yln (24 + 9 * p + j) = 300 := by decide
  exact k1 p hp j (by omega) hj.1
theorem ln_c8 {p : Nat} (hp : p < 8) : yln (24 + 9 * p + 8) = 690 := by
  have k1 : ∀ p, p < 8 → yln (24 + 9 * p + 8) = 690 := by decide
  exact k1 p hp
end YLn
/-- the numbers of the machine at m -/
def rY (M : yM) (m : Nat) (Y : yM) : Prop :=
  (0 < Y 1 0 → M m 16 = Y 0 16) ∧ (∀ i, i < 2 → M (m + 1) i = Y 1 i) ∧ (∀ e : Nat, e < 3000 → (e : Int) < Y 1 0 → M (m + 2) e = Y 2 e ∧ M (m + 3) e = Y 3 e) ∧
  (∀ i, i < 9 → M (m + 13) i = Y 13 i) ∧ (∀ i, i < 10 → M (m + 14) i = Y 14 i) ∧ (∀ i, i < 4 → M (m + 15) i = Y 15 i) ∧ (∀ i, i < 90 → M (m + 16) i = Y 16 i) ∧ (∀ i, i < 8 → M (m + 17) i = Y 17 i)
/-- a frame at b -/
def rF (M : yM) (b : Nat) (f : aF) : Prop :=
  M b 0 = (f.1 : Int) ∧ M b 1 = (f.2.1 : Int) ∧ M b 2 = f.2.2.1 ∧ M b 3 = f.2.2.2.1 ∧ (∀ x, x < 90 → ∀ v, f.2.2.2.2.1 x = some v → M (b + 1) x = v) ∧ (∀ x, x < 90 → ∀ v, f.2.2.2.2.2 x = some v → M (b + 2) x = v)
def rFs (M : yM) (m : Nat) : List aF → Prop
  | [] => True
  | f :: r => rF M (m + 20 + 3 * r.length) f ∧ rFs M m r
def b2i (b : Bool) : Int := if b = true then 1 else 0
def rel (M : yM) (m : Nat) (mo de : Int) (X : aX) : Prop :=
  rY M m X.2.2.2.2 ∧ rFs M m X.1 ∧ M m 12 = (X.1.length : Int) ∧ M m 13 = mo ∧ M m 14 = de ∧ M m 15 = b2i X.2.2.2.1 ∧ M m 17 = b2i X.2.1
/-- how many are beneath those that are kept -/
def r_sum (M : yM) (m : Nat) : Int := a_sum (fun k => if (k : Int) < M (m + 1) 0 then M (m + 8) k else 0) 40
/-- the links beneath one: li its links, ow whose a link is -/
def r_ch (M : yM) (m : Nat) (ow : Nat → Nat) (li : Nat → Nat → Nat) (k : Nat) : Prop :=
  (0 < M (m + 8) k → M (m + 9) k = (li k 0 : Int) ∧ M (m + 10) k = (li k (M (m + 8) k - 1).toNat : Int)) ∧ (∀ i : Nat, (i : Int) + 1 < M (m + 8) k → M (m + 12) (li k i) = (li k (i + 1) : Int)) ∧
  (∀ i : Nat, (i : Int) < M (m + 8) k → (li k i : Int) < M (m + 1) 1 ∧ (M (m + 11) (li k i) ≠ (k : Int) ∧ ysm (M (m + 11) (li k i))) ∧ ow (li k i) = k) ∧ (∀ i j : Nat, i < j → (j : Int) < M (m + 8) k → li k i < li k j)
/-- traces, and what is suppressed -/
def rJ (M : yM) (m : Nat) : Prop :=
  0 ≤ M (m + 1) 0 ∧ 0 ≤ M (m + 1) 1 ∧
  (∀ k : Nat, k < 40 → (k : Int) < M (m + 1) 0 → (1 ≤ M (m + 6) k ∧ M (m + 6) k ≤ 6) ∧ (0 ≤ M (m + 7) (6 * k) ∧ M (m + 7) (6 * k) < M 1 7) ∧ 0 ≤ M (m + 8) k) ∧
  r_sum M m ≤ M (m + 1) 1 ∧ (M (m + 1) 0 ≤ 40 → r_sum M m = M (m + 1) 1) ∧
  (M (m + 1) 1 ≤ 3000 → ∃ (ow : Nat → Nat) (li : Nat → Nat → Nat), ∀ k : Nat, k < 40 → (k : Int) < M (m + 1) 0 → r_ch M m ow li k)
theorem rJ_eq {M M' : yM} {m : Nat} (h : rJ M m) (h1 : ∀ j, M' (m + 1) j = M (m + 1) j) (h6 : ∀ a j, m + 6 ≤ a → a ≤ m + 12 → M' a j = M a j) (h7 : M' 1 7 = M 1 7) : rJ M' m := by
  obtain ⟨a1, a2, a3, a4, a5, a6⟩ := h
  have e8 : ∀ j, M' (m + 8) j = M (m + 8) j := fun j => h6 _ j (by omega) (by omega)
  have es : r_sum M' m = r_sum M m := sum_same (fun i _ => by rw [h1, e8])
  refine ⟨by rw [h1]; exact a1, by rw [h1]; exact a2, fun k hk hl => ?_, by rw [es, h1]; exact a4, fun h => ?_, fun h => ?_⟩
  · rw [h1] at hl
    rw [h6 (m + 6) _ (by omega) (by omega), h6 (m + 7) _ (by omega) (by omega), e8, h7]
    exact a3 k hk hl
  · rw [h1] at h
    rw [es, h1]; exact a5 h
  · rw [h1] at h
    obtain ⟨ow, li, hc⟩ := a6 h
    refine ⟨ow, li, fun k hk hl => ?_⟩
    rw [h1] at hl
    obtain ⟨b1, b2, b3, b4⟩ := hc k hk hl
    unfold r_ch
    rw [e8, h6 (m + 9) _ (by omega) (by omega), h6 (m + 10) _ (by omega) (by omega)]
    refine ⟨b1, fun i hi => ?_, fun i hi => ?_, b4⟩
    · rw [h6 (m + 12) _ (by omega) (by omega)]; exact b2 i hi
    · rw [h6 (m + 11) _ (by omega) (by omega), h1]; exact b3 i hi
/-- all but the machine's own cells is as it was, and traces stay sound -/
def rst (M M' : yM) (m : Nat) : Prop := (∀ a i, ¬ (m ≤ a ∧ a < m + 110) → M' a i = M a i) ∧ (pM m → rJ M m → rJ M' m)
section YRl
variable {M M' M'' : yM} {m a i b : Nat} {v : Int} {Y : yM} {f : aF} {r : List aF} {mo de : Int} {X : aX}
theorem rst_refl : rst M M m := ⟨fun _ _ _ => rfl, fun _ h => h⟩
theorem rst_trans (h : rst M M' m) (h' : rst M' M'' m) : rst M M'' m := ⟨fun a i hn => (h'.1 a i hn).trans (h.1 a i hn), fun hm hJ => h'.2 hm (h.2 hm hJ)⟩
theorem rst_U (h : (m ≤ a ∧ a < m + 110) ∧ a ≠ m + 1 ∧ (a < m + 6 ∨ m + 12 < a)) : rst M (yU M a i v) m := ⟨fun b j hn => yU_c (fun q => hn (by rw [q]; exact h.1)), fun hm hJ => by
  have hmm : m = 196 ∨ m = 306 := hm
  exact rJ_eq hJ (fun j => yU_c (by omega)) (fun b j h1 h2 => yU_c (by omega)) (yU_c (by omega))⟩
theorem rY_out (h : rY M m Y) (h1 : ¬ (a = m ∧ i = 16)) (h2 : a ≠ m + 1 ∧ a ≠ m + 2 ∧ a ≠ m + 3 ∧ a ≠ m + 13 ∧ a ≠ m + 14 ∧ a ≠ m + 15 ∧ a ≠ m + 16 ∧ a ≠ m + 17) : rY (yU M a i v) m Y := by
  obtain ⟨a1, a2, a3, a4, a5, a6, a7, a8⟩ := h
  obtain ⟨c1, c2, c3, c4, c5, c6, c7, c8⟩ := h2
  refine ⟨fun h => ?_, fun j hj => ?_, fun e he hl => ?_, fun j hj => ?_, fun j hj => ?_, fun j hj => ?_, fun j hj => ?_, fun j hj => ?_⟩
  · rw [yU_ne (fun q => h1 ⟨q.1.symm, q.2.symm⟩)]; exact a1 h
  · rw [yU_c c1.symm]; exact a2 j hj
  · rw [yU_c c2.symm, yU_c c3.symm]; exact a3 e he hl
  · rw [yU_c c4.symm]; exact a4 j hj
  · rw [yU_c c5.symm]; exact a5 j hj
  · rw [yU_c c6.symm]; exact a6 j hj
  · rw [yU_c c7.symm]; exact a7 j hj
  · rw [yU_c c8.symm]; exact a8 j hj
/-- the same number on both sides -/
theorem rY_U {c : Nat} (h : rY M m Y) (hc : c = 13 ∨ c = 14 ∨ c = 15 ∨ c = 16 ∨ c = 17) : rY (yU M (m + c) i v) m (yU Y c i v) := by
  obtain ⟨a1, a2, a3, a4, a5, a6, a7, a8⟩ := h
  have en : ∀ b j, b < 13 → yU Y c i v b j = Y b j := fun b j hb => yU_c (by omega)
  have eM : ∀ b j, b < 13 → yU M (m + c) i v (m + b) j = M (m + b) j := fun b j hb => yU_c (by omega)
  have es : ∀ b n, (∀ j, j < n → M (m + b) j = Y b j) → ∀ j, j < n → yU M (m + c) i v (m + b) j = yU Y c i v b j := by
    intro b n hb j hj
    by_cases e : b = c
    · subst e
      by_cases e2 : j = i
      · rw [e2, yU_at, yU_at]
      · rw [yU_i e2, yU_i e2]; exact hb j hj
    · rw [yU_c (by omega), yU_c e]; exact hb j hj
  refine ⟨fun h => ?_, fun j hj => ?_, fun e he hl => ?_, es 13 9 a4, es 14 10 a5, es 15 4 a6, es 16 90 a7, es 17 8 a8⟩
  · rw [en 1 0 (by decide)] at h
    rw [en 0 16 (by decide)]
    exact (eM 0 16 (by decide)).trans (a1 h)
  · rw [en 1 j (by decide), eM 1 j (by decide)]; exact a2 j hj
  · rw [en 1 0 (by decide)] at hl
    rw [en 2 e (by decide), en 3 e (by decide), eM 2 e (by decide), eM 3 e (by decide)]; exact a3 e he hl
theorem rF_out (h : rF M b f) (h1 : a ≠ b ∧ a ≠ b + 1 ∧ a ≠ b + 2) : rF (yU M a i v) b f := by
  obtain ⟨a1, a2, a3, a4, a5, a6⟩ := h
  obtain ⟨c1, c2, c3⟩ := h1
  refine ⟨?_, ?_, ?_, ?_, fun x hx w hw => ?_, fun x hx w hw => ?_⟩
  · rw [yU_c c1.symm]; exact a1
  · rw [yU_c c1.symm]; exact a2
  · rw [yU_c c1.symm]; exact a3
  · rw [yU_c c1.symm]; exact a4
  · rw [yU_c c2.symm]; exact a5 x hx w hw
  · rw [yU_c c3.symm]; exact a6 x hx w hw
theorem rFs_out : ∀ {r : List aF}, rFs M m r → a < m + 20 ∨ m + 20 + 3 * r.length ≤ a → rFs (yU M a i v) m r
  | [], _, _ => trivial
  | f :: r, h, h1 => by
    rw [List.length_cons] at h1
    exact ⟨rF_out h.1 (by omega), rFs_out h.2 (by omega)⟩
/-- the place of the frame on top -/
theorem rF_place {j : Nat} (h : rF M b f) : rF (yU M b 1 (j : Int)) b (f.1, j, f.2.2) := by
  obtain ⟨a1, a2, a3, a4, a5, a6⟩ := h
  refine ⟨?_, yU_at, ?_, ?_, fun x hx w hw => ?_, fun x hx w hw => ?_⟩
  · rw [yU_i (by decide)]; exact a1
  · rw [yU_i (by decide)]; exact a3
  · rw [yU_i (by decide)]; exact a4
  · rw [yU_c (by omega)]; exact a5 x hx w hw
  · rw [yU_c (by omega)]; exact a6 x hx w hw
theorem rF_caught {x : Nat} (h : rF M b f) : rF (yU M (b + 1) x v) b (f.1, f.2.1, f.2.2.1, f.2.2.2.1, a_upd f.2.2.2.2.1 x v, f.2.2.2.2.2) := by
  obtain ⟨a1, a2, a3, a4, a5, a6⟩ := h
  refine ⟨?_, ?_, ?_, ?_, fun y hy w hw => ?_, fun y hy w hw => ?_⟩
  · rw [yU_c (by omega)]; exact a1
  · rw [yU_c (by omega)]; exact a2
  · rw [yU_c (by omega)]; exact a3
  · rw [yU_c (by omega)]; exact a4
  · have hw : a_upd f.2.2.2.2.1 x v y = some w := hw
    unfold a_upd at hw
    by_cases e : y = x
    · rw [if_pos e] at hw; cases hw
      rw [e, yU_at]
    · rw [if_neg e] at hw
      rw [yU_i e]; exact a5 y hy w hw
  · rw [yU_c (by omega)]; exact a6 y hy w hw
theorem rF_held {x : Nat} (h : rF M b f) : rF (yU M (b + 2) x v) b (f.1, f.2.1, f.2.2.1, f.2.2.2.1, f.2.2.2.2.1, a_upd f.2.2.2.2.2 x v) := by
  obtain ⟨a1, a2, a3, a4, a5, a6⟩ := h
  refine ⟨?_, ?_, ?_, ?_, fun y hy w hw => ?_, fun y hy w hw => ?_⟩
  · rw [yU_c (by omega)]; exact a1
  · rw [yU_c (by omega)]; exact a2
  · rw [yU_c (by omega)]; exact a3
  · rw [yU_c (by omega)]; exact a4
  · rw [yU_c (by omega)]; exact a5 y hy w hw
  · have hw : a_upd f.2.2.2.2.2 x v y = some w := hw
    unfold a_upd at hw
    by_cases e : y = x
    · rw [if_pos e] at hw; cases hw
      rw [e, yU_at]
    · rw [if_neg e] at hw
      rw [yU_i e]; exact a6 y hy w hw
end YRl
