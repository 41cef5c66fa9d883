/-! laying: what holds of code, guards and rows as they grow; P is the program's numbers -/
def tT (x : Int) : Int := x * x + 3 * x
theorem tT_s {x : Int} : tT (x + 1) = tT x + 2 * x + 4 := by
  unfold tT
  rw [Int.add_mul, Int.mul_add, Int.mul_one, Int.one_mul]
  omega
theorem tT_k {x : Int} (h0 : 0 ≤ x) : ∀ k : Nat, tT x + 2 * x + 4 ≤ tT (x + 1 + k)
  | 0 => by rw [show x + 1 + ((0 : Nat) : Int) = x + 1 by omega, tT_s]; omega
  | k + 1 => by
    have h := tT_k h0 k
    rw [show x + 1 + ((k + 1 : Nat) : Int) = x + 1 + k + 1 by omega, tT_s]
    omega
theorem tT_le {x y : Int} (h0 : 0 ≤ x) (h : x < y) : tT x + 2 * x + 4 ≤ tT y := by
  have := tT_k h0 (y - x - 1).toNat
  rw [show x + 1 + (((y - x - 1).toNat : Nat) : Int) = y by omega] at this
  exact this
/-- the program's numbers as the abstract machine has them -/
def yq (P : yM) : Nat → Nat → Int := fun c n => P (7 + c) n
/-- k steps outwards from y to x -/
def anc (P : yM) (x : Nat) : Nat → Nat → Prop
  | 0, y => y = x
  | k + 1, y => ∃ w : Nat, P 11 y = (w : Int) ∧ anc P x k w
def an (P : yM) (x y : Nat) : Prop := ∃ k, anc P x k y
/-- k steps outwards from guard x to y -/
def onc (M : yM) (y : Nat) : Nat → Int → Prop
  | 0, x => x = (y : Int)
  | k + 1, x => 0 ≤ x ∧ onc M y k (M 99 x.toNat)
def on (M : yM) (x : Int) (y : Nat) : Prop := ∃ k, onc M y k x
def gdr (M : yM) : Nat → Int → Int → Prop
  | 0, x, u => x = u
  | k + 1, x, u => 0 ≤ x ∧ gdr M k (M 99 x.toNat) u
/-- a part, a catch -/
def prt (P : yM) (n : Nat) (p : Int) : Prop := 0 ≤ p ∧ p < (n : Int) ∧ P 11 p.toNat = (n : Int) ∧ P 7 p.toNat ≠ 12
def prc (P : yM) (n : Nat) (p : Int) : Prop := 0 ≤ p ∧ p < (n : Int) ∧ P 11 p.toNat = (n : Int) ∧ P 7 p.toNat = 12
def nO (P : yM) (n : Nat) : Prop :=
  (0 ≤ P 7 n ∧ P 7 n ≤ 18) ∧ (P 7 n = 0 ∨ P 7 n = 1 ∨ P 7 n = 2 → (0 ≤ P 8 n ∧ P 8 n < 10) ∧ a_opd (P 9 n)) ∧ (P 7 n = 3 ∨ P 7 n = 8 → a_opd (P 9 n)) ∧ (P 7 n = 4 → prt P n (P 9 n) ∧ prt P n (P 10 n) ∧ P 9 n ≠ P 10 n) ∧
  (P 7 n = 5 → a_opd (P 8 n) ∧ prt P n (P 9 n) ∧ (P 10 n = -1 ∨ prt P n (P 10 n)) ∧ P 9 n ≠ P 10 n) ∧ (P 7 n = 6 → (0 ≤ P 8 n ∧ P 8 n < 10) ∧ prt P n (P 9 n)) ∧ (P 7 n = 9 → (0 ≤ P 8 n ∧ P 8 n < 10) ∧ 0 ≤ P 9 n ∧ P 9 n < P 1 4) ∧
  (P 7 n = 10 ∨ P 7 n = 15 → (0 ≤ P 8 n ∧ P 8 n < P 1 0) ∧ a_opd (P 9 n)) ∧ (P 7 n = 11 → (P 8 n = -1 ∨ prt P n (P 8 n)) ∧ prt P n (P 9 n) ∧ (P 10 n = -1 ∨ prc P n (P 10 n)) ∧ P 8 n ≠ P 9 n ∧ ¬ (P 8 n = -1 ∧ P 10 n = -1)) ∧
  (P 7 n = 12 → (0 ≤ P 8 n ∧ P 8 n < P 1 0) ∧ prt P n (P 9 n) ∧ (P 10 n = -1 ∨ prc P n (P 10 n))) ∧ (P 7 n = 13 → prt P n (P 9 n) ∧ (P 8 n = -1 ∨ (0 ≤ P 8 n ∧ P 8 n < P 1 4)) ∧ (P 10 n = -1 ∨ (0 ≤ P 10 n ∧ P 10 n < P 1 4)) ∧ ¬ (P 8 n = -1 ∧ P 10 n = -1)) ∧
  (P 7 n = 16 ∨ P 7 n = 17 ∨ P 7 n = 18 → 0 ≤ P 8 n ∧ P 8 n < 4)
/-- the program is sound, and what follows from it is known; without the faults 4 and 5 -/
def pA (P : yM) : Prop :=
  (0 ≤ P 1 7 ∧ P 1 7 ≤ 90) ∧ (1 ≤ P 1 4 ∧ P 1 4 ≤ 8) ∧ (5 ≤ P 1 0 ∧ P 1 0 ≤ 13) ∧ (∀ n : Nat, (n : Int) < P 1 7 → nO P n) ∧ (∀ n : Nat, (n : Int) < P 1 7 → P 11 n = -1 ∨ ((n : Int) < P 11 n ∧ P 11 n < P 1 7)) ∧
  (∀ n w : Nat, (n : Int) < P 1 7 → P 11 n = (w : Int) → P 13 n = P 13 w ∧ P 14 n = (if P 7 w = 12 ∧ P 9 w = (n : Int) then (w : Int) else P 14 w) ∧ P 15 n = (if P 7 w = 6 then (w : Int) else P 15 w)) ∧
  (∀ n : Nat, (n : Int) < P 1 7 → P 13 n ≠ -1 → (P 7 n = 7 → P 15 n ≠ -1) ∧ (14 ≤ P 7 n ∧ P 7 n ≤ 17 → P 14 n ≠ -1))
section ShA
variable {P M M' M1 M2 : yM} {x y w n f : Nat} {u v : Int}
theorem an_rfl : an P x x := ⟨0, rfl⟩
theorem an_up (h : P 11 y = (w : Int)) (h2 : an P x w) : an P x y := by
  obtain ⟨k, h2⟩ := h2
  exact ⟨k + 1, w, h, h2⟩
theorem an_cs (h : an P x y) : y = x ∨ ∃ w : Nat, P 11 y = (w : Int) ∧ an P x w := by
  obtain ⟨k, h⟩ := h
  cases k with
  | zero => exact Or.inl h
  | succ k =>
    obtain ⟨w, h1, h2⟩ := h
    exact Or.inr ⟨w, h1, k, h2⟩
theorem an_of (h : an P x y) (hw : P 11 y = (w : Int)) : y = x ∨ an P x w := by
  rcases an_cs h with h | ⟨w', h1, h2⟩
  · exact Or.inl h
  · have e : w' = w := by omega
    subst e
    exact Or.inr h2
theorem an_le (hA : pA P) (h : an P x y) (hy : (y : Int) < P 1 7) : y ≤ x ∧ (x : Int) < P 1 7 := by
  obtain ⟨k, h⟩ := h
  induction k generalizing y with
  | zero =>
    have e : y = x := h
    subst e
    exact ⟨Nat.le_refl _, hy⟩
  | succ k ih =>
    obtain ⟨w, h1, h2⟩ := h
    have h3 := hA.2.2.2.2.1 y hy
    have := ih (y := w) (by omega) h2
    omega
/-- inwards: what is in a part is in the whole -/
theorem an_in (h : an P x y) (hw : P 11 x = (w : Int)) : an P w y := by
  obtain ⟨k, h⟩ := h
  induction k generalizing y with
  | zero =>
    have e : y = x := h
    subst e
    exact an_up hw an_rfl
  | succ k ih =>
    obtain ⟨w', h1, h2⟩ := h
    exact an_up h1 (ih h2)
theorem on_rfl : on M (y : Int) y := ⟨0, rfl⟩
theorem on_up (h0 : 0 ≤ u) (h : on M (M 99 u.toNat) y) : on M u y := by
  obtain ⟨k, h⟩ := h
  exact ⟨k + 1, h0, h⟩
theorem on_cs (h : on M u y) : u = (y : Int) ∨ (0 ≤ u ∧ on M (M 99 u.toNat) y) := by
  obtain ⟨k, h⟩ := h
  cases k with
  | zero => exact Or.inl h
  | succ k => exact Or.inr ⟨h.1, k, h.2⟩
theorem on_0 (h : on M u y) : 0 ≤ u := by
  rcases on_cs h with h | h
  · omega
  · exact h.1
theorem on_neg : ¬ on M (-1) y := fun h => by
  have := on_0 h
  omega
/-- guards have those around them ahead of them -/
def gD (M : yM) (g : Int) : Prop := ∀ y : Nat, (y : Int) < g → -1 ≤ M 99 y ∧ M 99 y < (y : Int)
theorem on_le {g : Int} (hg : gD M g) (hu : u < g) (h : on M u y) : (y : Int) ≤ u := by
  obtain ⟨k, h⟩ := h
  induction k generalizing u with
  | zero => have e : u = (y : Int) := h; omega
  | succ k ih =>
    obtain ⟨h0, h1⟩ := h
    have := hg u.toNat (by omega)
    have := ih (by omega) h1
    omega
theorem on_eq {g : Int} (hg : gD M g) (hu : u < g) (he : ∀ y : Nat, (y : Int) < g → M' 99 y = M 99 y) : on M' u y ↔ on M u y := by
  have key : ∀ (k : Nat) (u : Int), u < g → (onc M' y k u ↔ onc M y k u) := by
    intro k
    induction k with
    | zero => intro u _; exact Iff.rfl
    | succ k ih =>
      intro u hu
      show 0 ≤ u ∧ onc M' y k (M' 99 u.toNat) ↔ 0 ≤ u ∧ onc M y k (M 99 u.toNat)
      by_cases h0 : 0 ≤ u
      · rw [he u.toNat (by omega)]
        have := hg u.toNat (by omega)
        rw [ih _ (by omega)]
      · exact ⟨fun h => absurd h.1 h0, fun h => absurd h.1 h0⟩
  exact ⟨fun ⟨k, h⟩ => ⟨k, (key k u hu).mp h⟩, fun ⟨k, h⟩ => ⟨k, (key k u hu).mpr h⟩⟩
theorem on_tr {z : Nat} (h : on M u y) (h2 : on M (y : Int) z) : on M u z := by
  obtain ⟨k, h⟩ := h
  induction k generalizing u with
  | zero => have e : u = (y : Int) := h; rw [e]; exact h2
  | succ k ih => exact on_up h.1 (ih h.2)
theorem gdr_eq {g : Int} (hg : gD M g) (he : ∀ y : Nat, (y : Int) < g → M' 99 y = M 99 y) : ∀ (k : Nat) (u : Int), u < g → gdr M k u v → gdr M' k u v
  | 0, _, _, h => h
  | k + 1, u, hu, h => by
    obtain ⟨h0, h1⟩ := h
    have := hg u.toNat (by omega)
    refine ⟨h0, ?_⟩
    rw [he u.toNat (by omega)]
    exact gdr_eq hg he k _ (by omega) h1
end ShA
section ShB
variable (cc : Nat) (P : yM)
/-- what holds of an instruction -/
def pG (M : yM) (t : Nat) : Prop :=
  (1 ≤ M (cc + 1) t ∧ M (cc + 1) t ≤ 20) ∧ a_w2 (M (cc + 1) t) (M (cc + 2) t) (M (cc + 3) t) (M (cc + 4) t) ∧ (M (cc + 1) t = 5 ∨ M (cc + 1) t = 6 → M (cc + 2) t ≤ M cc 0) ∧
  (M (cc + 1) t = 9 → M (cc + 3) t < P 1 4) ∧ (M (cc + 1) t = 17 ∨ M (cc + 1) t = 18 → M (cc + 2) t < P 1 4) ∧ (M (cc + 1) t = 10 ∨ M (cc + 1) t = 13 → 0 ≤ M (cc + 2) t ∧ M (cc + 2) t < P 1 0) ∧
  (a_may (M (cc + 1) t) → 0 ≤ M (cc + 5) t ∧ M (cc + 5) t < P 1 7) ∧ (0 ≤ M (cc + 7) t ∧ (0 < M (cc + 7) t → 0 ≤ M (cc + 6) t ∧ M (cc + 6) t + M (cc + 7) t ≤ M cc 10)) ∧ (-1 ≤ M 101 t ∧ M 101 t < M 96 7) ∧ (0 ≤ M 102 t ∧ M 102 t ≤ M 96 10) ∧ (0 < M 102 t → M (cc + 1) t = 5 ∨ M (cc + 1) t = 6)
/-- a node stands well among guards -/
def inv (M : yM) (n : Nat) (x : Int) : Prop := ∀ y : Nat, on M x y → (n : Int) < M 98 y ∧ (P 7 (M 98 y).toNat = 11 → ∀ f : Nat, P 8 (M 98 y).toNat = (f : Int) → ¬ an P f n)
/-- what holds of a guard -/
def pR (M : yM) (y : Nat) : Prop :=
  (-1 ≤ M 99 y ∧ M 99 y < (y : Int)) ∧ (0 ≤ M 100 y ∧ M 100 y < 90) ∧ (0 ≤ M 99 y → M 100 (M 99 y).toNat < M 100 y) ∧ (0 ≤ M 98 y ∧ M 98 y < P 1 7) ∧ (P 7 (M 98 y).toNat = 11 ∨ P 7 (M 98 y).toNat = 13) ∧ P 13 (M 98 y).toNat ≠ -1 ∧ inv P M (M 98 y).toNat (M 99 y)
def rG (M : yM) (r : Nat) : Prop := 0 ≤ M 22 (4 * r) ∧ M 22 (4 * r) < M 22 (4 * r + 1) ∧ M 22 (4 * r + 1) ≤ M cc 0 ∧ (0 ≤ M 22 (4 * r + 2) ∧ M 22 (4 * r + 2) < M cc 0) ∧ -1 ≤ M 22 (4 * r + 3) ∧ M 22 (4 * r + 3) < P 1 0
/-- what holds as code is laid; b is how many things are begun that have no instruction yet -/
def lI (b : Nat) (M : yM) : Prop :=
  (0 ≤ M cc 10 ∧ M cc 10 ≤ 2 * M cc 0 + b) ∧ (0 ≤ M 96 7 ∧ M 96 7 ≤ M cc 0 + b) ∧ (0 ≤ M 96 10 ∧ M 96 10 ≤ M cc 0 + b) ∧ (0 ≤ M cc 11 ∧ M cc 11 ≤ M 21 1 ∧ M cc 11 ≤ 22725 ∧ 12 * (M 21 1 - M cc 11) ≤ tT (M cc 0)) ∧
  (∀ t : Nat, (t : Int) < M cc 0 → pG cc P M t) ∧ (∀ t : Nat, (t : Int) = M cc 0 → t < 300 → 0 ≤ M (cc + 7) t ∧ (0 < M (cc + 7) t → 0 ≤ M (cc + 6) t ∧ M (cc + 6) t + M (cc + 7) t = M cc 10)) ∧ (∀ t : Nat, M cc 0 < (t : Int) → t < 300 → M (cc + 7) t = 0) ∧
  (∀ k : Nat, (k : Int) < M cc 10 → 0 ≤ M (cc + 8) k ∧ M (cc + 8) k < P 1 7 ∧ P 13 (M (cc + 8) k).toNat ≠ -1) ∧ (∀ y : Nat, (y : Int) < M 96 7 → pR P M y) ∧ (∀ r : Nat, M cc 11 ≤ (r : Int) → (r : Int) < M 21 1 → rG cc P M r)
/-- a node and the place that it stands at -/
def nR (M : yM) (n pl : Nat) : Prop := (P 15 n ≠ -1 → 0 < M pl 4) ∧ (P 14 n ≠ -1 → 0 ≤ M pl 3 ∧ M pl 3 < M pl 1)
/-- the places down to d -/
def qF (M : yM) (d : Nat) : Prop := ∀ l : Nat, l ≤ d → (0 ≤ M (105 + l) 1 ∧ M (105 + l) 1 ≤ (l : Int)) ∧ (0 ≤ M (105 + l) 2 ∧ M (105 + l) 2 ≤ (l : Int)) ∧ (-1 ≤ M (105 + l) 3 ∧ M (105 + l) 3 < 90) ∧ (0 ≤ M (105 + l) 4 ∧ M (105 + l) 4 ≤ M 96 10) ∧ (-1 ≤ M (105 + l) 0 ∧ M (105 + l) 0 < M 96 7) ∧ (0 ≤ M (105 + l) 0 → M 100 (M (105 + l) 0).toNat < (l : Int)) ∧ -1 ≤ M (105 + l) 5 ∧ M (105 + l) 5 < M 96 7
/-- the guards around what stands at d -/
def cH (M : yM) (d : Nat) : Prop := ∀ y : Nat, on M (M (105 + d) 0) y → M (105 + (M 100 y).toNat) 0 = M 99 y ∧ nR P M (M 98 y).toNat (105 + (M 100 y).toNat) ∧ M (105 + (M 100 y).toNat) 1 ≤ M (105 + d) 1
def lB (d : Nat) (M : yM) : Prop := (∀ a j, a ≤ 17 → M a j = P a j) ∧ lW cc M ∧ M cc 1 = 0 ∧ qF M d ∧ cH P M d
/-- a node that can be laid at d -/
def nB (d n : Nat) (M : yM) : Prop := (n : Int) < P 1 7 ∧ P 7 n ≠ 12 ∧ P 13 n ≠ -1 ∧ inv P M n (M (105 + d) 0) ∧ nR P M n (105 + d)
/-- what stays of the code -/
def lK (M M' : yM) : Prop :=
  (M cc 0 ≤ M' cc 0 ∧ M cc 10 ≤ M' cc 10 ∧ M 96 7 ≤ M' 96 7 ∧ M 96 10 ≤ M' 96 10 ∧ M 21 1 ≤ M' 21 1) ∧
  (∀ t : Nat, (t : Int) < M cc 0 → M' 101 t = M 101 t ∧ M' 102 t = M 102 t ∧ (∀ c, 1 ≤ c → c ≤ 7 → c ≠ 2 → M' (cc + c) t = M (cc + c) t)) ∧
  (∀ t : Nat, (t : Int) = M cc 0 → t < 300 → M (cc + 7) t ≤ M' (cc + 7) t ∧ (0 < M (cc + 7) t → M' (cc + 6) t = M (cc + 6) t)) ∧
  (∀ k : Nat, (k : Int) < M cc 10 → M' (cc + 8) k = M (cc + 8) k) ∧
  (∀ y : Nat, (y : Int) < M 96 7 → M' 98 y = M 98 y ∧ M' 99 y = M 99 y ∧ M' 100 y = M 100 y) ∧
  (∀ k : Nat, (k : Int) < 4 * M 21 1 → M' 22 k = M 22 k)
def lX (M M' : yM) : Prop := ∀ t : Nat, (t : Int) < M cc 0 → M' (cc + 2) t = M (cc + 2) t
/-- labels of what is new -/
def lL (d : Nat) (M M' : yM) : Prop := ∀ t : Nat, M cc 0 ≤ (t : Int) → (t : Int) < M' cc 0 → M' 102 t = 0 ∨ (∃ l, l ≤ d ∧ M (105 + l) 4 = M' 102 t) ∨ M 96 10 < M' 102 t
/-- what was counted as a node was laid -/
def lNn (M M' : yM) : Prop := M cc 0 < M' cc 0 ∧ M' cc 10 + 1 ≤ M cc 10 + 2 * (M' cc 0 - M cc 0) ∧ M' 96 7 + 1 ≤ M 96 7 + (M' cc 0 - M cc 0) ∧ M' 96 10 + 1 ≤ M 96 10 + (M' cc 0 - M cc 0) ∧ 12 * (M' 21 1 - M 21 1) + tT (M cc 0) + 2 * M cc 0 + 4 ≤ tT (M' cc 0)
/-- where new rows lie -/
def lV (M M' : yM) : Prop := ∀ r : Nat, M 21 1 ≤ (r : Int) → (r : Int) < M' 21 1 → M cc 0 ≤ M' 22 (4 * r) ∧ M' 22 (4 * r + 1) ≤ M' cc 0
/-- nothing waits for an instruction -/
def lE (M : yM) : Prop := ∀ t : Nat, (t : Int) = M cc 0 → t < 300 → M (cc + 7) t = 0
/-- a catch that no node here lays -/
def sf (M : yM) (d n c : Nat) : Prop := ¬ an P n c ∧ ∀ y : Nat, on M (M (105 + d) 0) y → P 7 (M 98 y).toNat = 11 → ∀ f : Nat, P 8 (M 98 y).toNat = (f : Int) → ¬ an P f c
def lZ (d n : Nat) (M M' : yM) : Prop := ∀ c : Nat, sf P M d n c → M' 103 c = M 103 c ∧ M' 104 c = M 104 c
/-- the nodes that begin at t -/
def bgl (M : yM) (t : Nat) : List Nat := (List.range (M (cc + 7) t).toNat).map fun k => (M (cc + 8) ((M (cc + 6) t).toNat + k)).toNat
/-- the final code agrees with this one between i and e; L: labels up to it stand for places told by tgt -/
def lA (M : yM) (L : Int) (tgt : Int → Nat) (k : Nat → Nat → Int) (bg : Nat → List Nat) (i e : Int) : Prop := ∀ t : Nat, i ≤ (t : Int) → (t : Int) < e →
  k 1 t = M (cc + 1) t ∧ k 3 t = M (cc + 3) t ∧ k 4 t = M (cc + 4) t ∧ k 5 t = M (cc + 5) t ∧ k 2 t = (if 0 < M 102 t ∧ M 102 t ≤ L then (tgt (M 102 t) : Int) else M (cc + 2) t) ∧ bg t = bgl cc M t
/-- the handlers that rows from R on have for t -/
def hk (M : yM) (t R : Nat) : Nat → List (Int × Int)
  | 0 => []
  | n + 1 => hk M t R n ++ (if M 22 (4 * (R + n)) ≤ (t : Int) ∧ (t : Int) < M 22 (4 * (R + n) + 1) then [(M 22 (4 * (R + n) + 3), M 22 (4 * (R + n) + 2))] else [])
def lC (M : yM) (R R' : Int) (H : Int → List (Int × Int)) (ch : Nat → List (Int × Int)) (i e : Int) : Prop := ∀ t : Nat, i ≤ (t : Int) → (t : Int) < e → a_may (M (cc + 1) t) → ch t = hk M t R.toNat (R' - R).toNat ++ H (M 101 t)
end ShB
/-- a place's loop, as the abstract machine has it -/
def lpR (M : yM) (tgt : Int → Nat) (pl : Nat) (x : Int) (gl : Nat) (lo : Option (Nat × Nat)) : Prop :=
  (M pl 4 = 0 ∧ lo = none) ∨ (0 < M pl 4 ∧ ∃ lg k, lo = some (tgt (M pl 4), lg) ∧ lg + k = gl ∧ gdr M k x (M pl 5))
/-- guards, as the abstract machine has them -/
def gR (M : yM) (tgt : Int → Nat) (H : Int → List (Int × Int)) : Int → List aG → Prop
  | x, [] => x = -1
  | x, g :: gs => 0 ≤ x ∧ M 98 x.toNat = (g.1 : Int) ∧ H x = g.2.2.2 ++ H (M 99 x.toNat) ∧ g.2.1 = M (105 + (M 100 x.toNat).toNat) 3 ∧ lpR M tgt (105 + (M 100 x.toNat).toNat) (M 99 x.toNat) gs.length g.2.2.1 ∧ gR M tgt H (M 99 x.toNat) gs
def gG (M : yM) (tgt : Int → Nat) (H : Int → List (Int × Int)) (d : Nat) (G : aC) : Prop :=
  gR M tgt H (M (105 + d) 0) G.1 ∧ (G.2.1 : Int) = M (105 + d) 1 ∧ (G.2.2.1 : Int) = M (105 + d) 2 ∧ G.2.2.2.1 = M (105 + d) 3 ∧ lpR M tgt (105 + d) (M (105 + d) 0) G.1.length G.2.2.2.2
/-- what was laid is the node -/
def lP (cc : Nat) (P : yM) (r d n : Nat) (M M' : yM) : Prop := ∀ (tgt : Int → Nat) (k : Nat → Nat → Int) (bg : Nat → List Nat) (ch : Nat → List (Int × Int)) (H : Int → List (Int × Int)) (G : aC),
  lA cc M' (M 96 10) tgt k bg (M cc 0) (M' cc 0) → lC cc M' (M 21 1) (M' 21 1) H ch (M cc 0) (M' cc 0) → H (-1) = [] → (∀ y : Nat, M 96 7 ≤ (y : Int) → (y : Int) < M' 96 7 → H (y : Int) = H (M' 99 y)) → gG M tgt H d G →
  a_Ld (yq P) k bg ch r n G (M cc 0).toNat (M (cc + 7) (M cc 0).toNat).toNat (M' cc 0).toNat
/-- a node at depth d is laid -/
def lay (cc : Nat) (P : yM) (r d n : Nat) (M M' : yM) : Prop :=
  lw cc d M M' ∧ lW cc M' ∧ lI cc P d M' ∧ lK cc M M' ∧ lX cc M M' ∧ lL cc d M M' ∧ lV cc M M' ∧ lNn cc M M' ∧ lE cc M' ∧ lZ P d n M M' ∧ lP cc P r d n M M'
