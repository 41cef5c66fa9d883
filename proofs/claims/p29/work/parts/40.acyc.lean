/-! causes have no circles -/
theorem php : ∀ (N : Nat) (g : Nat → Nat), (∀ i, i ≤ N → g i < N) → ∃ i j, i < j ∧ j ≤ N ∧ g i = g j
  | 0, g, h => absurd (h 0 (Nat.le_refl 0)) (Nat.not_lt_zero _)
  | N + 1, g, h => by
    by_cases he : ∃ i, i ≤ N ∧ g i = g (N + 1)
    · obtain ⟨i, hi, e⟩ := he
      exact ⟨i, N + 1, by omega, Nat.le_refl _, e⟩
    · have hne : ∀ i, i ≤ N → g i ≠ g (N + 1) := fun i hi e => he ⟨i, hi, e⟩
      obtain ⟨i, j, h1, h2, h3⟩ := php N (fun i => if g i = N then g (N + 1) else g i) (fun i hi => by
        have a1 := h i (by omega)
        have a2 := h (N + 1) (Nat.le_refl _)
        have a3 := hne i hi
        by_cases e : g i = N
        · show (if g i = N then g (N + 1) else g i) < N
          rw [if_pos e]; omega
        · show (if g i = N then g (N + 1) else g i) < N
          rw [if_neg e]; omega)
      refine ⟨i, j, h1, by omega, ?_⟩
      have b1 := hne i (by omega)
      have b2 := hne j (by omega)
      have h3 : (if g i = N then g (N + 1) else g i) = (if g j = N then g (N + 1) else g j) := h3
      by_cases e1 : g i = N
      · by_cases e2 : g j = N
        · omega
        · rw [if_pos e1, if_neg e2] at h3
          exact absurd h3.symm b2
      · by_cases e2 : g j = N
        · rw [if_neg e1, if_pos e2] at h3
          exact absurd h3 b1
        · rw [if_neg e1, if_neg e2] at h3
          exact h3
def ac_K (Y : yM) (x : Int) : Prop := 0 ≤ x ∧ x < 40 ∧ x < Y 1 0
def ac_s (Y : yM) (x : Int) : Int := if 0 ≤ x ∧ x < 40 ∧ x < Y 1 0 then Y 3 x.toNat else -1
def ac_it (Y : yM) : Nat → Int → Int
  | 0, x => x
  | n + 1, x => ac_it Y n (ac_s Y x)
def ac (Y : yM) : Prop := ∀ n x, ac_K Y x → ac_it Y (n + 1) x ≠ x
section Acy
variable {Y Y' : yM} {x : Int}
theorem ac_add : ∀ {a b : Nat} {x : Int}, ac_it Y (a + b) x = ac_it Y b (ac_it Y a x)
  | 0, b, x => by rw [Nat.zero_add]; rfl
  | a + 1, b, x => by
    rw [Nat.succ_add]
    exact ac_add (a := a)
theorem ac_succ {a : Nat} : ac_it Y (a + 1) x = ac_s Y (ac_it Y a x) := ac_add (a := a) (b := 1)
theorem ac_out (h : ¬ ac_K Y x) : ac_s Y x = -1 := if_neg h
theorem ac_in (h : ac_K Y x) : ac_s Y x = Y 3 x.toNat := if_pos h
theorem ac_neg {a : Nat} : ac_it Y a (-1) = -1 := by
  induction a with
  | zero => rfl
  | succ a ih =>
    rw [ac_succ, ih]
    exact ac_out (fun h => absurd h.1 (by decide))
/-- what comes ahead of one that is kept is kept -/
theorem ac_back {n i : Nat} (h : ac_K Y (ac_it Y n x)) (hi : i ≤ n) : ac_K Y (ac_it Y i x) := by
  by_cases hk : ac_K Y (ac_it Y i x)
  · exact hk
  · exfalso
    by_cases he : i = n
    · subst he; exact hk h
    · obtain ⟨d, rfl⟩ : ∃ d, n = (i + 1) + d := ⟨n - (i + 1), by omega⟩
      rw [ac_add, ac_succ, ac_out hk, ac_neg] at h
      exact absurd h.1 (by decide)
/-- so long a way leads out -/
theorem ac_short (h : ac Y) {kp : Nat} (hk : ∀ x, ac_K Y x → x < (kp : Int)) : ¬ ac_K Y (ac_it Y kp x) := by
  intro hx
  obtain ⟨i, j, h1, h2, h3⟩ := php kp (fun i => (ac_it Y i x).toNat) (fun i hi => by
    have a1 := ac_back hx hi
    have a2 := hk _ a1
    have a3 := a1.1
    show (ac_it Y i x).toNat < kp
    omega)
  have a1 := ac_back hx (by omega : i ≤ kp)
  have a2 := ac_back hx h2
  have h3 : (ac_it Y i x).toNat = (ac_it Y j x).toNat := h3
  have e : ac_it Y i x = ac_it Y j x := by
    have := a1.1
    have := a2.1
    omega
  obtain ⟨d, rfl⟩ : ∃ d, j = i + (d + 1) := ⟨j - i - 1, by omega⟩
  rw [ac_add] at e
  exact h d _ a1 e.symm
theorem ac_behind {v : Int} (hv : ac_K Y v) : ∀ {k n : Nat} {c : Int}, k < n → ac_it Y k c = v → a_behind Y v n c = true
  | 0, n + 1, c, _, h => by
    have h : c = v := h
    unfold a_behind
    have := hv.1
    rw [if_neg (by omega), if_pos h]
  | k + 1, n + 1, c, hk, h => by
    have hK : ac_K Y c := ac_back (n := k + 1) (i := 0) (by rw [h]; exact hv) (Nat.zero_le _)
    unfold a_behind
    have := hK.1
    have h40 := hK.2.1
    rw [if_neg (by omega)]
    by_cases e : c = v
    · rw [if_pos e]
    · rw [if_neg e]
      refine ac_behind hv (k := k) (by omega) ?_
      have e2 : a_cs Y c = ac_s Y c := by
        unfold a_cs
        rw [if_pos (by omega), ac_in hK]
      rw [e2]
      exact h
  | _, 0, _, hk, _ => absurd hk (Nat.not_lt_zero _)
/-- the same causes for all that are kept -/
theorem ac_same (hm : ∀ x, ac_K Y' x ↔ ac_K Y x) (hs : ∀ x, ac_K Y x → Y' 3 x.toNat = Y 3 x.toNat) (h : ac Y) : ac Y' := by
  have e : ∀ x, ac_s Y' x = ac_s Y x := fun x => by
    by_cases hx : ac_K Y x
    · rw [ac_in ((hm x).mpr hx), ac_in hx, hs x hx]
    · rw [ac_out hx, ac_out (fun q => hx ((hm x).mp q))]
  have e2 : ∀ n x, ac_it Y' n x = ac_it Y n x := fun n => by
    induction n with
    | zero => exact fun _ => rfl
    | succ n ih =>
      intro x
      show ac_it Y' n (ac_s Y' x) = ac_it Y n (ac_s Y x)
      rw [e, ih]
  intro n x hx
  rw [e2]
  exact h n x ((hm x).mp hx)
/-- a cause is set -/
theorem ac_link {v c : Int} (h : ac Y) (hc : ∀ x, ac_K Y x → Y 3 x.toNat = -1 ∨ Y 3 x.toNat < Y 1 0) (h0 : 0 ≤ v) (hb : a_behind Y v 3000 c = false) : ac (yU Y 3 v.toNat c) := by
  have hK : ∀ x, ac_K (yU Y 3 v.toNat c) x ↔ ac_K Y x := fun x => by
    unfold ac_K
    rw [yU_c (by decide)]
  by_cases hv : ac_K Y v
  · have hs : ∀ x, x ≠ v → ac_s (yU Y 3 v.toNat c) x = ac_s Y x := fun x hx => by
      by_cases hx2 : ac_K Y x
      · have := hx2.1
        rw [ac_in ((hK x).mpr hx2), ac_in hx2, yU_i (by omega)]
      · rw [ac_out hx2, ac_out (fun q => hx2 ((hK x).mp q))]
    have hsv : ac_s (yU Y 3 v.toNat c) v = c := by
      rw [ac_in ((hK v).mpr hv), yU_at]
    have hit : ∀ n x, (∀ i, i < n → ac_it (yU Y 3 v.toNat c) i x ≠ v) → ac_it (yU Y 3 v.toNat c) n x = ac_it Y n x := by
      intro n
      induction n with
      | zero => exact fun _ _ => rfl
      | succ n ih =>
        intro x hx
        rw [ac_succ, ac_succ, ih x (fun i hi => hx i (by omega)), hs]
        rw [← ih x (fun i hi => hx i (by omega))]
        exact hx n (Nat.lt_succ_self n)
    -- the first way from c to v
    have key : ∀ n, ac_it (yU Y 3 v.toNat c) n c = v → False := by
      intro n
      induction n using Nat.strongRecOn with
      | _ n ih =>
        intro hn
        by_cases he : ∃ i, i < n ∧ ac_it (yU Y 3 v.toNat c) i c = v
        · obtain ⟨i, hi, e⟩ := he
          exact ih i hi e
        · have e := hit n c (fun i hi q => he ⟨i, hi, q⟩)
          rw [hn] at e
          by_cases h40 : n < 3000
          · have := ac_behind hv h40 e.symm
            rw [hb] at this
            cases this
          · have a1 : ac_K Y (ac_it Y n c) := by rw [← e]; exact hv
            exact ac_short h (kp := 40) (x := c) (fun x hx => hx.2.1) (ac_back a1 (by omega))
    intro n x hx hn
    by_cases he : ∃ i, i < n + 1 ∧ ac_it (yU Y 3 v.toNat c) i x = v
    · obtain ⟨i, hi, e⟩ := he
      have e2 : ac_it (yU Y 3 v.toNat c) (n + 1) v = v := by
        have e4 : ac_it (yU Y 3 v.toNat c) (n + 1) (ac_it (yU Y 3 v.toNat c) i x) = ac_it (yU Y 3 v.toNat c) i x := by
          rw [← ac_add, Nat.add_comm i (n + 1), ac_add, hn]
        rw [e] at e4
        exact e4
      have e3 : ac_it (yU Y 3 v.toNat c) n (ac_s (yU Y 3 v.toNat c) v) = v := e2
      rw [hsv] at e3
      exact key n e3
    · rw [hit (n + 1) x (fun i hi q => he ⟨i, hi, q⟩)] at hn
      exact h n x ((hK x).mp hx) hn
  · refine ac_same hK (fun x hx => yU_i fun q => ?_) h
    have := hx.1
    have e : x = v := by omega
    rw [e] at hx
    exact hv hx
/-- one more -/
theorem ac_new {k c : Int} (h : ac Y) (h0 : 0 ≤ Y 1 0) (hc : ∀ x : Int, 0 ≤ x → x < Y 1 0 → Y 3 x.toNat = -1 ∨ (0 ≤ Y 3 x.toNat ∧ Y 3 x.toNat < Y 1 0)) (hcc : c = -1 ∨ (0 ≤ c ∧ c < Y 1 0)) : ac (a_new Y k c) := by
  have e1 : a_new Y k c 1 0 = Y 1 0 + 1 := by
    unfold a_new a_fly
    rw [yU_c (by decide), yU_at]
  have e3 : ∀ x, a_new Y k c 3 x = if x = (Y 1 0).toNat then c else Y 3 x := fun x => by
    unfold a_new a_fly
    rw [yU_c (by decide), yU_c (by decide)]
    by_cases hx : x = (Y 1 0).toNat
    · rw [if_pos hx, hx, yU_at]
    · rw [if_neg hx, yU_i hx, yU_c (by decide)]
  have hlt : ∀ x, ac_s (a_new Y k c) x < Y 1 0 := fun x => by
    by_cases hx : ac_K (a_new Y k c) x
    · rw [ac_in hx, e3]
      obtain ⟨a1, a2, a3⟩ := hx
      rw [e1] at a3
      by_cases hq : x.toNat = (Y 1 0).toNat
      · rw [if_pos hq]; omega
      · rw [if_neg hq]
        have := hc x a1 (by omega)
        omega
    · rw [ac_out hx]; omega
  have hs : ∀ x, x < Y 1 0 → ac_s (a_new Y k c) x = ac_s Y x := fun x hx => by
    unfold ac_s
    by_cases hq : 0 ≤ x ∧ x < 40 ∧ x < Y 1 0
    · rw [if_pos ⟨hq.1, hq.2.1, by rw [e1]; omega⟩, if_pos hq, e3, if_neg (by omega)]
    · rw [if_neg (fun q => hq ⟨q.1, q.2.1, hx⟩), if_neg hq]
  have hit : ∀ n x, x < Y 1 0 → ac_it (a_new Y k c) n x = ac_it Y n x := fun n => by
    induction n with
    | zero => exact fun _ _ => rfl
    | succ n ih =>
      intro x hx
      show ac_it (a_new Y k c) n (ac_s (a_new Y k c) x) = ac_it Y n (ac_s Y x)
      rw [ih _ (hlt x), hs x hx]
  intro n x hx hn
  have hxl : x < Y 1 0 := by
    rw [← hn, ac_succ]
    exact hlt _
  rw [hit _ _ hxl] at hn
  exact h n x ⟨hx.1, hx.2.1, hxl⟩ hn
end Acy
