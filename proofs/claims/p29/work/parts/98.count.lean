/-! nodes within a node, counted -/
/-- is y in x, as far as k steps outwards show it -/
def anb (P : yM) (x : Nat) : Nat → Nat → Bool
  | 0, y => decide (y = x)
  | k + 1, y => decide (y = x) || (decide (0 ≤ P 11 y) && anb P x k (P 11 y).toNat)
def cnt (f : Nat → Bool) : Nat → Nat
  | 0 => 0
  | n + 1 => cnt f n + (if f n = true then 1 else 0)
/-- how many nodes are in x -/
def sz (P : yM) (x : Nat) : Nat := cnt (anb P x 90) (P 1 7).toNat
def szo (P : yM) (x : Int) : Nat := if x = -1 then 0 else sz P x.toNat
section CtA
variable {P : yM} {n x y w z : Nat} {f g : Nat → Bool} {p : Int}
theorem cnt_le : ∀ n : Nat, cnt f n ≤ n
  | 0 => Nat.le_refl _
  | n + 1 => by
    have h := cnt_le n
    show cnt f n + (if f n = true then 1 else 0) ≤ n + 1
    split <;> omega
theorem cnt_mono : ∀ n : Nat, (∀ y, y < n → f y = true → g y = true) → cnt f n ≤ cnt g n
  | 0, _ => Nat.le_refl _
  | n + 1, h => by
    have h2 := cnt_mono n (fun y hy => h y (by omega))
    show cnt f n + (if f n = true then 1 else 0) ≤ cnt g n + (if g n = true then 1 else 0)
    by_cases q : f n = true
    · rw [if_pos q, if_pos (h n (by omega) q)]; omega
    · rw [if_neg q]; omega
theorem cnt_add : ∀ n : Nat, (∀ y, y < n → f y = true → ¬ g y = true) → cnt f n + cnt g n = cnt (fun y => f y || g y) n
  | 0, _ => rfl
  | n + 1, h => by
    have h2 := cnt_add n (fun y hy => h y (by omega))
    show cnt f n + (if f n = true then 1 else 0) + (cnt g n + (if g n = true then 1 else 0)) = cnt (fun y => f y || g y) n + (if (f n || g n) = true then 1 else 0)
    have h3 := h n (by omega)
    cases hf : f n with
    | true =>
      rw [if_pos rfl, if_neg (h3 hf), Bool.true_or, if_pos rfl]; omega
    | false =>
      rw [if_neg (by decide), Bool.false_or]; omega
theorem cnt_one : ∀ n : Nat, x < n → 1 ≤ cnt (fun y => decide (y = x)) n
  | 0, h => absurd h (by omega)
  | n + 1, h => by
    show 1 ≤ cnt (fun y => decide (y = x)) n + (if decide (n = x) = true then 1 else 0)
    by_cases q : n = x
    · rw [if_pos (decide_eq_true q)]; omega
    · have := cnt_one n (by omega)
      omega
theorem anc_le (hI : pI P) : ∀ (k y : Nat), (y : Int) < P 1 7 → anc P x k y → y + k ≤ x ∧ (x : Int) < P 1 7
  | 0, y, hy, h => by
    have e : y = x := h
    subst e
    exact ⟨Nat.le_refl _, hy⟩
  | k + 1, y, hy, h => by
    obtain ⟨w, h1, h2⟩ := h
    have h3 := hI.2.2.2.2.2.1 y hy
    have := anc_le hI k w (by omega) h2
    omega
theorem an_le2 (hI : pI P) (hy : (y : Int) < P 1 7) (h : an P x y) : y ≤ x ∧ (x : Int) < P 1 7 := by
  obtain ⟨k, h⟩ := h
  have := anc_le hI k y hy h
  omega
theorem anb_an : ∀ (k y : Nat), anb P x k y = true → an P x y
  | 0, y, h => ⟨0, show y = x from of_decide_eq_true h⟩
  | k + 1, y, h => by
    have h : (decide (y = x) || (decide (0 ≤ P 11 y) && anb P x k (P 11 y).toNat)) = true := h
    rw [Bool.or_eq_true, Bool.and_eq_true] at h
    rcases h with h | ⟨h1, h2⟩
    · exact ⟨0, show y = x from of_decide_eq_true h⟩
    · have h1 := of_decide_eq_true h1
      exact an_up (w := (P 11 y).toNat) (by omega) (anb_an k _ h2)
theorem anc_anb : ∀ (k K y : Nat), k ≤ K → anc P x k y → anb P x K y = true
  | 0, 0, y, _, h => decide_eq_true h
  | 0, K + 1, y, _, h => by
    show (decide (y = x) || _) = true
    rw [decide_eq_true (show y = x from h), Bool.true_or]
  | k + 1, 0, _, h, _ => absurd h (by omega)
  | k + 1, K + 1, y, hk, h => by
    obtain ⟨w, h1, h2⟩ := h
    show (decide (y = x) || (decide (0 ≤ P 11 y) && anb P x K (P 11 y).toNat)) = true
    have e : (P 11 y).toNat = w := by omega
    rw [decide_eq_true (show 0 ≤ P 11 y by omega), e, anc_anb k K w (by omega) h2, Bool.true_and, Bool.or_true]
theorem anb_iff (hI : pI P) (hy : (y : Int) < P 1 7) : anb P x 90 y = true ↔ an P x y := by
  refine ⟨anb_an 90 y, fun ⟨k, h⟩ => ?_⟩
  have := anc_le hI k y hy h
  have := hI.1
  exact anc_anb k 90 y (by omega) h
theorem an_lin {x' : Nat} : ∀ (k y : Nat), anc P x k y → an P x' y → an P x x' ∨ an P x' x
  | 0, y, h, h2 => by
    have e : y = x := h
    subst e
    exact Or.inr h2
  | k + 1, y, h, h2 => by
    obtain ⟨w, h1, h3⟩ := h
    rcases an_of h2 h1 with e | e
    · subst e; exact Or.inl ⟨k + 1, w, h1, h3⟩
    · exact an_lin k w h3 e
/-- two parts have nothing in common -/
theorem an_dis {a b : Nat} (hI : pI P) (hy : (y : Int) < P 1 7) (ha : P 11 a = (n : Int)) (hb : P 11 b = (n : Int)) (hab : a ≠ b) (h1 : an P a y) (h2 : an P b y) : False := by
  have hal := an_le2 hI hy h1
  have hbl := an_le2 hI hy h2
  have hna := hI.2.2.2.2.2.1 a (by omega)
  obtain ⟨k, hk⟩ := h1
  rcases an_lin k y hk h2 with q | q
  · rcases an_of q hb with e | e
    · exact hab e.symm
    · have := an_le2 hI (by omega) e; omega
  · rcases an_of q ha with e | e
    · exact hab e
    · have hnb := hI.2.2.2.2.2.1 b (by omega)
      have := an_le2 hI (by omega) e; omega
theorem isP_pt (h : isP P n y) : ptA P n = (y : Int) ∨ ptB P n = (y : Int) ∨ ptC P n = (y : Int) := by
  rcases h with ⟨h1, h2⟩ | ⟨h1, h2⟩ | ⟨h1, h2⟩
  · exact Or.inl (by unfold ptA; rw [if_pos h1, h2])
  · exact Or.inr (Or.inl (by unfold ptB; rw [if_pos h1, h2]))
  · exact Or.inr (Or.inr (by unfold ptC; rw [if_pos h1, h2]))
theorem an_down (hI : pI P) : ∀ (k y : Nat), (y : Int) < P 1 7 → anc P n k y → y = n ∨ (0 ≤ ptA P n ∧ an P (ptA P n).toNat y) ∨ (0 ≤ ptB P n ∧ an P (ptB P n).toNat y) ∨ (0 ≤ ptC P n ∧ an P (ptC P n).toNat y)
  | 0, y, _, h => Or.inl h
  | k + 1, y, hy, h => by
    obtain ⟨w, h1, h2⟩ := h
    have h3 := hI.2.2.2.2.2.1 y hy
    refine Or.inr ?_
    rcases an_down hI k w (by omega) h2 with e | ⟨e1, e2⟩ | ⟨e1, e2⟩ | ⟨e1, e2⟩
    · subst e
      rcases h3 with h3 | ⟨_, _, h4⟩
      · omega
      · have ew : (P 11 y).toNat = w := by omega
        rw [ew] at h4
        rcases isP_pt h4 with q | q | q
        · rw [q]; exact Or.inl ⟨by omega, by rw [Int.toNat_natCast]; exact an_rfl⟩
        · rw [q]; exact Or.inr (Or.inl ⟨by omega, by rw [Int.toNat_natCast]; exact an_rfl⟩)
        · rw [q]; exact Or.inr (Or.inr ⟨by omega, by rw [Int.toNat_natCast]; exact an_rfl⟩)
    · exact Or.inl ⟨e1, an_up h1 e2⟩
    · exact Or.inr (Or.inl ⟨e1, an_up h1 e2⟩)
    · exact Or.inr (Or.inr ⟨e1, an_up h1 e2⟩)
theorem pt_ne (hI : pI P) (hn : (n : Int) < P 1 7) : (ptA P n ≠ -1 → ptA P n ≠ ptB P n) ∧ (ptA P n ≠ -1 → ptA P n ≠ ptC P n) ∧ (ptB P n ≠ -1 → ptB P n ≠ ptC P n) := by
  have hO := hI.2.2.2.1 n hn
  have o4 := hO.2.2.2.1
  have o5 := hO.2.2.2.2.1
  have o9 := hO.2.2.2.2.2.2.2.2.1
  have o10 := hO.2.2.2.2.2.2.2.2.2.1
  clear hO
  unfold ptA ptB ptC
  refine ⟨?_, ?_, ?_⟩
  · by_cases q : P 7 n = 11
    · rw [if_pos q, if_pos (Or.inr (Or.inr (Or.inr (Or.inl q))))]
      exact fun _ => (o9 q).2.2.2.1
    · rw [if_neg q]; exact fun z => absurd rfl z
  · by_cases q : P 7 n = 11
    · rw [if_pos q, if_pos (Or.inr (Or.inr (Or.inl q)))]
      intro h8 e
      rcases (o9 q).1 with z | z
      · exact h8 z
      · rcases (o9 q).2.2.1 with z2 | z2
        · exact h8 (e.trans z2)
        · have := z2.2.2.2
          rw [← e] at this
          exact z.2.2.2 this
    · rw [if_neg q]; exact fun z => absurd rfl z
  · by_cases q : P 7 n = 4 ∨ P 7 n = 5 ∨ P 7 n = 11 ∨ P 7 n = 12
    · have q2 : P 7 n = 4 ∨ P 7 n = 5 ∨ P 7 n = 6 ∨ P 7 n = 11 ∨ P 7 n = 12 ∨ P 7 n = 13 := by
        rcases q with q | q | q | q
        · exact Or.inl q
        · exact Or.inr (Or.inl q)
        · exact Or.inr (Or.inr (Or.inr (Or.inl q)))
        · exact Or.inr (Or.inr (Or.inr (Or.inr (Or.inl q))))
      rw [if_pos q, if_pos q2]
      intro h9 e
      rcases q with q | q | q | q
      · exact (o4 q).2.2 e
      · exact (o5 q).2.2.2 e
      · rcases (o9 q).2.2.1 with z2 | z2
        · exact h9 (e.trans z2)
        · have := z2.2.2.2
          rw [← e] at this
          exact (o9 q).2.1.2.2.2 this
      · rcases (o10 q).2.2 with z2 | z2
        · exact h9 (e.trans z2)
        · have := z2.2.2.2
          rw [← e] at this
          exact (o10 q).2.1.2.2.2 this
    · rw [if_neg q]
      exact fun z => z
theorem szo_cnt : szo P p = cnt (fun y => decide (p ≠ -1) && anb P p.toNat 90 y) (P 1 7).toNat := by
  unfold szo sz
  by_cases q : p = -1
  · rw [if_pos q]
    have : ∀ n, 0 = cnt (fun y => decide (p ≠ -1) && anb P p.toNat 90 y) n := fun n => by
      induction n with
      | zero => rfl
      | succ n ih =>
        show 0 = cnt (fun y => decide (p ≠ -1) && anb P p.toNat 90 y) n + (if (decide (p ≠ -1) && anb P p.toNat 90 n) = true then 1 else 0)
        rw [← ih, decide_eq_false (fun h => h q), Bool.false_and, if_neg (by decide)]
    exact this _
  · rw [if_neg q]
    congr 1
    funext y
    rw [decide_eq_true q, Bool.true_and]
theorem sz_parts (hI : pI P) (hn : (n : Int) < P 1 7) : 1 + (szo P (ptA P n) + (szo P (ptB P n) + szo P (ptC P n))) ≤ sz P n := by
  have hr := hI.1
  have hA := ptA_rg hI hn
  have hB := ptB_rg hI hn
  have hC := ptC_rg hI hn
  obtain ⟨n1, n2, n3⟩ := pt_ne hI hn
  have up : ∀ (p : Int) (y : Nat), (p = -1 ∨ (0 ≤ p ∧ p < (n : Int) ∧ P 11 p.toNat = (n : Int))) → (decide (p ≠ -1) && anb P p.toNat 90 y) = true → y < (P 1 7).toNat → an P p.toNat y ∧ 0 ≤ p ∧ p < (n : Int) ∧ P 11 p.toNat = (n : Int) := fun p y hp h hy => by
    rw [Bool.and_eq_true] at h
    have h1 := of_decide_eq_true h.1
    exact ⟨(anb_iff hI (by omega)).mp h.2, hp.resolve_left h1⟩
  have dis : ∀ (p q : Int) (y : Nat), (p = -1 ∨ (0 ≤ p ∧ p < (n : Int) ∧ P 11 p.toNat = (n : Int))) → (q = -1 ∨ (0 ≤ q ∧ q < (n : Int) ∧ P 11 q.toNat = (n : Int))) → (p ≠ -1 → p ≠ q) → y < (P 1 7).toNat → (decide (p ≠ -1) && anb P p.toNat 90 y) = true → ¬ (decide (q ≠ -1) && anb P q.toNat 90 y) = true := fun p q y hp hq hpq hy h1 h2 => by
    obtain ⟨a1, a2, a3, a4⟩ := up p y hp h1 hy
    obtain ⟨b1, b2, b3, b4⟩ := up q y hq h2 hy
    exact an_dis hI (by omega) a4 b4 (fun e => hpq (by omega) (by omega)) a1 b1
  rw [szo_cnt, szo_cnt, szo_cnt, cnt_add _ (fun y hy => dis _ _ y hB hC n3 hy), cnt_add _ (fun y hy h1 h2 => by
    rw [Bool.or_eq_true] at h2
    rcases h2 with h2 | h2
    · exact dis _ _ y hA hB n1 hy h1 h2
    · exact dis _ _ y hA hC n2 hy h1 h2)]
  have h1 := cnt_one (x := n) (P 1 7).toNat (by omega)
  refine Nat.le_trans (Nat.add_le_add_right h1 _) ?_
  have self : ∀ (p : Int) (y : Nat), (p = -1 ∨ (0 ≤ p ∧ p < (n : Int) ∧ P 11 p.toNat = (n : Int))) → y < (P 1 7).toNat → decide (y = n) = true → ¬ (decide (p ≠ -1) && anb P p.toNat 90 y) = true := fun p y hp hy h1 h2 => by
    obtain ⟨a1, a2, a3, a4⟩ := up p y hp h2 hy
    have := an_le2 hI (by omega) a1
    have := of_decide_eq_true h1
    omega
  rw [cnt_add _ (fun y hy h1 h2 => by
    rw [Bool.or_eq_true, Bool.or_eq_true] at h2
    rcases h2 with h2 | h2 | h2
    · exact self _ y hA hy h1 h2
    · exact self _ y hB hy h1 h2
    · exact self _ y hC hy h1 h2)]
  have inn : ∀ (p : Int) (y : Nat), (p = -1 ∨ (0 ≤ p ∧ p < (n : Int) ∧ P 11 p.toNat = (n : Int))) → y < (P 1 7).toNat → (decide (p ≠ -1) && anb P p.toNat 90 y) = true → anb P n 90 y = true := fun p y hp hy h => by
    obtain ⟨a1, a2, a3, a4⟩ := up p y hp h hy
    exact (anb_iff hI (by omega)).mpr (an_in a1 a4)
  refine cnt_mono _ fun y hy h => ?_
  rw [Bool.or_eq_true, Bool.or_eq_true, Bool.or_eq_true] at h
  rcases h with h | h | h | h
  · have e := of_decide_eq_true h
    subst e
    exact (anb_iff hI (by omega)).mpr an_rfl
  · exact inn _ y hA hy h
  · exact inn _ y hB hy h
  · exact inn _ y hC hy h
theorem sz_pos (hI : pI P) (hn : (n : Int) < P 1 7) : 1 ≤ sz P n := by
  have := sz_parts hI hn
  omega
theorem sz_le (hI : pI P) : sz P n ≤ 90 := by
  have h1 : sz P n ≤ (P 1 7).toNat := cnt_le _
  have := hI.1
  omega
end CtA
