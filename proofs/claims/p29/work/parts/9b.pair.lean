/-! the same is laid twice: two runs side by side; b: both prune, or neither does -/
/-- code of length L, with g guards, B things begun -/
def qC (cc : Nat) (L g B : Int) (M N : yM) : Prop :=
  (∀ t : Nat, (t : Int) < L → (∀ c, 1 ≤ c → c ≤ 5 → N (cc + c) t = M (cc + c) t) ∧ (N 101 t = M 101 t ∧ N 102 t = M 102 t) ∧ (1 ≤ M (cc + 1) t ∧ M (cc + 1) t ≤ 20) ∧ -1 ≤ M 101 t ∧ M 101 t < g) ∧
  (∀ t : Nat, t < 300 → N (cc + 7) t = M (cc + 7) t) ∧
  (B ≤ 1000000 → (∀ t : Nat, t < 300 → 0 ≤ M (cc + 7) t ∧ (0 < M (cc + 7) t → N (cc + 6) t = M (cc + 6) t ∧ 0 ≤ M (cc + 6) t ∧ M (cc + 6) t + M (cc + 7) t ≤ B)) ∧ ∀ k : Nat, k < 690 → (k : Int) < B → N (cc + 8) k = M (cc + 8) k)
/-- guards -/
def qG (g : Int) (M N : yM) : Prop := ∀ y : Nat, (y : Int) < g → (N 98 y = M 98 y ∧ N 99 y = M 99 y ∧ N 100 y = M 100 y) ∧ (-1 ≤ M 99 y ∧ M 99 y < (y : Int)) ∧ (0 ≤ M 99 y → M 100 (M 99 y).toNat < M 100 y) ∧ 0 ≤ M 100 y ∧ M 100 y < 90
/-- places down to e -/
def qL (e : Nat) (g : Int) (M N : yM) : Prop := ∀ l : Nat, l ≤ e → (∀ j, j < 6 → N (105 + l) j = M (105 + l) j) ∧ (-1 ≤ M (105 + l) 0 ∧ M (105 + l) 0 < g) ∧ (0 ≤ M (105 + l) 0 → M 100 (M (105 + l) 0).toNat < (l : Int)) ∧ -1 ≤ M (105 + l) 5 ∧ M (105 + l) 5 < g
/-- rows -/
def qR (cc : Nat) (b : Prop) (L : Int) (M N : yM) : Prop :=
  (b → N 96 14 = M 96 14 ∧ N 21 1 = M 21 1 ∧ N cc 11 = M cc 11 ∧ ∀ k : Nat, (k : Int) < 4 * M 21 1 → N 22 k = M 22 k) ∧
  ((0 ≤ M cc 11 ∧ M cc 11 ≤ M 21 1) ∧ 0 ≤ N cc 11 ∧ N cc 11 ≤ N 21 1) ∧
  ((∀ r : Nat, M cc 11 ≤ (r : Int) → (r : Int) < M 21 1 → M 22 (4 * r + 1) ≤ L) ∧ ∀ r : Nat, N cc 11 ≤ (r : Int) → (r : Int) < N 21 1 → N 22 (4 * r + 1) ≤ L) ∧
  (M 21 1 ≤ 30300 → N 21 1 ≤ 30300 → ∀ t : Nat, (t : Int) < L → a_may (M (cc + 1) t) → hk M t (M cc 11).toNat (M 21 1 - M cc 11).toNat = hk N t (N cc 11).toNat (N 21 1 - N cc 11).toNat)
def qH (cc : Nat) (P : yM) (v : Int) (M N : yM) : Prop :=
  (lW cc M ∧ lW cc N) ∧ (∀ a j, 1 ≤ a ∧ a ≤ 17 → M a j = P a j ∧ N a j = P a j) ∧ (N cc 0 = M cc 0 ∧ N cc 1 = M cc 1 ∧ N cc 10 = M cc 10 ∧ N 96 7 = M 96 7 ∧ N 96 10 = M 96 10) ∧ 0 ≤ M cc 10 ∧ 0 ≤ M 96 7 ∧ M 96 7 ≤ 390 ∧ (M cc 1 = 0 → M 96 7 ≤ M cc 0 + v)
/-- the places of catches that are known: 2c where c begins, 2c + 1 where its b ends -/
def qS (S : Nat → Prop) (L : Int) (M N : yM) : Prop := ∀ c, (S (2 * c) → N 103 c = M 103 c) ∧ (S (2 * c + 1) → N 104 c = M 104 c ∧ M 104 c ≤ L)
/-- two runs that are alike, with places down to e; v: how many guards wait for an instruction; S: the catches whose places are known -/
def pq (cc : Nat) (P : yM) (b : Prop) (S : Nat → Prop) (e : Nat) (v : Int) (M N : yM) : Prop := qH cc P v M N ∧ qC cc (M cc 0) (M 96 7) (M cc 10) M N ∧ qG (M 96 7) M N ∧ qL e (M 96 7) M N ∧ qS S (M cc 0) M N ∧ qR cc b (M cc 0) M N
section PqA
variable {cc d e i n : Nat} {P M N M' N' X Y : yM} {b : Prop} {S S' : Nat → Prop} {v v' x y z nd gd lb op L g B : Int}
theorem qC_cg (h : ∀ a j, (cc < a ∧ a ≤ cc + 8) ∨ a = 101 ∨ a = 102 → M' a j = M a j ∧ N' a j = N a j) (hq : qC cc L g B M N) : qC cc L g B M' N' := by
  obtain ⟨q1, q2, q3⟩ := hq
  refine ⟨fun t ht => ?_, fun t ht => ?_, fun hs => ⟨fun t ht => ?_, fun k hk hB => ?_⟩⟩
  · obtain ⟨a1, a2, a3, a4⟩ := q1 t ht
    refine ⟨fun c c1 c2 => ?_, ?_, ?_, ?_⟩
    · rw [(h (cc + c) t (by omega)).1, (h (cc + c) t (by omega)).2]; exact a1 c c1 c2
    · rw [(h 101 t (by omega)).1, (h 101 t (by omega)).2, (h 102 t (by omega)).1, (h 102 t (by omega)).2]; exact a2
    · rw [(h (cc + 1) t (by omega)).1]; exact a3
    · rw [(h 101 t (by omega)).1]; exact a4
  · rw [(h (cc + 7) t (by omega)).1, (h (cc + 7) t (by omega)).2]
    exact q2 t ht
  · rw [(h (cc + 7) t (by omega)).1, (h (cc + 6) t (by omega)).1, (h (cc + 6) t (by omega)).2]
    exact (q3 hs).1 t ht
  · rw [(h (cc + 8) k (by omega)).1, (h (cc + 8) k (by omega)).2]
    exact (q3 hs).2 k hk hB
theorem qG_cg (h : ∀ a j, 98 ≤ a ∧ a ≤ 100 → M' a j = M a j ∧ N' a j = N a j) (hq : qG g M N) : qG g M' N' := by
  intro y hy
  rw [(h 98 y (by omega)).1, (h 98 y (by omega)).2, (h 99 y (by omega)).1, (h 99 y (by omega)).2, (h 100 y (by omega)).1, (h 100 y (by omega)).2, (h 100 _ (by omega)).1]
  exact hq y hy
theorem qL_cg (h : ∀ a j, a = 100 ∨ (105 ≤ a ∧ a ≤ 105 + e) → M' a j = M a j ∧ N' a j = N a j) (hq : qL e g M N) : qL e g M' N' := by
  intro l hl
  obtain ⟨a1, a2, a3, a4⟩ := hq l hl
  rw [(h (105 + l) 0 (by omega)).1, (h (105 + l) 5 (by omega)).1, (h 100 _ (by omega)).1]
  refine ⟨fun j hj => ?_, a2, a3, a4⟩
  rw [(h (105 + l) j (by omega)).1, (h (105 + l) j (by omega)).2]
  exact a1 j hj
theorem qL_g {g' : Int} (hg : g ≤ g') (hq : qL e g M N) : qL e g' M N := fun l hl => by
  obtain ⟨a1, a2, a3, a4⟩ := hq l hl
  exact ⟨a1, ⟨a2.1, by omega⟩, a3, a4.1, by omega⟩
theorem qC_g {g' B' : Int} (hg : g ≤ g') (hq : qC cc L g B M N) : qC cc L g' B M N := by
  obtain ⟨q1, q2, q3⟩ := hq
  exact ⟨fun t ht => ⟨(q1 t ht).1, (q1 t ht).2.1, (q1 t ht).2.2.1, by have := (q1 t ht).2.2.2; omega⟩, q2, q3⟩
theorem hk_cg {t R : Nat} (h : ∀ j, M' 22 j = M 22 j) (n : Nat) : hk M' t R n = hk M t R n := hk_eq n fun k _ => h k
theorem qR_cg (h : ∀ a j, a = 21 ∨ a = 22 ∨ (a = cc ∧ j = 11) ∨ (a = 96 ∧ j = 14) → M' a j = M a j ∧ N' a j = N a j) (h1 : ∀ t : Nat, (t : Int) < L → M' (cc + 1) t = M (cc + 1) t) (hq : qR cc b L M N) : qR cc b L M' N' := by
  obtain ⟨q1, q2, q3, q4⟩ := hq
  unfold qR
  rw [(h 96 14 (by omega)).1, (h 96 14 (by omega)).2, (h 21 1 (by omega)).1, (h 21 1 (by omega)).2, (h cc 11 (by omega)).1, (h cc 11 (by omega)).2]
  refine ⟨fun hb => ?_, q2, ⟨fun r => ?_, fun r => ?_⟩, fun r1 r2 t ht hm => ?_⟩
  · obtain ⟨p1, p2, p3, p4⟩ := q1 hb
    refine ⟨p1, p2, p3, fun k hk => ?_⟩
    rw [(h 22 k (by omega)).1, (h 22 k (by omega)).2]
    exact p4 k hk
  · rw [(h 22 _ (by omega)).1]; exact q3.1 r
  · rw [(h 22 _ (by omega)).2]; exact q3.2 r
  · rw [h1 t ht] at hm
    rw [hk_cg (fun j => (h 22 j (by omega)).1), hk_cg (fun j => (h 22 j (by omega)).2)]
    exact q4 r1 r2 t ht hm
theorem pq_e (h : pq cc P b S e v M N) (hd : d ≤ e) : pq cc P b S d v M N := by
  obtain ⟨h1, h2, h3, h4, h5, h6⟩ := h
  exact ⟨h1, h2, h3, fun l hl => h4 l (by omega), h5, h6⟩
theorem pq_v (h : pq cc P b S e v M N) (hv : v ≤ v') : pq cc P b S e v' M N := by
  obtain ⟨⟨h1, h2, h3, h4, h5, h6, h7⟩, hr⟩ := h
  exact ⟨⟨h1, h2, h3, h4, h5, h6, fun z => by have := h7 z; omega⟩, hr⟩
theorem pq_s (h : pq cc P b S e v M N) (hS : ∀ c, S' c → S c) : pq cc P b S' e v M N := by
  obtain ⟨h1, h2, h3, h4, h5, h6⟩ := h
  exact ⟨h1, h2, h3, h4, fun c => ⟨fun q => (h5 c).1 (hS _ q), fun q => (h5 c).2 (hS _ q)⟩, h6⟩
theorem qS_cg {L' : Int} (h : ∀ a j, a = 103 ∨ a = 104 → M' a j = M a j ∧ N' a j = N a j) (hL : L ≤ L') (hq : qS S L M N) : qS S L' M' N' := by
  intro c
  obtain ⟨h1, h2⟩ := hq c
  rw [(h 103 c (by omega)).1, (h 103 c (by omega)).2, (h 104 c (by omega)).1, (h 104 c (by omega)).2]
  exact ⟨h1, fun q => ⟨(h2 q).1, by have := (h2 q).2; omega⟩⟩
/-- what changes only cells that the rest does not speak of -/
theorem pq_fr (hcc : pC cc) (h : pq cc P b S e v M N) (hWX : lW cc X) (hWY : lW cc Y) (hf : ∀ a j, a ≤ 22 ∨ a = cc ∨ (a = 96 ∧ (j = 7 ∨ j = 14)) → X a j = M a j ∧ Y a j = N a j) (h10 : Y 96 10 = X 96 10)
    (h2 : qC cc (M cc 0) (M 96 7) (M cc 10) X Y) (h3 : qG (M 96 7) X Y) (h4 : qL d (M 96 7) X Y) (h5 : qS S' (M cc 0) X Y) (h6 : ∀ t : Nat, (t : Int) < M cc 0 → X (cc + 1) t = M (cc + 1) t) : pq cc P b S' d v X Y := by
  have hr := cc_rg hcc
  obtain ⟨⟨a1, a2, a3, a4, a5, a6, a7⟩, b2, b3, b4, b5, b6⟩ := h
  have e0 := hf cc 0 (by omega)
  have e1 := hf cc 1 (by omega)
  have e2 := hf cc 10 (by omega)
  have e3 := hf 96 7 (by omega)
  refine ⟨⟨⟨hWX, hWY⟩, fun a j ha => by rw [(hf a j (by omega)).1, (hf a j (by omega)).2]; exact a2 a j ha, ⟨by rw [e0.1, e0.2, a3.1], by rw [e1.1, e1.2, a3.2.1], by rw [e2.1, e2.2, a3.2.2.1], by rw [e3.1, e3.2, a3.2.2.2.1], h10⟩, by rw [e2.1]; exact a4, by rw [e3.1]; exact a5, by rw [e3.1]; exact a6, by rw [e1.1, e3.1, e0.1]; exact a7⟩, ?_, ?_, ?_, by rw [e0.1]; exact h5, ?_⟩
  · rw [e0.1, e3.1, e2.1]; exact h2
  · rw [e3.1]; exact h3
  · rw [e3.1]; exact h4
  · rw [e0.1]; exact qR_cg (fun a j h => hf a j (by omega)) h6 b6
/-- labels -/
theorem pq_67 (hcc : pC cc) (h : pq cc P b S e v M N) : pq cc P b S e v (f_67 M).1 (f_67 N).1 ∧ (f_67 N).2 = (f_67 M).2 := by
  have hr := cc_rg hcc
  have eM : (f_67 M).1 = yU M 96 10 (M 96 10 + 1) := rfl
  have eN : (f_67 N).1 = yU N 96 10 (N 96 10 + 1) := rfl
  have e1 : N 96 10 = M 96 10 := h.1.2.2.1.2.2.2.2
  have k : ∀ (M : yM) (x : Int) a j, ¬ (a = 96 ∧ j = 10) → yU M 96 10 x a j = M a j := fun M x a j q => yU_ne q
  refine ⟨?_, ?_⟩
  · rw [eM, eN]
    refine pq_fr hcc h ?_ ?_ (fun a j q => ⟨k _ _ a j (by omega), k _ _ a j (by omega)⟩) (by rw [yU_at, yU_at, e1]) (qC_cg (fun a j q => ⟨k _ _ a j (by omega), k _ _ a j (by omega)⟩) h.2.1) (qG_cg (fun a j q => ⟨k _ _ a j (by omega), k _ _ a j (by omega)⟩) h.2.2.1) (qL_cg (fun a j q => ⟨k _ _ a j (by omega), k _ _ a j (by omega)⟩) h.2.2.2.1) (qS_cg (fun a j q => ⟨k _ _ a j (by omega), k _ _ a j (by omega)⟩) (Int.le_refl _) h.2.2.2.2.1) (fun t _ => k _ _ _ _ (by omega))
    · exact (lQ_U (d := 0) hcc (by omega) h.1.1.1).2
    · exact (lQ_U (d := 0) hcc (by omega) h.1.1.2).2
  · show yU N 96 10 (N 96 10 + 1) 96 10 = yU M 96 10 (M 96 10 + 1) 96 10
    rw [yU_at, yU_at, e1]
/-- a place's own cell; the guard of a place is written by hand below -/
theorem pq_pl (hcc : pC cc) (he : e < 90) (h : pq cc P b S (e + 1) v M N) {i : Nat} {x : Int} (hi : i < 6) (hx : i = 0 → (-1 ≤ x ∧ x < M 96 7) ∧ (0 ≤ x → M 100 x.toNat < ((e + 1 : Nat) : Int))) (h5 : i = 5 → -1 ≤ x ∧ x < M 96 7) : pq cc P b S (e + 1) v (yU M (105 + (e + 1)) i x) (yU N (105 + (e + 1)) i x) := by
  have hr := cc_rg hcc
  have k : ∀ (M : yM) (x : Int) a j, ¬ (a = 105 + (e + 1) ∧ j = i) → yU M (105 + (e + 1)) i x a j = M a j := fun M x a j q => yU_ne q
  refine pq_fr hcc h (lQ_U (d := e) hcc (by omega) h.1.1.1).2 (lQ_U (d := e) hcc (by omega) h.1.1.2).2 (fun a j q => ⟨k _ _ a j (by omega), k _ _ a j (by omega)⟩) ?_ (qC_cg (fun a j q => ⟨k _ _ a j (by omega), k _ _ a j (by omega)⟩) h.2.1) (qG_cg (fun a j q => ⟨k _ _ a j (by omega), k _ _ a j (by omega)⟩) h.2.2.1) ?_ (qS_cg (fun a j q => ⟨k _ _ a j (by omega), k _ _ a j (by omega)⟩) (Int.le_refl _) h.2.2.2.2.1) (fun t _ => k _ _ _ _ (by omega))
  · rw [k _ _ _ _ (by omega), k _ _ _ _ (by omega)]
    exact h.1.2.2.1.2.2.2.2
  · intro l hl
    obtain ⟨a1, a2, a3, a4⟩ := h.2.2.2.1 l hl
    by_cases q : l = e + 1
    · subst q
      refine ⟨fun j hj => ?_, ?_, ?_, ?_⟩
      · by_cases q2 : j = i
        · subst q2; rw [yU_at, yU_at]
        · rw [k _ _ _ _ (by omega), k _ _ _ _ (by omega)]; exact a1 j hj
      · by_cases q2 : i = 0
        · subst q2; rw [yU_at]; exact (hx rfl).1
        · rw [k _ _ _ _ (by omega)]; exact a2
      · rw [k M x 100 _ (by omega)]
        by_cases q2 : i = 0
        · subst q2; rw [yU_at]; exact (hx rfl).2
        · rw [k _ _ _ _ (by omega)]; exact a3
      · by_cases q2 : i = 5
        · subst q2; rw [yU_at]; exact h5 rfl
        · rw [k _ _ _ _ (by omega)]; exact a4
    · refine ⟨fun j hj => ?_, ?_, ?_, ?_⟩
      · rw [k _ _ _ _ (by omega), k _ _ _ _ (by omega)]; exact a1 j hj
      · rw [k _ _ _ _ (by omega)]; exact a2
      · rw [k M x 100 _ (by omega), k _ _ _ _ (by omega)]; exact a3
      · rw [k _ _ _ _ (by omega)]; exact a4
theorem f102_get {p q : Nat} (hpq : p ≠ q) : (∀ a j, ¬ (a = p ∧ j < 6) → f_102 M p q a j = M a j) ∧ ∀ j, j < 6 → f_102 M p q p j = M q j := by
  have e : f_102 M p q = yU (yU (yU (yU (yU (yU M p 0 (M q 0)) p 1 (M q 1)) p 2 (M q 2)) p 3 (M q 3)) p 4 (M q 4)) p 5 (M q 5) := by
    unfold f_102
    rw [ylet_eq, ylet_eq, ylet_eq, ylet_eq, ylet_eq, ylet_eq, yU_c hpq.symm, yU_c hpq.symm, yU_c hpq.symm, yU_c hpq.symm, yU_c hpq.symm, yU_c hpq.symm, yU_c hpq.symm, yU_c hpq.symm, yU_c hpq.symm, yU_c hpq.symm, yU_c hpq.symm, yU_c hpq.symm, yU_c hpq.symm, yU_c hpq.symm, yU_c hpq.symm]
  rw [e]
  refine ⟨fun a j h => ?_, fun j hj => ?_⟩
  · rw [yU_ne (by omega), yU_ne (by omega), yU_ne (by omega), yU_ne (by omega), yU_ne (by omega), yU_ne (by omega)]
  · rcases (show j = 0 ∨ j = 1 ∨ j = 2 ∨ j = 3 ∨ j = 4 ∨ j = 5 by omega) with rfl | rfl | rfl | rfl | rfl | rfl
    · rw [yU_i (by decide), yU_i (by decide), yU_i (by decide), yU_i (by decide), yU_i (by decide), yU_at]
    · rw [yU_i (by decide), yU_i (by decide), yU_i (by decide), yU_i (by decide), yU_at]
    · rw [yU_i (by decide), yU_i (by decide), yU_i (by decide), yU_at]
    · rw [yU_i (by decide), yU_i (by decide), yU_at]
    · rw [yU_i (by decide), yU_at]
    · rw [yU_at]
/-- the next place becomes a copy of one further out -/
theorem pq_48 (hcc : pC cc) (hd : d < 90) (h : pq cc P b S d v M N) {l : Nat} (hl : l ≤ d) : pq cc P b S (d + 1) v (f_48 M (l : Int) (d : Int)) (f_48 N (l : Int) (d : Int)) := by
  have hr := cc_rg hcc
  have e : ∀ M : yM, f_48 M (l : Int) (d : Int) = f_102 M (105 + (d + 1)) (105 + l) := fun M => by
    unfold f_48
    rw [ylet_eq, pz_s hd, pz_d (by omega)]
  have hW1 := (lQ_48 (x := (l : Int)) hcc hd h.1.1.1).2
  have hW2 := (lQ_48 (x := (l : Int)) hcc hd h.1.1.2).2
  rw [e] at hW1 hW2
  rw [e, e]
  obtain ⟨g1, g2⟩ := f102_get (M := M) (p := 105 + (d + 1)) (q := 105 + l) (by omega)
  obtain ⟨k1, k2⟩ := f102_get (M := N) (p := 105 + (d + 1)) (q := 105 + l) (by omega)
  refine pq_fr hcc h hW1 hW2 (fun a j q => ⟨g1 a j (by omega), k1 a j (by omega)⟩) ?_ (qC_cg (fun a j q => ⟨g1 a j (by omega), k1 a j (by omega)⟩) h.2.1) (qG_cg (fun a j q => ⟨g1 a j (by omega), k1 a j (by omega)⟩) h.2.2.1) ?_ (qS_cg (fun a j q => ⟨g1 a j (by omega), k1 a j (by omega)⟩) (Int.le_refl _) h.2.2.2.2.1) (fun t _ => g1 _ _ (by omega))
  · rw [g1 _ _ (by omega), k1 _ _ (by omega)]
    exact h.1.2.2.1.2.2.2.2
  · intro l' hl'
    by_cases q : l' = d + 1
    · subst q
      obtain ⟨a1, a2, a3, a4⟩ := h.2.2.2.1 l hl
      rw [g2 0 (by decide), g2 5 (by decide), g1 100 _ (by omega)]
      refine ⟨fun j hj => by rw [g2 j hj, k2 j hj]; exact a1 j hj, a2, fun z => by have := a3 z; omega, a4⟩
    · obtain ⟨a1, a2, a3, a4⟩ := h.2.2.2.1 l' (by omega)
      rw [g1 _ 0 (by omega), g1 _ 5 (by omega), g1 100 _ (by omega)]
      exact ⟨fun j hj => by rw [g1 _ _ (by omega), k1 _ _ (by omega)]; exact a1 j hj, a2, a3, a4⟩
theorem pq_47 (hcc : pC cc) (hd : d < 90) (h : pq cc P b S d v M N) : pq cc P b S (d + 1) v (f_47 M (d : Int)) (f_47 N (d : Int)) := by
  have e : ∀ M : yM, f_47 M (d : Int) = f_48 M (d : Int) (d : Int) := fun M => by
    unfold f_47
    rw [ylet_eq]
  rw [e, e]
  exact pq_48 hcc hd h (Nat.le_refl d)
end PqA
