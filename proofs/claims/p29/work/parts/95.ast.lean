/-! what holds of the nodes -/
def nvP (P : yM) (n : Nat) : Prop := (n : Int) < P 1 7 ∧ P 17 n = 1
def cnP (P : yM) (n : Nat) (x : Int) : Prop := (0 ≤ x ∧ x < 13) ∧ (n : Int) < P 1 7 ∧ tb (P 16 n) x.toNat = true
def kcP (P : yM) (x : Int) : Prop := (1 ≤ x ∧ x ≤ 4) ∨ ∃ n, P 7 n = 14 ∨ P 7 n = 18
def bdP (P : yM) (p : Nat) : Nat := (P 6 p).toNat
def vpP (P : yM) (p : Nat) : Prop := (p : Int) < P 1 4
section AtA
variable {M M' P : yM} {n w N k fu p : Nat} {x x1 x2 x3 x4 o : Int} {cs : List Nat} {z : Nat}
theorem tb_opn : ∀ (cs : List Nat) (o : Int), z < 32 → (tb (opn M o cs) z = true ↔ (tb o z = true ∧ ∀ c, c ∈ cs → tb (M 4 (M 8 c).toNat) z = false))
  | [], o, _ => ⟨fun h => ⟨h, fun c hc => absurd hc List.not_mem_nil⟩, fun h => h.1⟩
  | c :: cs, o, hz => by
    show tb (opn M (ybin 26 o (ybin 105 (M 4 (M 8 c).toNat) (-1))) cs) z = true ↔ _
    rw [tb_opn cs _ hz, tb_and, tb_not hz, Bool.and_eq_true, Bool.not_eq_true']
    constructor
    · rintro ⟨⟨h1, h2⟩, h3⟩
      refine ⟨h1, fun d hd => ?_⟩
      rcases List.mem_cons.mp hd with hd | hd
      · rw [hd]; exact h2
      · exact h3 d hd
    · rintro ⟨h1, h2⟩
      exact ⟨⟨h1, h2 c List.mem_cons_self⟩, fun d hd => h2 d (List.mem_cons_of_mem _ hd)⟩
theorem tb_ofc : ∀ (cs : List Nat) (o : Int), (tb (ofc M o cs) z = true ↔ (tb o z = true ∨ ∃ c, c ∈ cs ∧ tb (M 16 c) z = true))
  | [], o => ⟨fun h => Or.inl h, fun h => by
      rcases h with h | ⟨c, hc, _⟩
      · exact h
      · exact absurd hc List.not_mem_nil⟩
  | c :: cs, o => by
    show tb (ofc M (ybin 27 o (M 16 c)) cs) z = true ↔ _
    rw [tb_ofc cs _, tb_or, Bool.or_eq_true]
    constructor
    · rintro ((h | h) | ⟨d, hd, h⟩)
      · exact Or.inl h
      · exact Or.inr ⟨c, List.mem_cons_self, h⟩
      · exact Or.inr ⟨d, List.mem_cons_of_mem _ hd, h⟩
    · rintro (h | ⟨d, hd, h⟩)
      · exact Or.inl (Or.inl h)
      · rcases List.mem_cons.mp hd with hd | hd
        · subst hd; exact Or.inl (Or.inr h)
        · exact Or.inr ⟨d, hd, h⟩
theorem tb_or2 {a b : Int} : tb (ybin 27 a b) z = true ↔ (tb a z = true ∨ tb b z = true) := by rw [tb_or, Bool.or_eq_true]
theorem tb_cpt (hx : x ≠ -1) : cpt M x = M 16 x.toNat := if_neg hx
theorem yBl_ok (hI : pI P) (hx : 0 ≤ x ∧ x < 13) (hc : 0 ≤ o ∧ o < P 1 0) : (yBl P x o = true ↔ tb (P 4 o.toNat) x.toNat = true) := by
  have hnk := hI.2.2.1
  unfold yBl
  rw [decide_eq_true_iff, tb_120 hx, rd_in (a := 4) hc.1 (show o < 13 by omega)]
theorem vn_in (hI : pI P) (hk : kn P) (h : nvP P n) : vN P n := by
  have h2 := (hk n h.1).2.2
  by_cases q : vN P n
  · exact q
  · rw [if_neg q] at h2
    have := h.2
    omega
theorem nv_npt {y : Int} (hI : pI P) (hn : (n : Int) < P 1 7) (hy : y = -1 ∨ (0 ≤ y ∧ y < (n : Int))) (h : npt P y) : nvP P y.toNat := ⟨by have := h.1; omega, h.2⟩
theorem npt_nv {y : Int} (hy : y ≠ -1) (h : nvP P y.toNat) : npt P y := ⟨hy, h.2⟩
/-- kinds of what a TRY can throw -/
theorem vT_tb (hz : z < 32) (hO : (P 8 n = -1 ∨ prt P n (P 8 n)) ∧ prt P n (P 9 n)) : tb (vT P n) z = true ↔ ((npt P (P 8 n) ∧ tb (P 16 (P 8 n).toNat) z = true) ∨ (¬ npt P (P 8 n) ∧ ((tb (P 16 (P 9 n).toNat) z = true ∧ ∀ c, c ∈ chn P 90 (P 10 n) → tb (P 4 (P 8 c).toNat) z = false) ∨ (∃ c, c ∈ chn P 90 (P 10 n) ∧ tb (P 16 c) z = true) ∨ (P 8 n ≠ -1 ∧ tb (P 16 (P 8 n).toNat) z = true)))) := by
  unfold vT
  have h9 : P 9 n ≠ -1 := fun q => by have := hO.2.1; omega
  by_cases a : npt P (P 8 n)
  · rw [if_pos a]
    exact ⟨fun h => Or.inl ⟨a, h⟩, fun h => by
      rcases h with h | h
      · exact h.2
      · exact absurd a h.1⟩
  · rw [if_neg a, tb_or2, tb_or2, tb_opn _ _ hz, tb_ofc, tb_cpt h9, tb_0]
    have e8 : tb (cpt P (P 8 n)) z = true ↔ (P 8 n ≠ -1 ∧ tb (P 16 (P 8 n).toNat) z = true) := by
      by_cases q : P 8 n = -1
      · have e : cpt P (P 8 n) = 0 := if_pos q
        rw [e, tb_0]
        exact ⟨fun h => (Bool.false_ne_true h).elim, fun h => absurd q h.1⟩
      · rw [tb_cpt q]
        exact ⟨fun h => ⟨q, h⟩, fun h => h.2⟩
    rw [e8]
    constructor
    · rintro ((h | (h | h)) | h)
      · exact Or.inr ⟨a, Or.inl h⟩
      · exact (Bool.false_ne_true h).elim
      · exact Or.inr ⟨a, Or.inr (Or.inl h)⟩
      · exact Or.inr ⟨a, Or.inr (Or.inr h)⟩
    · rintro (h | ⟨_, h | h | h⟩)
      · exact absurd h.1 a
      · exact Or.inl (Or.inl h)
      · exact Or.inl (Or.inr (Or.inr h))
      · exact Or.inr h
theorem vC_4 (h : P 7 n = 4 ∨ P 7 n = 5 ∨ P 7 n = 6) : vC P n = ybin 27 (cpt P (P 9 n)) (cpt P (ptC P n)) := by
  unfold vC
  rw [if_neg (by omega), if_neg (by omega), if_neg (by omega), if_neg (by omega), if_neg (by omega), if_neg (by omega), if_neg (by omega)]
  have e : ptB P n = P 9 n := if_pos (by omega)
  rw [e]
theorem vC_13 (h : P 7 n = 13) : vC P n = ybin 27 (ybin 27 (tpt P (P 8 n)) (tpt P (P 10 n))) (cpt P (P 9 n)) := by
  unfold vC
  rw [if_neg (by omega), if_neg (by omega), if_neg (by omega), if_neg (by omega), if_pos h]
theorem vC_11 (h : P 7 n = 11) : vC P n = vT P n := by
  unfold vC
  rw [if_neg (by omega), if_neg (by omega), if_pos h]
theorem vC_12 (h : P 7 n = 12) : vC P n = cpt P (P 9 n) := by
  unfold vC
  rw [if_neg (by omega), if_neg (by omega), if_neg (by omega), if_pos h]
theorem vC_9 (h : P 7 n = 9) : vC P n = P 5 (P 9 n).toNat := by
  unfold vC
  rw [if_pos h]
theorem vC_10 (h : P 7 n = 10 ∨ P 7 n = 15) : vC P n = ybin 28 1 (P 8 n) := by
  unfold vC
  rw [if_neg (by omega)]
  by_cases q : P 7 n = 10
  · rw [if_pos q]
  · rw [if_neg q, if_neg (by omega), if_neg (by omega), if_neg (by omega), if_neg (by omega), if_pos (by omega)]
theorem so_lt (hI : pI P) (h : P 7 n ≠ 0) : (n : Int) < P 1 7 := by
  have h2 := hI.2.2.2.2.1 n
  omega
theorem tf_ar (hI : pI P) {f k : Nat} (h : a_tf (yq P) k f) : P 11 f = (k : Int) ∧ P 7 f ≠ 12 ∧ P 7 k = 11 ∧ P 8 k = (f : Int) := by
  have h1 : P 7 k = 11 := h.1
  have h2 : P 8 k = (f : Int) := h.2
  have hk := so_lt hI (n := k) (by omega)
  rcases (hI.2.2.2.1 k hk).2.2.2.2.2.2.2.2.1 h1 |>.1 with q | q
  · omega
  · have e : (P 8 k).toNat = f := by omega
    have q3 := q.2.2
    rw [e] at q3
    exact ⟨q3.1, q3.2, h1, h2⟩
theorem tf_no (hI : pI P) {y : Int} (hy : prt P n y) (hne : P 7 n = 11 → P 8 n ≠ y) (k : Nat) : ¬ a_tf (yq P) k y.toNat := fun h => by
  obtain ⟨h1, h2, h3, h4⟩ := tf_ar hI h
  have h5 := hy.2.2.1
  have e : k = n := by omega
  subst e
  exact hne h3 (by have := hy.1; omega)
/-- catches of a TRY -/
theorem cs_ok (hI : pI P) (hn : (n : Int) < P 1 7) (h : P 7 n = 11) (hc : a_chain (yq P) (P 10 n) cs) : cs = chn P 90 (P 10 n) ∧ ∀ c, c ∈ cs → (c : Int) < (n : Int) ∧ (c : Int) < P 1 7 ∧ P 7 c = 12 := by
  have o := (hI.2.2.2.1 n hn).2.2.2.2.2.2.2.2.1 h
  have hx := prc_c hn o.2.2.1
  have e : cs = chn P 90 (P 10 n) := chain_eq hc (chn_ok hI 90 _ hx.1 (by have := hI.1; omega))
  refine ⟨e, fun c hcc => ?_⟩
  rw [e] at hcc
  have := chn_in hI _ _ hx.1 c hcc
  exact ⟨by omega, this.2⟩
end AtA
