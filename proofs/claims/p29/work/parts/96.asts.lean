/-! what holds of the nodes (2) -/
section AsA
variable {P : yM} {n p : Nat} {x : Int} {K : Nat → Nat → Nat → Int} {BG : Nat → Nat → List Nat} {CH : Nat → Nat → List (Int × Int)}
theorem cn_up (hk : kn P) {m : Nat} (h : cnP P m x) (hn : (n : Int) < P 1 7) (hv : tb (P 16 m) x.toNat = true → tb (vC P n) x.toNat = true) : cnP P n x := ⟨h.1, hn, by rw [(hk n hn).2.1]; exact hv h.2.2⟩
theorem as_7 (hI : pI P) (hk : kn P) (h : P 7 n = 4) (hv : nvP P n) : nvP P (P 9 n).toNat ∨ nvP P (P 10 n).toNat := by
  have hn := hv.1
  have o := (hI.2.2.2.1 n hn).2.2.2.1 h
  have q9 := prt_x o.1
  have q10 := prt_x o.2.1
  rcases vn_in hI hk hv with q | q | q | q | q | q | q | q | q | q
  · omega
  · omega
  · omega
  · omega
  · omega
  · omega
  · rcases q.2 with q | q
    · exact Or.inl (nv_npt hI hn q9 q)
    · exact Or.inr (nv_npt hI hn q10 q)
  · exact absurd q.1 (by omega)
  · exact absurd q.1 (by omega)
  · exact absurd q.1 (by omega)
theorem as_8 (hI : pI P) (hk : kn P) (h : P 7 n = 5) (hv : nvP P n) : P 10 n ≠ -1 ∧ nvP P (P 9 n).toNat ∧ nvP P (P 10 n).toNat := by
  have hn := hv.1
  have o := (hI.2.2.2.1 n hn).2.2.2.2.1 h
  have q9 := prt_x o.2.1
  have q10 := prt_y o.2.2.1
  rcases vn_in hI hk hv with q | q | q | q | q | q | q | q | q | q
  · omega
  · omega
  · omega
  · omega
  · omega
  · omega
  · exact absurd q.1 (by omega)
  · exact ⟨q.2.2.1, nv_npt hI hn q9 q.2.1, nv_npt hI hn q10 q.2.2⟩
  · exact absurd q.1 (by omega)
  · exact absurd q.1 (by omega)
theorem as_9 (hI : pI P) (hk : kn P) (h : P 7 n = 0 ∨ P 7 n = 1 ∨ P 7 n = 2 ∨ P 7 n = 3 ∨ P 7 n = 6 ∨ P 7 n = 9 ∨ P 7 n = 16 ∨ P 7 n = 17) : ¬ nvP P n := fun hv => by
  rcases vn_in hI hk hv with q | q | q | q | q | q | q | q | q | q
  · omega
  · omega
  · omega
  · omega
  · omega
  · omega
  · exact absurd q.1 (by omega)
  · exact absurd q.1 (by omega)
  · exact absurd q.1 (by omega)
  · exact absurd q.1 (by omega)
theorem as_12 (hI : pI P) (hk : kn P) (hn : (n : Int) < P 1 7) (h : P 7 n = 12 ∨ P 7 n = 13) (hv : nvP P n) : nvP P (P 9 n).toNat := by
  have q9 : P 9 n = -1 ∨ (0 ≤ P 9 n ∧ P 9 n < (n : Int)) := by
    rcases h with h | h
    · exact prt_x ((hI.2.2.2.1 n hn).2.2.2.2.2.2.2.2.2.1 h).2.1
    · exact prt_x ((hI.2.2.2.1 n hn).2.2.2.2.2.2.2.2.2.2.1 h).1
  rcases vn_in hI hk hv with q | q | q | q | q | q | q | q | q | q
  · omega
  · omega
  · omega
  · omega
  · omega
  · omega
  · exact absurd q.1 (by omega)
  · exact absurd q.1 (by omega)
  · exact nv_npt hI hn q9 q.2
  · exact absurd q.1 (by omega)
theorem as_10 (hI : pI P) (hk : kn P) {cs : List Nat} (h : P 7 n = 11) (hc : a_chain (yq P) (P 10 n) cs) (hv : nvP P n) : (P 8 n ≠ -1 ∧ nvP P (P 8 n).toNat) ∨ (nvP P (P 9 n).toNat ∧ ∀ c, c ∈ cs → nvP P (P 9 c).toNat) := by
  have hn := hv.1
  have o := (hI.2.2.2.1 n hn).2.2.2.2.2.2.2.2.1 h
  obtain ⟨ec, hcs⟩ := cs_ok hI hn h hc
  have q8 := prt_y o.1
  have q9 := prt_x o.2.1
  rcases vn_in hI hk hv with q | q | q | q | q | q | q | q | q | q
  · omega
  · omega
  · omega
  · omega
  · omega
  · omega
  · exact absurd q.1 (by omega)
  · exact absurd q.1 (by omega)
  · exact absurd q.1 (by omega)
  · rcases q.2 with q | q
    · exact Or.inl ⟨q.1, nv_npt hI hn q8 q⟩
    · refine Or.inr ⟨nv_npt hI hn q9 q.1, fun c hcc => ?_⟩
      have hc3 := hcs c hcc
      exact as_12 hI hk hc3.2.1 (Or.inl hc3.2.2) ⟨hc3.2.1, q.2 c (by rw [← ec]; exact hcc)⟩
theorem as_13 (hI : pI P) (hk : kn P) (h : P 7 n = 10 ∨ P 7 n = 15) : cnP P n (P 8 n) := by
  have hn := so_lt hI (n := n) (by omega)
  have o := ((hI.2.2.2.1 n hn).2.2.2.2.2.2.2.1 h).1
  have hnk := hI.2.2.1
  refine ⟨by omega, hn, ?_⟩
  rw [(hk n hn).2.1, vC_10 h]
  have := tb_shl (P 8 n).toNat (by omega) (P 8 n).toNat (by omega)
  rw [Int.toNat_of_nonneg o.1] at this
  rw [this]
  exact decide_eq_true rfl
theorem cl_x (hcl : ∀ (p x : Nat), (p : Int) < P 1 4 → x < 32 → tb (P 16 (P 6 p).toNat) x = true → tb (P 5 p) x = true) {a : Int} (ha : a ≠ -1) (h4 : 0 ≤ a ∧ a < P 1 4) (h : cnP P (bdP P a.toNat) x) : tb (tpt P a) x.toNat = true := by
  have e : tpt P a = P 5 a.toNat := if_neg ha
  rw [e]
  exact hcl a.toNat x.toNat (by omega) (by have := h.1; omega) h.2.2
theorem ast_ok (hI : pI P) (hk : kn P) (hb : ∀ p : Nat, (p : Int) < P 1 4 → 0 ≤ P 6 p) (hcl : ∀ (p x : Nat), (p : Int) < P 1 4 → x < 32 → tb (P 16 (P 6 p).toNat) x = true → tb (P 5 p) x = true) (hp : ∀ p : Nat, (p : Int) < P 1 4 → a_pl (yq P) K BG CH (bdP P) p) :
    a_ast (yq P) K BG CH (yBl P) (nvP P) (cnP P) (kcP P) (bdP P) (vpP P) := by
  refine ⟨?_, ?_, ?_, ?_, ?_, ?_, ?_, ?_, ?_, ?_, ?_, ?_, ?_, ?_, ?_, ?_, ?_, ?_, ?_, ?_, ?_, ?_, ?_, ?_, ?_⟩
  · intro n h k
    have h : P 7 n = 4 ∨ P 7 n = 5 ∨ P 7 n = 6 ∨ P 7 n = 11 ∨ P 7 n = 12 ∨ P 7 n = 13 := h
    have hn := so_lt hI (n := n) (by omega)
    have hO := hI.2.2.2.1 n hn
    have key : prt P n (P 9 n) ∧ (P 7 n = 11 → P 8 n ≠ P 9 n) := by
      rcases h with h | h | h | h | h | h
      · exact ⟨(hO.2.2.2.1 h).1, fun z => absurd z (by omega)⟩
      · exact ⟨(hO.2.2.2.2.1 h).2.1, fun z => absurd z (by omega)⟩
      · exact ⟨(hO.2.2.2.2.2.1 h).2, fun z => absurd z (by omega)⟩
      · exact ⟨(hO.2.2.2.2.2.2.2.2.1 h).2.1, fun _ => (hO.2.2.2.2.2.2.2.2.1 h).2.2.2.1⟩
      · exact ⟨(hO.2.2.2.2.2.2.2.2.2.1 h).2.1, fun z => absurd z (by omega)⟩
      · exact ⟨(hO.2.2.2.2.2.2.2.2.2.2.1 h).1, fun z => absurd z (by omega)⟩
    exact tf_no hI key.1 key.2 k
  · intro n h k
    have h : P 7 n = 4 ∨ (P 7 n = 5 ∧ P 10 n ≠ -1) := h
    have hn := so_lt hI (n := n) (by omega)
    have hO := hI.2.2.2.1 n hn
    have key : prt P n (P 10 n) := by
      rcases h with h | h
      · exact (hO.2.2.2.1 h).2.1
      · exact (hO.2.2.2.2.1 h.1).2.2.1.resolve_left h.2
    exact tf_no hI key (fun z => absurd z (by omega)) k
  · intro n h k hf
    exact (tf_ar hI hf).2.1 h
  · intro k k' y h1 h2
    have e1 := (tf_ar hI h1).1
    have e2 := (tf_ar hI h2).1
    omega
  · intro p hvp
    refine ⟨fun k hf => ?_, hp p hvp⟩
    have h6 := hb p hvp
    rcases hI.2.2.2.2.2.2.1 p hvp with q | q
    · omega
    · have e1 := (tf_ar hI hf).1
      have e2 := q.2.2.2.1
      have e3 : P 11 (P 6 p).toNat = (k : Int) := e1
      omega
  · intro n h
    have h : P 7 n = 11 := h
    have hn := so_lt hI (n := n) (by omega)
    have o := ((hI.2.2.2.1 n hn).2.2.2.2.2.2.2.2.1 h).1
    rcases o with o | o
    · exact Or.inl o
    · exact Or.inr o.1
  · exact fun n h hv => as_7 hI hk h hv
  · exact fun n h hv => as_8 hI hk h hv
  · exact fun n h => as_9 hI hk h
  · exact fun n cs h hc hv => as_10 hI hk h hc hv
  · exact fun n h hv => as_12 hI hk hv.1 (Or.inr h) hv
  · exact fun n h => as_13 hI hk h
  · intro n x h hx
    have h : P 7 n = 9 := h
    have hn := so_lt hI (n := n) (by omega)
    have o := ((hI.2.2.2.1 n hn).2.2.2.2.2.2.1 h).2
    refine ⟨hx.1, hn, ?_⟩
    rw [(hk n hn).2.1, vC_9 h]
    exact hcl (P 9 n).toNat x.toNat (by omega) (by have := hx.1; omega) hx.2.2
  · intro n x h hx
    have h : P 7 n = 4 ∨ P 7 n = 5 ∨ P 7 n = 6 ∨ P 7 n = 13 := h
    have hn := so_lt hI (n := n) (by omega)
    have hO := hI.2.2.2.1 n hn
    have h9 : P 9 n ≠ -1 := by
      rcases h with h | h | h | h
      · have := (hO.2.2.2.1 h).1.1; omega
      · have := (hO.2.2.2.2.1 h).2.1.1; omega
      · have := (hO.2.2.2.2.2.1 h).2.1; omega
      · have := (hO.2.2.2.2.2.2.2.2.2.2.1 h).1.1; omega
    refine cn_up hk hx hn fun ht => ?_
    by_cases q : P 7 n = 13
    · rw [vC_13 q, tb_or2, tb_cpt h9]; exact Or.inr ht
    · rw [vC_4 (by omega), tb_or2, tb_cpt h9]; exact Or.inl ht
  · intro n x h hx
    have h : P 7 n = 4 ∨ (P 7 n = 5 ∧ P 10 n ≠ -1) := h
    have hn := so_lt hI (n := n) (by omega)
    have hO := hI.2.2.2.1 n hn
    have h10 : P 10 n ≠ -1 := by
      rcases h with h | h
      · have := (hO.2.2.2.1 h).2.1.1; omega
      · exact h.2
    have e : ptC P n = P 10 n := if_pos (by omega)
    refine cn_up hk hx hn fun ht => ?_
    rw [vC_4 (by omega), tb_or2, e, tb_cpt h10]; exact Or.inr ht
  · intro n cs x h hc hx hno hnv
    have h : P 7 n = 11 := h
    have hn := so_lt hI (n := n) (by omega)
    have o := (hI.2.2.2.1 n hn).2.2.2.2.2.2.2.2.1 h
    obtain ⟨ec, hcs⟩ := cs_ok hI hn h hc
    refine cn_up hk hx hn fun ht => ?_
    rw [vC_11 h, vT_tb (by have := hx.1; omega) ⟨o.1, o.2.1⟩]
    refine Or.inr ⟨fun z => hnv z.1 (nv_npt hI hn (prt_y o.1) z), Or.inl ⟨ht, fun c hcc => ?_⟩⟩
    have hc3 := hcs c (by rw [ec]; exact hcc)
    have hcr := ((hI.2.2.2.1 c hc3.2.1).2.2.2.2.2.2.2.2.2.1 hc3.2.2).1
    have hno2 := hno c (by rw [ec]; exact hcc)
    have := yBl_ok hI (x := x) (o := P 8 c) hx.1 hcr
    cases ht2 : tb (P 4 (P 8 c).toNat) x.toNat with
    | false => rfl
    | true => exact absurd (this.mpr ht2) hno2
  · intro n cs c x h hc hcc hx hnv
    have h : P 7 n = 11 := h
    have hn := so_lt hI (n := n) (by omega)
    have o := (hI.2.2.2.1 n hn).2.2.2.2.2.2.2.2.1 h
    obtain ⟨ec, hcs⟩ := cs_ok hI hn h hc
    have hc3 := hcs c hcc
    have h9 := ((hI.2.2.2.1 c hc3.2.1).2.2.2.2.2.2.2.2.2.1 hc3.2.2).2.1.1
    refine cn_up hk hx hn fun ht => ?_
    rw [vC_11 h, vT_tb (by have := hx.1; omega) ⟨o.1, o.2.1⟩]
    refine Or.inr ⟨fun z => hnv z.1 (nv_npt hI hn (prt_y o.1) z), Or.inr (Or.inl ⟨c, by rw [← ec]; exact hcc, ?_⟩)⟩
    rw [(hk c hc3.2.1).2.1, vC_12 hc3.2.2, tb_cpt (by omega)]
    exact ht
  · intro n x h h8 hx
    have h : P 7 n = 11 := h
    have h8 : P 8 n ≠ -1 := h8
    have hn := so_lt hI (n := n) (by omega)
    have o := (hI.2.2.2.1 n hn).2.2.2.2.2.2.2.2.1 h
    refine cn_up hk hx hn fun ht => ?_
    rw [vC_11 h, vT_tb (by have := hx.1; omega) ⟨o.1, o.2.1⟩]
    by_cases q : npt P (P 8 n)
    · exact Or.inl ⟨q, ht⟩
    · exact Or.inr ⟨q, Or.inr (Or.inr ⟨h8, ht⟩)⟩
  · intro n cs c h hc hcc
    have h : P 7 n = 11 := h
    have hn := so_lt hI (n := n) (by omega)
    have hc3 := (cs_ok hI hn h hc).2 c hcc
    have hcr := ((hI.2.2.2.1 c hc3.2.1).2.2.2.2.2.2.2.2.2.1 hc3.2.2).1
    exact ⟨by show P 8 c ≠ -1; omega, hc3.2.2⟩
  · intro n x h h8 hx
    have h : P 7 n = 13 := h
    have h8 : P 8 n ≠ -1 := h8
    have hn := so_lt hI (n := n) (by omega)
    have o := ((hI.2.2.2.1 n hn).2.2.2.2.2.2.2.2.2.2.1 h).2.1.resolve_left h8
    refine ⟨hx.1, hn, ?_⟩
    rw [(hk n hn).2.1, vC_13 h, tb_or2, tb_or2]
    exact Or.inl (Or.inl (cl_x hcl h8 o hx))
  · intro n x h h10 hx
    have h : P 7 n = 13 := h
    have h10 : P 10 n ≠ -1 := h10
    have hn := so_lt hI (n := n) (by omega)
    have o := ((hI.2.2.2.1 n hn).2.2.2.2.2.2.2.2.2.2.1 h).2.2.1.resolve_left h10
    refine ⟨hx.1, hn, ?_⟩
    rw [(hk n hn).2.1, vC_13 h, tb_or2, tb_or2]
    exact Or.inl (Or.inr (cl_x hcl h10 o hx))
  · exact ⟨Or.inl (by omega), Or.inl (by omega), Or.inl (by omega), Or.inl (by omega)⟩
  · exact fun n h x => Or.inr ⟨n, h⟩
  · intro n h
    have h : P 7 n = 9 := h
    have hn := so_lt hI (n := n) (by omega)
    have o := ((hI.2.2.2.1 n hn).2.2.2.2.2.2.1 h).2
    show (((P 9 n).toNat : Nat) : Int) < P 1 4
    omega
  · intro n h
    have h : P 7 n = 13 := h
    have hn := so_lt hI (n := n) (by omega)
    have o := (hI.2.2.2.1 n hn).2.2.2.2.2.2.2.2.2.2.1 h
    refine ⟨fun h8 => ?_, fun h10 => ?_⟩
    · have := o.2.1.resolve_left h8
      show (((P 8 n).toNat : Nat) : Int) < P 1 4
      omega
    · have := o.2.2.1.resolve_left h10
      show (((P 10 n).toNat : Nat) : Int) < P 1 4
      omega
end AsA
