/-! what a node can throw, and whether it never ends -/
/-- the catches from x on -/
def chn (M : yM) : Nat → Int → List Nat
  | 0, _ => []
  | k + 1, x => if x < 0 then [] else x.toNat :: chn M k (M 10 x.toNat)
def opn (M : yM) : Int → List Nat → Int
  | o, [] => o
  | o, c :: cs => opn M (ybin 26 o (ybin 105 (M 4 (M 8 c).toNat) (-1))) cs
def ofc (M : yM) : Int → List Nat → Int
  | o, [] => o
  | o, c :: cs => ofc M (ybin 27 o (M 16 c)) cs
def cpt (M : yM) (x : Int) : Int := if x = -1 then 0 else M 16 x.toNat
def tpt (M : yM) (x : Int) : Int := if x = -1 then 0 else M 5 x.toNat
abbrev npt (M : yM) (x : Int) : Prop := x ≠ -1 ∧ M 17 x.toNat = 1
def ptA (M : yM) (n : Nat) : Int := if M 7 n = 11 then M 8 n else -1
def ptB (M : yM) (n : Nat) : Int := if M 7 n = 4 ∨ M 7 n = 5 ∨ M 7 n = 6 ∨ M 7 n = 11 ∨ M 7 n = 12 ∨ M 7 n = 13 then M 9 n else -1
def ptC (M : yM) (n : Nat) : Int := if M 7 n = 4 ∨ M 7 n = 5 ∨ M 7 n = 11 ∨ M 7 n = 12 then M 10 n else -1
def vT (M : yM) (n : Nat) : Int := if npt M (M 8 n) then M 16 (M 8 n).toNat else ybin 27 (ybin 27 (opn M (cpt M (M 9 n)) (chn M 90 (M 10 n))) (ofc M 0 (chn M 90 (M 10 n)))) (cpt M (M 8 n))
/-- what it can throw -/
def vC (M : yM) (n : Nat) : Int :=
  if M 7 n = 9 then M 5 (M 9 n).toNat else if M 7 n = 10 then ybin 28 1 (M 8 n) else if M 7 n = 11 then vT M n else if M 7 n = 12 then cpt M (M 9 n) else if M 7 n = 13 then ybin 27 (ybin 27 (tpt M (M 8 n)) (tpt M (M 10 n))) (cpt M (M 9 n)) else
  if M 7 n = 14 then (if M 14 n = -1 then 0 else ybin 28 1 (M 8 (M 14 n).toNat)) else if M 7 n = 15 then ybin 28 1 (M 8 n) else ybin 27 (cpt M (ptB M n)) (cpt M (ptC M n))
abbrev vE (M : yM) (n : Nat) : Prop := npt M (M 9 n) ∧ ∀ c, c ∈ chn M 90 (M 10 n) → M 17 c = 1
/-- does it never end -/
abbrev vN (M : yM) (n : Nat) : Prop := M 7 n = 7 ∨ M 7 n = 8 ∨ M 7 n = 10 ∨ M 7 n = 14 ∨ M 7 n = 15 ∨ M 7 n = 18 ∨ (M 7 n = 4 ∧ (npt M (M 9 n) ∨ npt M (M 10 n))) ∨ (M 7 n = 5 ∧ npt M (M 9 n) ∧ npt M (M 10 n)) ∨ ((M 7 n = 12 ∨ M 7 n = 13) ∧ npt M (M 9 n)) ∨ (M 7 n = 11 ∧ (npt M (M 8 n) ∨ vE M n))
def d2 (M : yM) (n : Nat) : Prop := M 16 n = vC M n ∧ M 17 n = (if vN M n then 1 else 0)
/-- nothing, or a catch -/
def ctx (M : yM) (x : Int) : Prop := x = -1 ∨ (0 ≤ x ∧ x < M 1 7 ∧ M 7 x.toNat = 12)
section DvA
variable {M M' : yM} {n w N k fu : Nat} {x x1 x2 x3 x4 : Int} {cs : List Nat}
theorem ctx_up (hI : pI M) (h : ctx M x) (h0 : 0 ≤ x) : ctx M (M 10 x.toNat) ∧ M 10 x.toNat < x ∧ -1 ≤ M 10 x.toNat := by
  rcases h with h | ⟨_, h2, h3⟩
  · omega
  · have hO := ((hI.2.2.2.1 x.toNat (by omega)).2.2.2.2.2.2.2.2.2.1 h3).2.2
    rcases hO with q | ⟨q1, q2, q3, q4⟩
    · exact ⟨Or.inl q, by omega, by omega⟩
    · exact ⟨Or.inr ⟨q1, by omega, q4⟩, by omega, by omega⟩
theorem chn_neg : chn M k (-1) = [] := by
  cases k with
  | zero => rfl
  | succ k => exact if_pos (by decide)
theorem chn_ok (hI : pI M) : ∀ (k : Nat) (x : Int), ctx M x → x < (k : Int) → a_chain (yq M) x (chn M k x)
  | 0, x, h, hk => by
    rcases h with h | h
    · exact h
    · omega
  | k + 1, x, h, hk => by
    by_cases q : x < 0
    · have e : x = -1 := by
        rcases h with h | h
        · exact h
        · omega
      subst e
      rw [chn_neg]; rfl
    · have e : chn M (k + 1) x = x.toNat :: chn M k (M 10 x.toNat) := if_neg q
      have h3 := ctx_up hI h (by omega)
      rw [e]
      exact ⟨by omega, chn_ok hI k (M 10 x.toNat) h3.1 (by omega)⟩
theorem chn_in (hI : pI M) : ∀ (k : Nat) (x : Int), ctx M x → ∀ c, c ∈ chn M k x → (c : Int) ≤ x ∧ (c : Int) < M 1 7 ∧ M 7 c = 12
  | 0, x, h, c, hc => absurd hc List.not_mem_nil
  | k + 1, x, h, c, hc => by
    by_cases q : x < 0
    · have e : chn M (k + 1) x = [] := if_pos q
      rw [e] at hc
      exact absurd hc List.not_mem_nil
    · have e : chn M (k + 1) x = x.toNat :: chn M k (M 10 x.toNat) := if_neg q
      have h3 := ctx_up hI h (by omega)
      rw [e] at hc
      rcases List.mem_cons.mp hc with hc | hc
      · subst hc
        rcases h with h | h
        · omega
        · exact ⟨by omega, by omega, h.2.2⟩
      · have := chn_in hI k _ h3.1 c hc
        exact ⟨by omega, this.2⟩
theorem chain_eq {q : Nat → Nat → Int} : ∀ {cs ds : List Nat} {x : Int}, a_chain q x cs → a_chain q x ds → cs = ds
  | [], [], _, _, _ => rfl
  | [], d :: ds, x, h1, h2 => by have h1 : x = -1 := h1; have := h2.1; omega
  | c :: cs, [], x, h1, h2 => by have h2 : x = -1 := h2; have := h1.1; omega
  | c :: cs, d :: ds, x, h1, h2 => by
    have e : c = d := by have := h1.1; have := h2.1; omega
    subst e
    rw [chain_eq h1.2 h2.2]
theorem f124 (hx : x = -1 ∨ (0 ≤ x ∧ x < 90)) (hs : ysm (M 17 x.toNat)) : f_124 M x = if npt M x then 1 else 0 := by
  unfold f_124
  rw [rel0 ⟨by omega, by omega⟩ ⟨by decide, by decide⟩]
  by_cases q : x = -1
  · rw [cond_dt q, if_neg (fun h => h.1 q)]
  · rw [cond_df q, rd7x ⟨by decide, by decide⟩ (by omega) (by omega), rel1 hs ⟨by decide, by decide⟩]
    by_cases q2 : M 17 x.toNat = 1
    · rw [decide_eq_true q2, Bool.not_true, cond_false, if_pos ⟨q, q2⟩]
    · rw [decide_eq_false q2, Bool.not_false, cond_true, if_neg (fun h => q2 h.2)]
theorem f109 (hx : x = -1 ∨ (0 ≤ x ∧ x < 90)) : f_109 M x = cpt M x := by
  unfold f_109 cpt
  rw [rel1 ⟨by omega, by omega⟩ ⟨by decide, by decide⟩]
  by_cases q : x = -1
  · rw [decide_eq_true q, Bool.not_true, cond_false, if_pos q]
  · rw [decide_eq_false q, Bool.not_false, cond_true, if_neg q, rd7x ⟨by decide, by decide⟩ (by omega) (by omega)]
theorem f138 (hx : x = -1 ∨ (0 ≤ x ∧ x < 8)) : f_138 M x = tpt M x := by
  unfold f_138 tpt
  rw [rel1 ⟨by omega, by omega⟩ ⟨by decide, by decide⟩]
  by_cases q : x = -1
  · rw [decide_eq_true q, Bool.not_true, cond_false, if_pos q]
  · rw [decide_eq_false q, Bool.not_false, cond_true, if_neg q, rd_in (by omega) (show x < 8 by omega)]
theorem f110_l (hI : pI M) : ∀ (k fu : Nat) (x2 x3 x4 : Int), ctx M x4 → x4 < (k : Int) → k ≤ 90 → k < fu → f_110_16 N fu M x1 x2 x3 x4 (k : Int) = f_110_46 N M x1 (opn M x2 (chn M k x4)) (ofc M x3 (chn M k x4))
  | k, 0, _, _, _, _, _, _, h => absurd h (by omega)
  | k, fu + 1, x2, x3, x4, h, hk, h9, hf => by
    have hr : -1 ≤ x4 := by rcases h with h | h <;> omega
    rw [f_110_16, rel2 ⟨by omega, by omega⟩ ⟨by decide, by decide⟩]
    by_cases q : x4 < 0
    · have e : x4 = -1 := by omega
      subst e
      rw [cond_dt q, chn_neg]; rfl
    · obtain ⟨k, rfl⟩ : ∃ k', k = k' + 1 := ⟨k - 1, by omega⟩
      have h3 := ctx_up hI h (by omega)
      have h7 : x4 < M 1 7 ∧ M 7 x4.toNat = 12 := by
        rcases h with h | h
        · omega
        · exact h.2
      have h8 := ((hI.2.2.2.1 x4.toNat (by omega)).2.2.2.2.2.2.2.2.2.1 h7.2).1
      have hnk := hI.2.2.1
      have h90 := hI.1
      rw [cond_df q, rel5 ⟨by omega, by omega⟩ ⟨by decide, by decide⟩, cond_df (by omega), ylet_eq, ylet_eq, ylet_eq, rd7x (a := 8) ⟨by decide, by decide⟩ (by omega) (by omega), rd7x (a := 16) ⟨by decide, by decide⟩ (by omega) (by omega), rd7x (a := 10) ⟨by decide, by decide⟩ (by omega) (by omega), rd_in (by omega) (show M 8 x4.toNat < 13 by omega), show ((k + 1 : Nat) : Int) + -1 = (k : Int) by omega]
      have e : chn M (k + 1) x4 = x4.toNat :: chn M k (M 10 x4.toNat) := if_neg q
      rw [f110_l hI k fu _ _ _ h3.1 (by omega) (by omega) (by omega), e]; rfl
theorem nv01 {P : Prop} [Decidable P] : ysm (if P then 1 else 0) := by
  by_cases q : P
  · rw [if_pos q]; exact ⟨by decide, by decide⟩
  · rw [if_neg q]; exact ⟨by decide, by decide⟩
theorem bo_01 {P : Prop} [Decidable P] {β : Type} {K : Option β} : ybo (if P then 1 else 0) K = K := by
  unfold ybo
  by_cases q : P
  · rw [if_pos q]; exact if_pos (Or.inr rfl)
  · rw [if_neg q]; exact if_pos (Or.inl rfl)
theorem f133_l (hI : pI M) (hs : ∀ j : Nat, (j : Int) < (w : Int) → ysm (M 17 j)) : ∀ (k fu : Nat) (P : Prop) [Decidable P] (x3 : Int), ctx M x3 → x3 < (k : Int) → x3 < (w : Int) → k ≤ 90 → k < fu → f_133_14 N fu M (if P then 1 else 0) x3 (k : Int) = some (if P ∧ ∀ c, c ∈ chn M k x3 → M 17 c = 1 then 1 else 0)
  | k, 0, _, _, _, _, _, _, _, h => absurd h (by omega)
  | k, fu + 1, P, _, x3, h, hk, hw, h9, hf => by
    have hr : -1 ≤ x3 := by rcases h with h | h <;> omega
    rw [f_133_14, rel2 ⟨by omega, by omega⟩ ⟨by decide, by decide⟩]
    by_cases q : x3 < 0
    · have e : x3 = -1 := by omega
      subst e
      rw [cond_dt q, chn_neg, bo_01]
      by_cases p : P
      · rw [if_pos p, if_pos ⟨p, fun c hc => absurd hc List.not_mem_nil⟩]
      · rw [if_neg p, if_neg (fun h => p h.1)]
    · obtain ⟨k, rfl⟩ : ∃ k', k = k' + 1 := ⟨k - 1, by omega⟩
      have h3 := ctx_up hI h (by omega)
      have h7 : x3 < M 1 7 ∧ M 7 x3.toNat = 12 := by
        rcases h with h | h
        · omega
        · exact h.2
      have h90 := hI.1
      have e : chn M (k + 1) x3 = x3.toNat :: chn M k (M 10 x3.toNat) := if_neg q
      have h27 : ∀ (Q : Prop) [Decidable Q], f_133_27 N (f_133_14 N fu) M x3 ((k + 1 : Nat) : Int) (if Q then 1 else 0) = some (if Q ∧ ∀ c, c ∈ chn M k (M 10 x3.toNat) → M 17 c = 1 then 1 else 0) := by
        intro Q _
        unfold f_133_27
        rw [ylet_eq, rd7x ⟨by decide, by decide⟩ (by omega) (by omega), show ((k + 1 : Nat) : Int) + -1 = (k : Int) by omega]
        exact f133_l hI hs k fu Q _ h3.1 (by omega) (by omega) (by omega) (by omega)
      have h0 : f_133_26 N (f_133_14 N fu) M x3 ((k + 1 : Nat) : Int) = some 0 := by
        unfold f_133_26
        have := h27 False
        rw [if_neg id, if_neg (fun h => h.1)] at this
        exact this
      have h1 : f_133_27 N (f_133_14 N fu) M x3 ((k + 1 : Nat) : Int) 1 = some (if ∀ c, c ∈ chn M k (M 10 x3.toNat) → M 17 c = 1 then 1 else 0) := by
        have := h27 True
        rw [if_pos trivial] at this
        rw [this]
        congr 1
        exact ite_congr (propext ⟨fun h => h.2, fun h => ⟨trivial, h⟩⟩) (fun _ => rfl) (fun _ => rfl)
      rw [cond_df q, rel5 ⟨by omega, by omega⟩ ⟨by decide, by decide⟩, cond_df (by omega), rel0 nv01 ⟨by decide, by decide⟩, f124 (Or.inr ⟨by omega, by omega⟩) (hs _ (by omega)), rel0 nv01 ⟨by decide, by decide⟩, e]
      by_cases p : P
      · rw [if_pos p, cond_df (by decide)]
        by_cases p2 : npt M x3
        · rw [if_pos p2, cond_df (by decide), h1]
          congr 1
          refine ite_congr (propext ⟨fun h => ⟨p, fun c hc => ?_⟩, fun h c hc => h.2 c (List.mem_cons_of_mem _ hc)⟩) (fun _ => rfl) (fun _ => rfl)
          rcases List.mem_cons.mp hc with hc | hc
          · rw [hc]; exact p2.2
          · exact h c hc
        · rw [if_neg p2, cond_dt rfl, h0, if_neg (fun h => p2 ⟨by omega, h.2 _ List.mem_cons_self⟩)]
      · rw [if_neg p, cond_dt rfl, h0, if_neg (fun h => p h.1)]
end DvA
