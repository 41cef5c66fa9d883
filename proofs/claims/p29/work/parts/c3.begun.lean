/-! isFair, by the law: what is begun, what is called -/
def fQ (n0 q0 : Nat) (M : yM) (cc : Nat) (c rw ro : Nat → Nat) : Option Value → Nat → Nat → (Nat → zO) → Prop := fun u n' q' H' => u = some (.int (yi 1)) ∧ sJ n0 q0 M cc c rw ro H' n' q'
/-- all that isFair goes by -/
def fH (K : Nat) (M : yM) (mo de : Int) : Prop := fst' K M ∧ rnd M 196 mo de ∧ 1 ≤ mo ∧ mo ≤ 900 ∧ (∀ n : Nat, (n : Int) < M 1 7 → r13 M n)
section HrU
variable {sc : List Int32} {n q n0 q0 dd cc K : Nat} {H : Nat → zO} {M : yM} {c rw ro : Nat → Nat} {mo de : Int}
theorem f_l4 (hd : 320 ≤ dd) (hF : fst' K M) (hr : rnd M 196 mo de) (hmo : 1 ≤ mo ∧ mo ≤ 900) (h13 : ∀ n : Nat, (n : Int) < M 1 7 → r13 M n) (c60 : ∀ (L : zL) (n q : Nat) (H : Nat → zO), L 0 = some (.ref 0) → L 1 = some (.ref 416) → L 2 = some (.int (yi (M 209 0))) → L 3 = some (.int (yi (M 209 3))) → sJ n0 q0 M cc c rw ro H n q → hG sc zg_c155 zg_w155 dd 60 L [] n q H (fQ n0 q0 M cc c rw ro)) : ∀ (g k : Nat) (L : zL) (n q : Nat) (H : Nat → zO), k + g = (M 1 7).toNat → L 0 = some (.ref 0) → L 1 = some (.ref 416) → L 2 = some (.int (yi (M 209 0))) → L 3 = some (.int (yi (a_sum (M 212) k))) → L 4 = some (.int (yi (k : Int))) → sJ n0 q0 M cc c rw ro H n q → hG sc zg_c155 zg_w155 dd 4 L [] n q H (fQ n0 q0 M cc c rw ro) := by
  have hI := hF.1.1
  have h90 := hI.1
  have e16 : ∀ n : Nat, n < 90 → 0 ≤ M 212 n ∧ (0 < M 212 n → M 13 n ≠ -1) := hr.2.1.1
  have e3 : a_sum (M 212) (M 1 7).toNat = M 209 3 := hr.2.1.2
  have e0 : M 209 0 = 0 ∨ M 209 0 = 1 ∨ M 209 0 = 2 := hr.1.1
  have eT : M 209 0 ≠ 2 → ∀ k f : Nat, k < 90 → f < 90 → M 7 k = 11 → M 8 k = (f : Int) → M 212 f = M 212 k := hr.2.2.2.1
  have le3 : ∀ n, n < 90 → n < (M 1 7).toNat → M 212 n ≤ 1000 := fun n h1 h2 => by
    have h := sum_ge (g := fun i => if i < 90 then M 212 i else 0) (fun i => by
      by_cases h : i < 90
      · show 0 ≤ (if i < 90 then M 212 i else 0)
        rw [if_pos h]; exact (e16 i h).1
      · show 0 ≤ (if i < 90 then M 212 i else 0)
        rw [if_neg h]; exact Int.le_refl 0) (M 1 7).toNat h2
    rw [sum_same (g := M 212) fun i hi => if_pos (by omega), e3, if_pos h1] at h
    have : M 209 3 ≤ mo := hr.1.2.1.2
    omega
  intro g
  induction g with
  | zero =>
    intro k L n q H hk l0 l1 l2 l3 l4 hJ
    refine h_ld (t := 0) rfl (Or.inl ⟨rfl, Or.inr rfl⟩) l4 rfl ?_
    refine h_ld (t := 2) rfl (Or.inr (Or.inl ⟨rfl, Or.inl rfl⟩)) l1 rfl ?_
    refine h_lenJ hI hJ rfl rfl (Or.inl ⟨rfl, rfl⟩) ?_
    refine h_c3 rfl ⟨⟨by omega, by omega⟩, ⟨by omega, by omega⟩⟩ (fun _ => ?_) fun h => absurd h (by omega)
    rw [show k = (M 1 7).toNat by omega, e3] at l3
    exact c60 L n q H l0 l1 l2 l3 hJ
  | succ g ih =>
    intro k L n q H hk l0 l1 l2 l3 l4 hJ
    have hk7 : (k : Int) < M 1 7 := by omega
    have s7 := pI_sm hI hk7
    have g16 := e16 k (by omega)
    have gle := le3 k (by omega) (by omega)
    refine h_ld (t := 0) rfl (Or.inl ⟨rfl, Or.inr rfl⟩) l4 rfl ?_
    refine h_ld (t := 2) rfl (Or.inr (Or.inl ⟨rfl, Or.inl rfl⟩)) l1 rfl ?_
    refine h_lenJ hI hJ rfl rfl (Or.inl ⟨rfl, rfl⟩) ?_
    refine h_c3 rfl ⟨⟨by omega, by omega⟩, ⟨by omega, by omega⟩⟩ (fun h => absurd h (by omega)) fun _ => ?_
    refine h_ld (t := 2) rfl (Or.inr (Or.inl ⟨rfl, Or.inl rfl⟩)) l1 rfl ?_
    refine h_nodeJ hI hJ hk7 rfl rfl rfl l4 ?_
    refine h_st (t := 2) rfl (Or.inr ⟨rfl, Or.inr rfl⟩) rfl ?_
    refine h_ld (t := 0) rfl (Or.inl ⟨rfl, Or.inl rfl⟩) (l_ki (by decide) l3) rfl ?_
    refine h_ld (t := 2) rfl (Or.inr (Or.inl ⟨rfl, Or.inl rfl⟩)) (l_kr (by decide) l0) rfl ?_
    refine h_ld (t := 0) rfl (Or.inl ⟨rfl, Or.inr rfl⟩) (l_ki (by decide) l4) rfl ?_
    refine h_ic (b := 7) rfl (by decide) (by decide) ?_
    refine h_api (as := [.int (yi (k : Int)), .int (yi 7)]) (S := [.int (yi (a_sum (M 212) k))]) rfl (by decide) rfl (Nat.le_of_ble_eq_true rfl) hJ (y_19_7 (K := K) (by omega) hF ⟨by omega, hk7⟩) fun n1 q1 H1 h1 => ?_
    rw [Int.toNat_natCast]
    refine h_add rfl ?_
    refine h_st (t := 0) rfl (Or.inl ⟨rfl, Or.inl rfl⟩) rfl ?_
    have c58 : ∀ (L : zL) (n q : Nat) (H : Nat → zO), L 0 = some (.ref 0) → L 1 = some (.ref 416) → L 2 = some (.int (yi (M 209 0))) → L 3 = some (.int (yi (a_sum (M 212) (k + 1)))) → L 4 = some (.int (yi (k : Int))) → sJ n0 q0 M cc c rw ro H n q → hG sc zg_c155 zg_w155 dd 58 L [] n q H (fQ n0 q0 M cc c rw ro) := by
      intro L n q H m0 m1 m2 m3 m4 hJ
      refine h_inc (c := 1) rfl m4 (by decide) ?_
      refine h_go rfl ?_
      exact ih (k + 1) _ n q H (by omega) (l_kr (by decide) m0) (l_kr (by decide) m1) (l_ki (by decide) m2) (l_ki (by decide) m3) l_s hJ
    have c46 : ∀ (L : zL) (n q : Nat) (H : Nat → zO), L 0 = some (.ref 0) → L 1 = some (.ref 416) → L 2 = some (.int (yi (M 209 0))) → L 3 = some (.int (yi (a_sum (M 212) (k + 1)))) → L 4 = some (.int (yi (k : Int))) → sJ n0 q0 M cc c rw ro H n q → hG sc zg_c155 zg_w155 dd 46 L [] n q H (fQ n0 q0 M cc c rw ro) := by
      intro L n q H m0 m1 m2 m3 m4 hJ
      refine h_ld (t := 2) rfl (Or.inr (Or.inl ⟨rfl, Or.inl rfl⟩)) m0 rfl ?_
      refine h_ld (t := 0) rfl (Or.inl ⟨rfl, Or.inr rfl⟩) m4 rfl ?_
      refine h_ic (b := 4) rfl (by decide) (by decide) ?_
      refine h_api (as := [.int (yi (k : Int)), .int (yi 4)]) (S := []) rfl (by decide) rfl (Nat.le_of_ble_eq_true rfl) hJ (y_19_4 (K := K) (by omega) hF ⟨by omega, hk7⟩) fun n2 q2 H2 h2 => ?_
      rw [Int.toNat_natCast]
      have g13 := h13 k hk7
      unfold r13 at g13
      have h8 := hI.2.1
      refine h_b3 rfl ⟨by omega, by omega⟩ (fun _ => c58 L n2 q2 H2 m0 m1 m2 m3 m4 h2) fun hlt => ?_
      refine h_ld (t := 2) rfl (Or.inr (Or.inl ⟨rfl, Or.inl rfl⟩)) m0 rfl ?_
      refine h_ld (t := 0) rfl (Or.inl ⟨rfl, Or.inr rfl⟩) m4 rfl ?_
      refine h_ic (b := 7) rfl (by decide) (by decide) ?_
      refine h_api (as := [.int (yi (k : Int)), .int (yi 7)]) (S := []) rfl (by decide) rfl (Nat.le_of_ble_eq_true rfl) h2 (y_19_7 (K := K) (by omega) hF ⟨by omega, hk7⟩) fun n3 q3 H3 h3 => ?_
      rw [Int.toNat_natCast]
      exact h_b5 rfl ⟨by omega, by omega⟩ (fun _ => c58 L n3 q3 H3 m0 m1 m2 m3 m4 h3) fun hp => absurd (g16.2 hp) (by omega)
    refine h_ld (t := 0) rfl (Or.inl ⟨rfl, Or.inl rfl⟩) (l_ki (by decide) (l_ki (by decide) l2)) rfl ?_
    refine h_ic (b := 2) rfl (by decide) (by decide) ?_
    refine h_c3 rfl ⟨⟨by omega, by omega⟩, ⟨by omega, by omega⟩⟩ (fun _ => c46 _ n1 q1 H1 (l_kr (by decide) (l_kr (by decide) l0)) (l_kr (by decide) (l_kr (by decide) l1)) (l_ki (by decide) (l_ki (by decide) l2)) l_s (l_ki (by decide) (l_ki (by decide) l4)) h1) fun t2 => ?_
    refine h_ld (t := 2) rfl (Or.inr (Or.inl ⟨rfl, Or.inr rfl⟩)) (l_kr (by decide) l_s) rfl ?_
    refine h_ic (b := 0) rfl (by decide) (by decide) ?_
    refine h_rowJ (i := 0) h1 hk7 rfl (Or.inl ⟨rfl, rfl⟩) ?_
    refine h_ic (b := 11) rfl (by decide) (by decide) ?_
    refine h_c1 rfl ⟨s7.1, ⟨by decide, by decide⟩⟩ (fun _ => c46 _ n1 q1 H1 (l_kr (by decide) (l_kr (by decide) l0)) (l_kr (by decide) (l_kr (by decide) l1)) (l_ki (by decide) (l_ki (by decide) l2)) l_s (l_ki (by decide) (l_ki (by decide) l4)) h1) fun e11 => ?_
    refine h_ld (t := 2) rfl (Or.inr (Or.inl ⟨rfl, Or.inr rfl⟩)) (l_kr (by decide) l_s) rfl ?_
    refine h_ic (b := 1) rfl (by decide) (by decide) ?_
    refine h_rowJ (i := 1) h1 hk7 rfl (Or.inr ⟨rfl, rfl⟩) ?_
    refine h_b2 rfl (s7.2.1 e11) (fun _ => c46 _ n1 q1 H1 (l_kr (by decide) (l_kr (by decide) l0)) (l_kr (by decide) (l_kr (by decide) l1)) (l_ki (by decide) (l_ki (by decide) l2)) l_s (l_ki (by decide) (l_ki (by decide) l4)) h1) fun e8 => ?_
    obtain ⟨-, -, -, -, -, -, -, -, n11, -⟩ := hI.2.2.2.1 k hk7
    have lt8 : M 8 k < (k : Int) := by
      rcases (n11 e11).1 with h | h
      · omega
      · exact h.2.1
    refine h_ld (t := 2) rfl (Or.inr (Or.inl ⟨rfl, Or.inl rfl⟩)) (l_kr (by decide) (l_kr (by decide) l0)) rfl ?_
    refine h_ld (t := 2) rfl (Or.inr (Or.inl ⟨rfl, Or.inr rfl⟩)) (l_kr (by decide) l_s) rfl ?_
    refine h_ic (b := 1) rfl (by decide) (by decide) ?_
    refine h_rowJ (i := 1) h1 hk7 rfl (Or.inr ⟨rfl, rfl⟩) ?_
    refine h_ic (b := 7) rfl (by decide) (by decide) ?_
    refine h_api (as := [.int (yi (M 8 k)), .int (yi 7)]) (S := []) rfl (by decide) rfl (Nat.le_of_ble_eq_true rfl) h1 (y_19_7 (K := K) (by omega) hF ⟨e8, by omega⟩) fun n2 q2 H2 h2 => ?_
    refine h_ld (t := 2) rfl (Or.inr (Or.inl ⟨rfl, Or.inl rfl⟩)) (l_kr (by decide) (l_kr (by decide) l0)) rfl ?_
    refine h_ld (t := 0) rfl (Or.inl ⟨rfl, Or.inr rfl⟩) (l_ki (by decide) (l_ki (by decide) l4)) rfl ?_
    refine h_ic (b := 7) rfl (by decide) (by decide) ?_
    refine h_api (as := [.int (yi (k : Int)), .int (yi 7)]) (S := [.int (yi (M 212 (M 8 k).toNat))]) rfl (by decide) rfl (Nat.le_of_ble_eq_true rfl) h2 (y_19_7 (K := K) (by omega) hF ⟨by omega, hk7⟩) fun n3 q3 H3 h3 => ?_
    rw [Int.toNat_natCast, eT (by omega) k (M 8 k).toNat (by omega) (by omega) e11 (by omega)]
    exact h_eq0 rfl (c46 _ n3 q3 H3 (l_kr (by decide) (l_kr (by decide) l0)) (l_kr (by decide) (l_kr (by decide) l1)) (l_ki (by decide) (l_ki (by decide) l2)) l_s (l_ki (by decide) (l_ki (by decide) l4)) h3)
theorem f_l64 (hd : 320 ≤ dd) (hF : fst' K M) (hr : rnd M 196 mo de) (hmo : 1 ≤ mo ∧ mo ≤ 900) (h13 : ∀ n : Nat, (n : Int) < M 1 7 → r13 M n) (c78 : ∀ (L : zL) (n q : Nat) (H : Nat → zO), L 0 = some (.ref 0) → L 1 = some (.ref 416) → L 2 = some (.int (yi (M 209 0))) → L 3 = some (.int (yi (M 209 3))) → L 4 = some (.int (yi (M 209 5))) → sJ n0 q0 M cc c rw ro H n q → hG sc zg_c155 zg_w155 dd 78 L [] n q H (fQ n0 q0 M cc c rw ro)) : ∀ (g k : Nat) (L : zL) (n q : Nat) (H : Nat → zO), k + g = (M 1 4).toNat → L 0 = some (.ref 0) → L 1 = some (.ref 416) → L 2 = some (.int (yi (M 209 0))) → L 3 = some (.int (yi (M 209 3))) → L 4 = some (.int (yi (a_sum (M 213) k))) → L 5 = some (.int (yi (k : Int))) → sJ n0 q0 M cc c rw ro H n q → hG sc zg_c155 zg_w155 dd 64 L [] n q H (fQ n0 q0 M cc c rw ro) := by
  have hI := hF.1.1
  have h8 := hI.2.1
  have e5 : a_sum (M 213) (M 1 4).toNat = M 209 5 := hr.2.2.1.2.1
  intro g
  induction g with
  | zero =>
    intro k L n q H hk l0 l1 l2 l3 l4 l5 hJ
    refine h_ld (t := 0) rfl (Or.inl ⟨rfl, Or.inr rfl⟩) l5 rfl ?_
    refine h_ld (t := 2) rfl (Or.inr (Or.inl ⟨rfl, Or.inl rfl⟩)) l1 rfl ?_
    refine h_lenJ hI hJ rfl rfl (Or.inr ⟨rfl, rfl⟩) ?_
    refine h_c3 rfl ⟨⟨by omega, by omega⟩, ⟨by omega, by omega⟩⟩ (fun _ => ?_) fun h => absurd h (by omega)
    rw [show k = (M 1 4).toNat by omega, e5] at l4
    exact c78 L n q H l0 l1 l2 l3 l4 hJ
  | succ g ih =>
    intro k L n q H hk l0 l1 l2 l3 l4 l5 hJ
    refine h_ld (t := 0) rfl (Or.inl ⟨rfl, Or.inr rfl⟩) l5 rfl ?_
    refine h_ld (t := 2) rfl (Or.inr (Or.inl ⟨rfl, Or.inl rfl⟩)) l1 rfl ?_
    refine h_lenJ hI hJ rfl rfl (Or.inr ⟨rfl, rfl⟩) ?_
    refine h_c3 rfl ⟨⟨by omega, by omega⟩, ⟨by omega, by omega⟩⟩ (fun h => absurd h (by omega)) fun _ => ?_
    refine h_ld (t := 0) rfl (Or.inl ⟨rfl, Or.inr rfl⟩) l4 rfl ?_
    refine h_ld (t := 2) rfl (Or.inr (Or.inl ⟨rfl, Or.inl rfl⟩)) l0 rfl ?_
    refine h_ld (t := 0) rfl (Or.inl ⟨rfl, Or.inr rfl⟩) l5 rfl ?_
    refine h_ic (b := 5) rfl (by decide) (by decide) ?_
    refine h_api (as := [.int (yi (k : Int)), .int (yi 5)]) (S := [.int (yi (a_sum (M 213) k))]) rfl (by decide) rfl (Nat.le_of_ble_eq_true rfl) hJ (y_20_5 (K := K) (by omega) hF ⟨by omega, by omega⟩) fun n1 q1 H1 h1 => ?_
    rw [Int.toNat_natCast]
    refine h_add rfl ?_
    refine h_st (t := 0) rfl (Or.inl ⟨rfl, Or.inr rfl⟩) rfl ?_
    refine h_inc (c := 1) rfl (l_ki (by decide) l5) (by decide) ?_
    refine h_go rfl ?_
    exact ih (k + 1) _ n1 q1 H1 (by omega) (l_kr (by decide) (l_kr (by decide) l0)) (l_kr (by decide) (l_kr (by decide) l1)) (l_ki (by decide) (l_ki (by decide) l2)) (l_ki (by decide) (l_ki (by decide) l3)) (l_ki (by decide) l_s) l_s h1
end HrU
