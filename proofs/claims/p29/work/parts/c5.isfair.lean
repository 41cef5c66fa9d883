/-! isFair, by the law -/
section HrW
variable {sc : List Int32} {C : List zI} {W : List (List Nat)} {n q n0 q0 dd j cc K : Nat} {H : Nat → zO} {M : yM} {c rw ro : Nat → Nat} {mo de t2 : Int} {L : zL} {S : List Value} {Q : Option Value → Nat → Nat → (Nat → zO) → Prop} {pc ln x y z w : Nat} {a b : Int}
theorem h_min (hc : C[j]? = some (pc, ln, 110, x, y, z, w)) (hd : 1 ≤ dd) (h4 : zwd S ≤ 8) (hb : ysm a ∧ ysm b) (hk : hG sc C W dd (j + 1) L (.int (yi (if b < a then b else a)) :: S) n q H Q) : hG sc C W dd j L (.int (yi b) :: .int (yi a) :: S) n q H Q := by
  refine h_lift hk fun _ _ _ _ h => r_min hc hd h4 ?_
  have ea : (yi a).toInt = a := sm_w hb.1
  have eb : (yi b).toInt = b := sm_w hb.2
  by_cases hq : b < a
  · rw [if_pos (Int32.lt_iff_toInt_lt.mpr (by omega))]
    rw [if_pos hq] at h; exact h
  · rw [if_neg (fun q => hq (by have := Int32.lt_iff_toInt_lt.mp q; omega))]
    rw [if_neg hq] at h; exact h
theorem sum_cut {f : Nat → Int} {k : Nat} (h : ∀ i, k ≤ i → f i = 0) : ∀ d : Nat, a_sum f (k + d) = a_sum f k
  | 0 => rfl
  | d + 1 => by
    show a_sum f (k + d) + f (k + d) = _
    rw [sum_cut h d, h (k + d) (by omega), Int.add_zero]
theorem sum_kp {kp : Nat} (hkp : kp ≤ 40) (hk1 : (kp : Int) ≤ M 197 0) (hk2 : kp = 40 ∨ (kp : Int) = M 197 0) : a_sum (M 204) kp = r_sum M 196 := by
  have e : a_sum (M 204) kp = a_sum (fun k => if (k : Int) < M 197 0 then M 204 k else 0) kp := (sum_same fun i hi => (if_pos (by omega)).symm)
  rcases hk2 with h | h
  · rw [e, h]; rfl
  · rw [e]
    obtain ⟨d, hd⟩ : ∃ d, 40 = kp + d := ⟨40 - kp, by omega⟩
    show _ = a_sum (fun k => if (k : Int) < M 197 0 then M 204 k else 0) 40
    rw [hd]
    exact (sum_cut (fun i hi => if_neg (by omega)) d).symm
theorem f_l106 (hd : 320 ≤ dd) (hK : 10000 ≤ K) (hF : fst' K M) (hr : rnd M 196 mo de) {kp : Nat} (hkp : kp ≤ 40) (hk1 : (kp : Int) ≤ M 197 0) (hk2 : kp = 40 ∨ (kp : Int) = M 197 0) (c174 : ∀ (L : zL) (n q : Nat) (H : Nat → zO), L 0 = some (.ref 0) → L 1 = some (.ref 416) → L 2 = some (.int (yi t2)) → L 5 = some (.int (yi (kp : Int))) → L 6 = some (.int (yi (a_sum (M 204) kp))) → sJ n0 q0 M cc c rw ro H n q → hG sc zg_c155 zg_w155 dd 174 L [] n q H (fQ n0 q0 M cc c rw ro)) : ∀ (g k : Nat) (L : zL) (n q : Nat) (H : Nat → zO), k + g = kp → L 0 = some (.ref 0) → L 1 = some (.ref 416) → L 2 = some (.int (yi t2)) → L 5 = some (.int (yi (kp : Int))) → L 6 = some (.int (yi (a_sum (M 204) k))) → L 7 = some (.int (yi (k : Int))) → sJ n0 q0 M cc c rw ro H n q → hG sc zg_c155 zg_w155 dd 106 L [] n q H (fQ n0 q0 M cc c rw ro) := by
  have hI := hF.1.1
  have h90 := hI.1
  have m7x : M 197 0 ≤ 1000000 := hr.2.2.2.2.1.2.2.2.1
  intro g
  induction g with
  | zero =>
    intro k L n q H hk l0 l1 l2 l5 l6 l7 hJ
    refine h_ld (t := 0) rfl (Or.inl ⟨rfl, Or.inr rfl⟩) l7 rfl ?_
    refine h_ld (t := 0) rfl (Or.inl ⟨rfl, Or.inr rfl⟩) l5 rfl ?_
    refine h_c3 rfl ⟨⟨by omega, by omega⟩, ⟨by omega, by omega⟩⟩ (fun _ => ?_) fun h => absurd h (by omega)
    rw [show k = kp by omega] at l6
    exact c174 L n q H l0 l1 l2 l5 l6 hJ
  | succ g ih =>
    intro k L n q H hk l0 l1 l2 l5 l6 l7 hJ
    have hkk : k < kp := by omega
    have b36 := hr.2.2.2.2.2.2.1.2.2.1 k (by omega) (by show (k : Int) < M 197 0; omega)
    have c165 : ∀ (L : zL) (n q : Nat) (H : Nat → zO), L 0 = some (.ref 0) → L 1 = some (.ref 416) → L 2 = some (.int (yi t2)) → L 5 = some (.int (yi (kp : Int))) → L 6 = some (.int (yi (a_sum (M 204) k))) → L 7 = some (.int (yi (k : Int))) → sJ n0 q0 M cc c rw ro H n q → hG sc zg_c155 zg_w155 dd 165 L [] n q H (fQ n0 q0 M cc c rw ro) := by
      intro L n q H m0 m1 m2 m5 m6 m7 hJ
      refine h_ld (t := 0) rfl (Or.inl ⟨rfl, Or.inr rfl⟩) m6 rfl ?_
      refine h_ld (t := 2) rfl (Or.inr (Or.inl ⟨rfl, Or.inl rfl⟩)) m0 rfl ?_
      refine h_ld (t := 0) rfl (Or.inl ⟨rfl, Or.inr rfl⟩) m7 rfl ?_
      refine h_ic (b := 3) rfl (by decide) (by decide) ?_
      refine h_api (as := [.int (yi (k : Int)), .int (yi 3)]) (S := [.int (yi (a_sum (M 204) k))]) rfl (by decide) rfl (Nat.le_of_ble_eq_true rfl) hJ (y_10_3 (by omega) (by omega) m7x (by omega) (by omega)) fun n1 q1 H1 h1 => ?_
      rw [Int.toNat_natCast]
      refine h_add rfl ?_
      refine h_st (t := 0) rfl (Or.inl ⟨rfl, Or.inr rfl⟩) rfl ?_
      refine h_inc (c := 1) rfl (l_ki (by decide) m7) (by decide) ?_
      refine h_go rfl ?_
      exact ih (k + 1) _ n1 q1 H1 (by omega) (l_kr (by decide) (l_kr (by decide) m0)) (l_kr (by decide) (l_kr (by decide) m1)) (l_ki (by decide) (l_ki (by decide) m2)) (l_ki (by decide) (l_ki (by decide) m5)) (l_ki (by decide) l_s) l_s h1
    have c132 : ∀ (L : zL) (n q : Nat) (H : Nat → zO), L 0 = some (.ref 0) → L 1 = some (.ref 416) → L 2 = some (.int (yi t2)) → L 5 = some (.int (yi (kp : Int))) → L 6 = some (.int (yi (a_sum (M 204) k))) → L 7 = some (.int (yi (k : Int))) → sJ n0 q0 M cc c rw ro H n q → hG sc zg_c155 zg_w155 dd 132 L [] n q H (fQ n0 q0 M cc c rw ro) := by
      intro L n q H m0 m1 m2 m5 m6 m7 hJ
      have b37 : 0 ≤ M 203 (6 * k) ∧ M 203 (6 * k) < M 1 7 := b36.2.1
      refine h_ld (t := 2) rfl (Or.inr (Or.inl ⟨rfl, Or.inl rfl⟩)) m0 rfl ?_
      refine h_ld (t := 0) rfl (Or.inl ⟨rfl, Or.inr rfl⟩) m7 rfl ?_
      refine h_ic (b := 0) rfl (by decide) (by decide) ?_
      refine h_api (as := [.int (yi (k : Int)), .int (yi 0)]) (S := []) rfl (by decide) rfl (Nat.le_of_ble_eq_true rfl) hJ (y_36 (by omega) (by omega) m7x (by omega) (by omega) (by rw [Int.toNat_natCast]; exact b36.1)) fun n1 q1 H1 h1 => ?_
      rw [Int.toNat_natCast]
      refine h_b2 rfl ⟨by omega, by omega⟩ (fun h => absurd h (by omega)) fun _ => ?_
      refine h_ld (t := 2) rfl (Or.inr (Or.inl ⟨rfl, Or.inl rfl⟩)) m0 rfl ?_
      refine h_ld (t := 0) rfl (Or.inl ⟨rfl, Or.inr rfl⟩) m7 rfl ?_
      refine h_ic (b := 0) rfl (by decide) (by decide) ?_
      refine h_api (as := [.int (yi (k : Int)), .int (yi 0)]) (S := []) rfl (by decide) rfl (Nat.le_of_ble_eq_true rfl) h1 (y_36 (by omega) (by omega) m7x (by omega) (by omega) (by rw [Int.toNat_natCast]; exact b36.1)) fun n2 q2 H2 h2 => ?_
      rw [Int.toNat_natCast]
      refine h_ld (t := 2) rfl (Or.inr (Or.inl ⟨rfl, Or.inl rfl⟩)) m1 rfl ?_
      refine h_lenJ hI h2 rfl rfl (Or.inl ⟨rfl, rfl⟩) ?_
      refine h_c2 rfl ⟨⟨by omega, by omega⟩, ⟨by omega, by omega⟩⟩ (fun _ => ?_) fun h => absurd h (by omega)
      refine h_ic (b := 0) rfl (by decide) (by decide) ?_
      refine h_st (t := 0) rfl (Or.inl ⟨rfl, Or.inr rfl⟩) rfl ?_
      exact f_l149 (t2 := t2) (be := a_sum (M 204) k) hd hF hr hkp hk1 hk2 hkk hK c165 _ 0 _ n2 q2 H2 (Nat.zero_add _) (l_kr (by decide) m0) (l_kr (by decide) m1) (l_ki (by decide) m2) (l_ki (by decide) m5) (l_ki (by decide) m6) (l_ki (by decide) m7) l_s h2
    refine h_ld (t := 0) rfl (Or.inl ⟨rfl, Or.inr rfl⟩) l7 rfl ?_
    refine h_ld (t := 0) rfl (Or.inl ⟨rfl, Or.inr rfl⟩) l5 rfl ?_
    refine h_c3 rfl ⟨⟨by omega, by omega⟩, ⟨by omega, by omega⟩⟩ (fun h => absurd h (by omega)) fun _ => ?_
    refine h_ld (t := 0) rfl (Or.inl ⟨rfl, Or.inr rfl⟩) l7 rfl ?_
    refine h_st (t := 0) rfl (Or.inl ⟨rfl, Or.inr rfl⟩) rfl ?_
    refine h_ic (b := 0) rfl (by decide) (by decide) ?_
    refine h_st (t := 0) rfl (Or.inl ⟨rfl, Or.inr rfl⟩) rfl ?_
    exact f_l113 (t2 := t2) (be := a_sum (M 204) k) hd hF hr hkp hk1 hk2 hkk c132 (kp + 1) 0 _ n q H (Nat.zero_add _) (l_kr (by decide) (l_kr (by decide) l0)) (l_kr (by decide) (l_kr (by decide) l1)) (l_ki (by decide) (l_ki (by decide) l2)) (l_ki (by decide) (l_ki (by decide) l5)) (l_ki (by decide) (l_ki (by decide) l6)) (l_ki (by decide) (l_ki (by decide) l7)) (l_ki (by decide) l_s) l_s hJ
theorem f_191 (hd : 320 ≤ dd) (hK : 10000 ≤ K) (hF : fst' K M) (hr : rnd M 196 mo de) {kp : Nat} (hkp : kp ≤ 40) (hk1 : (kp : Int) ≤ M 197 0) (hk2 : kp = 40 ∨ (kp : Int) = M 197 0) (hc : clo M) (l0 : L 0 = some (.ref 0)) (l1 : L 1 = some (.ref 416)) (l2 : L 2 = some (.int (yi (M 209 0)))) (l5 : L 5 = some (.int (yi (kp : Int)))) (hJ : sJ n0 q0 M cc c rw ro H n q) : hG sc zg_c155 zg_w155 dd 191 L [] n q H (fQ n0 q0 M cc c rw ro) := by
  have hI := hF.1.1
  have h90 := hI.1
  have m7 : M 197 0 ≤ 1000000 := hr.2.2.2.2.1.2.2.2.1
  have e0 : M 209 0 = 0 ∨ M 209 0 = 1 ∨ M 209 0 = 2 := hr.1.1
  have eL := hr.2.2.2.2.2.2.2
  refine h_ld (t := 2) rfl (Or.inr (Or.inl ⟨rfl, Or.inl rfl⟩)) l0 rfl ?_
  refine h_ic (b := 2) rfl (by decide) (by decide) ?_
  refine h_api (as := [.int (yi 2)]) (S := []) rfl (by decide) rfl (Nat.le_of_ble_eq_true rfl) hJ (y_21 (i := 2) (by omega) (by decide)) fun n1 q1 H1 h1 => ?_
  refine h_st (t := 0) rfl (Or.inl ⟨rfl, Or.inr rfl⟩) rfl ?_
  have r222 : ∀ L n q H, sJ n0 q0 M cc c rw ro H n q → hG sc zg_c155 zg_w155 dd 222 L [] n q H (fQ n0 q0 M cc c rw ro) := fun L n q H hJ => by
    refine h_ic (b := 1) rfl (by decide) (by decide) ?_
    refine h_go rfl ?_
    exact h_iret rfl rfl ⟨rfl, hJ⟩
  refine h_ld (t := 0) rfl (Or.inl ⟨rfl, Or.inl rfl⟩) (l_ki (by decide) l2) rfl ?_
  refine h_ic (b := 1) rfl (by decide) (by decide) ?_
  rcases eL with ⟨t1, t2, t3, t4⟩ | ⟨t1, t2⟩
  · skip
    have t1 : M 209 0 = 1 := t1
    have t2 : 0 ≤ M 209 2 := t2
    have t3 : M 209 2 < M 197 0 := t3
    refine h_c0 rfl ⟨⟨by omega, by omega⟩, ⟨by decide, by decide⟩⟩ (fun _ => ?_) fun h => absurd t1 h
    refine h_ic (b := 0) rfl (by decide) (by decide) ?_
    refine h_ld (t := 0) rfl (Or.inl ⟨rfl, Or.inr rfl⟩) l_s rfl ?_
    refine h_b3 rfl ⟨by omega, by omega⟩ (fun _ => ?_) fun h => absurd h (by omega)
    refine h_ic (b := 0) rfl (by decide) (by decide) ?_
    refine h_eq0 rfl ?_
    refine h_ld (t := 0) rfl (Or.inl ⟨rfl, Or.inr rfl⟩) l_s rfl ?_
    refine h_b2 rfl ⟨by omega, by omega⟩ (fun h => absurd h (by omega)) fun _ => ?_
    refine h_ld (t := 0) rfl (Or.inl ⟨rfl, Or.inr rfl⟩) l_s rfl ?_
    refine h_ld (t := 0) rfl (Or.inl ⟨rfl, Or.inr rfl⟩) (l_ki (by decide) l5) rfl ?_
    refine h_c3 rfl ⟨⟨by omega, by omega⟩, ⟨by omega, by omega⟩⟩ (fun _ => r222 _ _ _ _ h1) fun hlt => ?_
    refine h_ld (t := 2) rfl (Or.inr (Or.inl ⟨rfl, Or.inl rfl⟩)) (l_kr (by decide) l0) rfl ?_
    refine h_ld (t := 2) rfl (Or.inr (Or.inl ⟨rfl, Or.inl rfl⟩)) (l_kr (by decide) l1) rfl ?_
    refine h_ld (t := 2) rfl (Or.inr (Or.inl ⟨rfl, Or.inl rfl⟩)) (l_kr (by decide) l0) rfl ?_
    refine h_ld (t := 0) rfl (Or.inl ⟨rfl, Or.inr rfl⟩) l_s rfl ?_
    refine h_ic (b := 0) rfl (by decide) (by decide) ?_
    refine h_api (as := [.int (yi (M 209 2)), .int (yi 0)]) (S := [.ref 416, .ref 0]) rfl (by decide) rfl (Nat.le_of_ble_eq_true rfl) h1 (y_10_0 (by omega) t3 m7 t2 (by omega)) fun n2 q2 H2 h2 => ?_
    obtain ⟨k1, k2⟩ : 0 ≤ M 198 (M 209 2).toNat ∧ M 198 (M 209 2).toNat < M 1 0 := (hr.2.2.2.2.2.1.2 (M 209 2).toNat (by omega) (by show _ < M 197 0; omega)).2
    obtain ⟨kd, hkd⟩ : ∃ kd : Nat, M 198 (M 209 2).toNat = (kd : Int) := ⟨(M 198 (M 209 2).toNat).toNat, by omega⟩
    have t5 : kcP M (M 198 (M 209 2).toNat) ∨ cnP M (bdP M 0) (M 198 (M 209 2).toNat) := t4 (by show M 209 2 < 40; omega)
    rw [hkd] at t5 k2 ⊢
    have hT : tTd M kd := by
      rcases t5 with (h | ⟨i, h⟩) | ⟨h, h2, h3⟩
      · exact Or.inl ⟨by omega, by omega⟩
      · refine Or.inr (Or.inr ⟨i, ?_, h⟩)
        by_cases hi : (i : Int) < M 1 7
        · exact hi
        · have := hI.2.2.2.2.1 i (by omega)
          omega
      · refine Or.inr (Or.inl ?_)
        rw [Int.toNat_natCast] at h3
        exact hc 0 kd (by have := hI.2.1; omega) (by omega) h3
    obtain ⟨e1, e2, tr, hW, hO⟩ := id h2
    refine h_stat (as := [.ref 0, .ref 416, .int (yi (kd : Int))]) (S := []) rfl (by decide) rfl (Nat.le_of_ble_eq_true rfl) (hP_dd (dd := dd - 1 + 1) (by omega) (L_156 (dd := dd - 1) (by omega) hI hO k2 hT)) ?_
    rintro u3 n3 q3 H3 ⟨f1, f2, f3, f4⟩
    rw [f1, f2, f3, f4]
    exact h_b0 rfl ⟨by decide, by decide⟩ (fun h => absurd h (by decide)) fun _ => r222 _ _ _ _ h2
  · skip
    have t1 : M 209 0 ≠ 1 := t1
    have t2 : M 209 2 = -1 := t2
    refine h_c0 rfl ⟨⟨by omega, by omega⟩, ⟨by decide, by decide⟩⟩ (fun h => absurd h t1) fun _ => ?_
    refine h_ic (b := 1) rfl (by decide) (by decide) ?_
    refine h_go rfl ?_
    refine h_ld (t := 0) rfl (Or.inl ⟨rfl, Or.inr rfl⟩) l_s rfl ?_
    refine h_b3 rfl ⟨by omega, by omega⟩ (fun h => absurd h (by omega)) fun _ => ?_
    refine h_ic (b := 1) rfl (by decide) (by decide) ?_
    refine h_go rfl ?_
    refine h_eq0 rfl ?_
    refine h_ld (t := 0) rfl (Or.inl ⟨rfl, Or.inr rfl⟩) l_s rfl ?_
    exact h_b2 rfl ⟨by omega, by omega⟩ (fun _ => r222 _ _ _ _ h1) fun h => absurd h (by omega)
theorem f_174 (hd : 320 ≤ dd) (hK : 10000 ≤ K) (hF : fst' K M) (hr : rnd M 196 mo de) {kp : Nat} (hkp : kp ≤ 40) (hk1 : (kp : Int) ≤ M 197 0) (hk2 : kp = 40 ∨ (kp : Int) = M 197 0) (hc : clo M) (l0 : L 0 = some (.ref 0)) (l1 : L 1 = some (.ref 416)) (l2 : L 2 = some (.int (yi (M 209 0)))) (l5 : L 5 = some (.int (yi (kp : Int)))) (l6 : L 6 = some (.int (yi (a_sum (M 204) kp)))) (hJ : sJ n0 q0 M cc c rw ro H n q) : hG sc zg_c155 zg_w155 dd 174 L [] n q H (fQ n0 q0 M cc c rw ro) := by
  have hI := hF.1.1
  have h90 := hI.1
  have m7 : M 197 0 ≤ 1000000 := hr.2.2.2.2.1.2.2.2.1
  have es := sum_kp hkp hk1 hk2
  rw [es] at l6
  obtain ⟨j1, j2, j3, j4, j5, -⟩ := hr.2.2.2.2.2.2.1
  have e8 : M 209 8 = M 197 1 := hr.2.2.2.2.1.2.1
  have e6 : M 209 6 = M 197 0 := hr.2.2.2.2.1.1
  have s1 : M 197 1 ≤ 3000 := hr.2.2.2.2.1.2.2.2.2.2
  have j2 : 0 ≤ M 197 1 := j2
  have j4 : r_sum M 196 ≤ M 197 1 := j4
  have j5 : M 197 0 ≤ 40 → r_sum M 196 = M 197 1 := j5
  have j0 : 0 ≤ r_sum M 196 := by
    have h := sum_ge (g := fun k => if (k : Int) < M 197 0 ∧ k < 40 then M 204 k else 0) (fun i => by
      by_cases h : (i : Int) < M 197 0 ∧ i < 40
      · show 0 ≤ (if (i : Int) < M 197 0 ∧ i < 40 then M 204 i else 0)
        rw [if_pos h]; exact (c_204 hr h.1 h.2).1
      · show 0 ≤ (if (i : Int) < M 197 0 ∧ i < 40 then M 204 i else 0)
        rw [if_neg h]; exact Int.le_refl 0) (j := 0) 40 (by decide)
    have e : r_sum M 196 = a_sum (fun k => if (k : Int) < M 197 0 ∧ k < 40 then M 204 k else 0) 40 := sum_same fun i hi => by
      show (if (i : Int) < M 197 0 then M 204 i else 0) = _
      by_cases h : (i : Int) < M 197 0
      · rw [if_pos h, if_pos ⟨h, hi⟩]
      · rw [if_neg h, if_neg fun q => h q.1]
    rw [e]
    refine Int.le_trans ?_ h
    by_cases h : ((0 : Nat) : Int) < M 197 0 ∧ 0 < 40
    · rw [if_pos h]; exact (c_204 hr h.1 h.2).1
    · rw [if_neg h]; exact Int.le_refl 0
  have n191 : ∀ n q H, sJ n0 q0 M cc c rw ro H n q → hG sc zg_c155 zg_w155 dd 191 L [] n q H (fQ n0 q0 M cc c rw ro) := fun n q H hJ => f_191 hd hK hF hr hkp hk1 hk2 hc l0 l1 l2 l5 hJ
  refine h_ld (t := 0) rfl (Or.inl ⟨rfl, Or.inr rfl⟩) l6 rfl ?_
  refine h_ld (t := 2) rfl (Or.inr (Or.inl ⟨rfl, Or.inl rfl⟩)) l0 rfl ?_
  refine h_ic (b := 8) rfl (by decide) (by decide) ?_
  refine h_api (as := [.int (yi 8)]) (S := [.int (yi (r_sum M 196))]) rfl (by decide) rfl (Nat.le_of_ble_eq_true rfl) hJ (y_21 (i := 8) (by omega) (by decide)) fun n1 q1 H1 h1 => ?_
  refine h_c4 rfl ⟨⟨by omega, by omega⟩, ⟨by omega, by omega⟩⟩ (fun h => absurd h (by omega)) fun _ => ?_
  refine h_ld (t := 2) rfl (Or.inr (Or.inl ⟨rfl, Or.inl rfl⟩)) l0 rfl ?_
  refine h_ic (b := 6) rfl (by decide) (by decide) ?_
  refine h_api (as := [.int (yi 6)]) (S := []) rfl (by decide) rfl (Nat.le_of_ble_eq_true rfl) h1 (y_21 (i := 6) (by omega) (by decide)) fun n2 q2 H2 h2 => ?_
  refine h_ic (b := 40) rfl (by decide) (by decide) ?_
  refine h_c4 rfl ⟨⟨by omega, by omega⟩, ⟨by decide, by decide⟩⟩ (fun _ => n191 _ _ _ h2) fun h40 => ?_
  refine h_ld (t := 0) rfl (Or.inl ⟨rfl, Or.inr rfl⟩) l6 rfl ?_
  refine h_ld (t := 2) rfl (Or.inr (Or.inl ⟨rfl, Or.inl rfl⟩)) l0 rfl ?_
  refine h_ic (b := 8) rfl (by decide) (by decide) ?_
  refine h_api (as := [.int (yi 8)]) (S := [.int (yi (r_sum M 196))]) rfl (by decide) rfl (Nat.le_of_ble_eq_true rfl) h2 (y_21 (i := 8) (by omega) (by decide)) fun n3 q3 H3 h3 => ?_
  rw [e8, j5 (by omega)]
  exact h_eq0 rfl (n191 _ _ _ h3)
theorem L_155 (hd : 320 ≤ dd) (hK : 10000 ≤ K) (hF : fst' K M) (hr : rnd M 196 mo de) (hmo : 1 ≤ mo ∧ mo ≤ 900) (hkn : ∀ n : Nat, (n : Int) < M 1 7 → r13 M n) (hc : clo M) (hJ : sJ n0 q0 M cc c rw ro H n q) : hP sc (dd + 1) 155 [.ref 0, .ref 416, .int (yi (M 209 0))] n q H (fQ n0 q0 M cc c rw ro) := by
  have hI := hF.1.1
  have h90 := hI.1
  have m7 : M 197 0 ≤ 1000000 := hr.2.2.2.2.1.2.2.2.1
  have e6 : M 209 6 = M 197 0 := hr.2.2.2.2.1.1
  have n0' : 0 ≤ M 197 0 := hr.2.2.2.2.1.2.2.1
  have b17 : 1 ≤ M 213 0 ∧ M 213 0 ≤ 1000000 := hr.2.2.1.2.2
  have c78 : ∀ (L : zL) (n q : Nat) (H : Nat → zO), L 0 = some (.ref 0) → L 1 = some (.ref 416) → L 2 = some (.int (yi (M 209 0))) → L 3 = some (.int (yi (M 209 3))) → L 4 = some (.int (yi (M 209 5))) → sJ n0 q0 M cc c rw ro H n q → hG sc zg_c155 zg_w155 dd 78 L [] n q H (fQ n0 q0 M cc c rw ro) := by
    intro L n q H l0 l1 l2 l3 l4 hJ
    refine h_ld (t := 0) rfl (Or.inl ⟨rfl, Or.inl rfl⟩) l3 rfl ?_
    refine h_ld (t := 2) rfl (Or.inr (Or.inl ⟨rfl, Or.inl rfl⟩)) l0 rfl ?_
    refine h_ic (b := 3) rfl (by decide) (by decide) ?_
    refine h_api (as := [.int (yi 3)]) (S := [.int (yi (M 209 3))]) rfl (by decide) rfl (Nat.le_of_ble_eq_true rfl) hJ (y_21 (i := 3) (by omega) (by decide)) fun n1 q1 H1 h1 => ?_
    refine h_eq1 rfl ?_
    refine h_ld (t := 0) rfl (Or.inl ⟨rfl, Or.inr rfl⟩) l4 rfl ?_
    refine h_ld (t := 2) rfl (Or.inr (Or.inl ⟨rfl, Or.inl rfl⟩)) l0 rfl ?_
    refine h_ic (b := 5) rfl (by decide) (by decide) ?_
    refine h_api (as := [.int (yi 5)]) (S := [.int (yi (M 209 5))]) rfl (by decide) rfl (Nat.le_of_ble_eq_true rfl) h1 (y_21 (i := 5) (by omega) (by decide)) fun n2 q2 H2 h2 => ?_
    refine h_eq1 rfl ?_
    refine h_ld (t := 2) rfl (Or.inr (Or.inl ⟨rfl, Or.inl rfl⟩)) l0 rfl ?_
    refine h_ic (b := 0) rfl (by decide) (by decide) ?_
    refine h_ic (b := 5) rfl (by decide) (by decide) ?_
    refine h_api (as := [.int (yi 0), .int (yi 5)]) (S := []) rfl (by decide) rfl (Nat.le_of_ble_eq_true rfl) h2 (y_20_5 (K := K) (v := 0) (by omega) hF ⟨by decide, by have := hI.2.1; omega⟩) fun n3 q3 H3 h3 => ?_
    rw [show (0 : Int).toNat = 0 from rfl]
    refine h_ic (b := 1) rfl (by decide) (by decide) ?_
    refine h_c3 rfl ⟨⟨by omega, by omega⟩, ⟨by decide, by decide⟩⟩ (fun _ => ?_) fun h => absurd h (by omega)
    refine h_ic (b := 40) rfl (by decide) (by decide) ?_
    refine h_ld (t := 2) rfl (Or.inr (Or.inl ⟨rfl, Or.inl rfl⟩)) l0 rfl ?_
    refine h_ic (b := 6) rfl (by decide) (by decide) ?_
    refine h_api (as := [.int (yi 6)]) (S := [.int (yi 40)]) rfl (by decide) rfl (Nat.le_of_ble_eq_true rfl) h3 (y_21 (i := 6) (by omega) (by decide)) fun n4 q4 H4 h4 => ?_
    refine h_min rfl (by omega) (Nat.le_of_ble_eq_true rfl) ⟨⟨by decide, by decide⟩, ⟨by omega, by omega⟩⟩ ?_
    obtain ⟨kp, hkp, k1, k2, k3⟩ : ∃ kp : Nat, (if M 209 6 < 40 then M 209 6 else 40) = (kp : Int) ∧ kp ≤ 40 ∧ (kp : Int) ≤ M 197 0 ∧ (kp = 40 ∨ (kp : Int) = M 197 0) := by
      by_cases h : M 209 6 < 40
      · exact ⟨(M 209 6).toNat, by rw [if_pos h]; omega, by omega, by omega, by omega⟩
      · exact ⟨40, by rw [if_neg h]; rfl, by omega, by omega, Or.inl rfl⟩
    rw [hkp]
    refine h_st (t := 0) rfl (Or.inl ⟨rfl, Or.inr rfl⟩) rfl ?_
    refine h_ic (b := 0) rfl (by decide) (by decide) ?_
    refine h_st (t := 0) rfl (Or.inl ⟨rfl, Or.inr rfl⟩) rfl ?_
    refine h_ic (b := 0) rfl (by decide) (by decide) ?_
    refine h_st (t := 0) rfl (Or.inl ⟨rfl, Or.inr rfl⟩) rfl ?_
    exact f_l106 (t2 := M 209 0) hd hK hF hr k1 k2 k3 (fun L n q H l0 l1 l2 l5 l6 hJ => f_174 hd hK hF hr k1 k2 k3 hc l0 l1 l2 l5 l6 hJ) kp 0 _ n4 q4 H4 (by omega) (l_kr (by decide) (l_kr (by decide) (l_kr (by decide) l0))) (l_kr (by decide) (l_kr (by decide) (l_kr (by decide) l1))) (l_ki (by decide) (l_ki (by decide) (l_ki (by decide) l2))) (l_ki (by decide) (l_ki (by decide) l_s)) (l_ki (by decide) l_s) l_s h4
  have c60 : ∀ (L : zL) (n q : Nat) (H : Nat → zO), L 0 = some (.ref 0) → L 1 = some (.ref 416) → L 2 = some (.int (yi (M 209 0))) → L 3 = some (.int (yi (M 209 3))) → sJ n0 q0 M cc c rw ro H n q → hG sc zg_c155 zg_w155 dd 60 L [] n q H (fQ n0 q0 M cc c rw ro) := by
    intro L n q H l0 l1 l2 l3 hJ
    refine h_ic (b := 0) rfl (by decide) (by decide) ?_
    refine h_st (t := 0) rfl (Or.inl ⟨rfl, Or.inr rfl⟩) rfl ?_
    refine h_ic (b := 0) rfl (by decide) (by decide) ?_
    refine h_st (t := 0) rfl (Or.inl ⟨rfl, Or.inr rfl⟩) rfl ?_
    exact f_l64 hd hF hr hmo hkn c78 (M 1 4).toNat 0 _ n q H (by omega) (l_kr (by decide) (l_kr (by decide) l0)) (l_kr (by decide) (l_kr (by decide) l1)) (l_ki (by decide) (l_ki (by decide) l2)) (l_ki (by decide) (l_ki (by decide) l3)) (l_ki (by decide) l_s) l_s hJ
  refine h_meth (C := zg_c155) (W := zg_w155) (ml := 10) rfl rfl (Nat.le_of_ble_eq_true rfl) ?_
  refine h_ic (b := 0) rfl (by decide) (by decide) ?_
  refine h_st (t := 0) rfl (Or.inl ⟨rfl, Or.inl rfl⟩) rfl ?_
  refine h_ic (b := 0) rfl (by decide) (by decide) ?_
  refine h_st (t := 0) rfl (Or.inl ⟨rfl, Or.inr rfl⟩) rfl ?_
  exact f_l4 hd hF hr hmo hkn c60 (M 1 7).toNat 0 _ n q H (by omega) rfl rfl rfl rfl l_s hJ
end HrW
