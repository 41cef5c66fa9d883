/-! isFair, by the law: each that is kept -/
section HrV
variable {sc : List Int32} {n q n0 q0 dd cc K : Nat} {H : Nat → zO} {M : yM} {c rw ro : Nat → Nat} {mo de be t2 : Int}
theorem c_rg (hr : rnd M 196 mo de) {k : Nat} (hk : (k : Int) < M 197 0) : ∀ i : Nat, ac_it (fun a => M (196 + a)) i (k : Int) = -1 ∨ (0 ≤ ac_it (fun a => M (196 + a)) i (k : Int) ∧ ac_it (fun a => M (196 + a)) i (k : Int) < M 197 0) := by
  intro i
  induction i with
  | zero => right; show (0 : Int) ≤ (k : Int) ∧ (k : Int) < M 197 0; omega
  | succ i ih =>
    rw [ac_succ]
    by_cases hK : ac_K (fun a => M (196 + a)) (ac_it (fun a => M (196 + a)) i (k : Int))
    · rw [ac_in hK]
      obtain ⟨h0, h4, h1⟩ := hK
      rcases (hr.2.2.2.2.2.1.2 (ac_it (fun a => M (196 + a)) i (k : Int)).toNat (by omega) (by show _ < M (196 + 1) 0; have : ac_it (fun a => M (196 + a)) i (k : Int) < M (196 + 1) 0 := h1; omega)).1 with q | q
      · left; exact q
      · right; exact q
    · left; exact ac_out hK
theorem c_204 (hr : rnd M 196 mo de) {k : Nat} (hk : (k : Int) < M 197 0) (h4 : k < 40) : 0 ≤ M 204 k ∧ M 204 k ≤ 3000 := by
  obtain ⟨-, -, -, -, ⟨-, -, -, q1, -, q2⟩, -, hJ, -⟩ := hr
  have q2' : M 197 1 ≤ 3000 := q2
  have h0 : 0 ≤ M 204 k := (hJ.2.2.1 k h4 hk).2.2
  obtain ⟨ow, li, hl⟩ := hJ.2.2.2.2.2 q2
  have hl := hl k h4 hk
  refine ⟨h0, ?_⟩
  by_cases hz : M 204 k = 0
  · omega
  · have e := li_ge (k := k) (li := li) (q := M 204 k) hl.2.2.2 (M 204 k - 1).toNat (by omega)
    have e2 : (li k (M 204 k - 1).toNat : Int) < M 197 1 := (hl.2.2.1 (M 204 k - 1).toNat (by show (((M 204 k - 1).toNat : Nat) : Int) < M 204 k; omega)).1
    omega
theorem f_l113 (hd : 320 ≤ dd) (hF : fst' K M) (hr : rnd M 196 mo de) {kp k : Nat} (hkp : kp ≤ 40) (hk1 : (kp : Int) ≤ M 197 0) (hk2 : kp = 40 ∨ (kp : Int) = M 197 0) (hk : k < kp) (c132 : ∀ (L : zL) (n q : Nat) (H : Nat → zO), L 0 = some (.ref 0) → L 1 = some (.ref 416) → L 2 = some (.int (yi t2)) → L 5 = some (.int (yi (kp : Int))) → L 6 = some (.int (yi be)) → L 7 = some (.int (yi (k : Int))) → sJ n0 q0 M cc c rw ro H n q → hG sc zg_c155 zg_w155 dd 132 L [] n q H (fQ n0 q0 M cc c rw ro)) : ∀ (g i : Nat) (L : zL) (n q : Nat) (H : Nat → zO), i + g = kp + 1 → L 0 = some (.ref 0) → L 1 = some (.ref 416) → L 2 = some (.int (yi t2)) → L 5 = some (.int (yi (kp : Int))) → L 6 = some (.int (yi be)) → L 7 = some (.int (yi (k : Int))) → L 8 = some (.int (yi (ac_it (fun a => M (196 + a)) i (k : Int)))) → L 9 = some (.int (yi (i : Int))) → sJ n0 q0 M cc c rw ro H n q → hG sc zg_c155 zg_w155 dd 113 L [] n q H (fQ n0 q0 M cc c rw ro) := by
  have hI := hF.1.1
  have h90 := hI.1
  have m7 : M 197 0 ≤ 1000000 := hr.2.2.2.2.1.2.2.2.1
  have rg := c_rg hr (k := k) (by omega)
  have c130 : ∀ (L : zL) (n q : Nat) (H : Nat → zO) (at1 : Int), at1 < 0 ∧ -1 ≤ at1 → L 0 = some (.ref 0) → L 1 = some (.ref 416) → L 2 = some (.int (yi t2)) → L 5 = some (.int (yi (kp : Int))) → L 6 = some (.int (yi be)) → L 7 = some (.int (yi (k : Int))) → L 8 = some (.int (yi at1)) → sJ n0 q0 M cc c rw ro H n q → hG sc zg_c155 zg_w155 dd 130 L [] n q H (fQ n0 q0 M cc c rw ro) := by
    intro L n q H at1 ha l0 l1 l2 l5 l6 l7 l8 hJ
    refine h_ld (t := 0) rfl (Or.inl ⟨rfl, Or.inr rfl⟩) l8 rfl ?_
    exact h_b3 rfl ⟨by omega, by omega⟩ (fun h => absurd h (by omega)) fun _ => c132 L n q H l0 l1 l2 l5 l6 l7 hJ
  have e1 : ac_it (fun a => M (196 + a)) (kp + 1) (k : Int) = -1 := by
    rw [ac_succ]
    exact ac_out (c_end2 hr hkp hk2)
  intro g
  induction g with
  | zero =>
    intro i L n q H hi l0 l1 l2 l5 l6 l7 l8 l9 hJ
    rw [show i = kp + 1 by omega, e1] at l8
    refine h_ld (t := 0) rfl (Or.inl ⟨rfl, Or.inr rfl⟩) l8 rfl ?_
    exact h_b2 rfl ⟨by decide, by decide⟩ (fun _ => c130 L n q H (-1) (by decide) l0 l1 l2 l5 l6 l7 l8 hJ) fun h => absurd h (by decide)
  | succ g ih =>
    intro i L n q H hi l0 l1 l2 l5 l6 l7 l8 l9 hJ
    have rgi := rg i
    refine h_ld (t := 0) rfl (Or.inl ⟨rfl, Or.inr rfl⟩) l8 rfl ?_
    refine h_b2 rfl ⟨by omega, by omega⟩ (fun h => c130 L n q H _ ⟨h, by omega⟩ l0 l1 l2 l5 l6 l7 l8 hJ) fun h0 => ?_
    refine h_ld (t := 0) rfl (Or.inl ⟨rfl, Or.inr rfl⟩) l9 rfl ?_
    refine h_ld (t := 0) rfl (Or.inl ⟨rfl, Or.inr rfl⟩) l5 rfl ?_
    refine h_c4 rfl ⟨⟨by omega, by omega⟩, ⟨by omega, by omega⟩⟩ (fun h => absurd h (by omega)) fun _ => ?_
    have c127 : ∀ (n q : Nat) (H : Nat → zO), sJ n0 q0 M cc c rw ro H n q → hG sc zg_c155 zg_w155 dd 127 L [.int (yi (ac_it (fun a => M (196 + a)) (i + 1) (k : Int)))] n q H (fQ n0 q0 M cc c rw ro) := by
      intro n q H hJ
      refine h_st (t := 0) rfl (Or.inl ⟨rfl, Or.inr rfl⟩) rfl ?_
      refine h_inc (c := 1) rfl (l_ki (by decide) l9) (by decide) ?_
      refine h_go rfl ?_
      exact ih (i + 1) _ n q H (by omega) (l_kr (by decide) (l_kr (by decide) l0)) (l_kr (by decide) (l_kr (by decide) l1)) (l_ki (by decide) (l_ki (by decide) l2)) (l_ki (by decide) (l_ki (by decide) l5)) (l_ki (by decide) (l_ki (by decide) l6)) (l_ki (by decide) (l_ki (by decide) l7)) (l_ki (by decide) l_s) l_s hJ
    refine h_ld (t := 0) rfl (Or.inl ⟨rfl, Or.inr rfl⟩) l8 rfl ?_
    refine h_ld (t := 0) rfl (Or.inl ⟨rfl, Or.inr rfl⟩) l5 rfl ?_
    refine h_c3 rfl ⟨⟨by omega, by omega⟩, ⟨by omega, by omega⟩⟩ (fun hge => ?_) fun hlt => ?_
    · skip
      refine h_ic (b := (-1)) rfl (by decide) (by decide) ?_
      have e : ac_it (fun a => M (196 + a)) (i + 1) (k : Int) = -1 := by
        rw [ac_succ]
        refine ac_out fun hK => ?_
        obtain ⟨a1, a2, a3⟩ := hK
        have a3 : ac_it (fun a => M (196 + a)) i (k : Int) < M 197 0 := a3
        omega
      rw [← e]
      exact c127 n q H hJ
    · skip
      refine h_ld (t := 2) rfl (Or.inr (Or.inl ⟨rfl, Or.inl rfl⟩)) l0 rfl ?_
      refine h_ld (t := 0) rfl (Or.inl ⟨rfl, Or.inr rfl⟩) l8 rfl ?_
      refine h_ic (b := 2) rfl (by decide) (by decide) ?_
      refine h_api (as := [.int (yi (ac_it (fun a => M (196 + a)) i (k : Int))), .int (yi 2)]) (S := []) rfl (by decide) rfl (Nat.le_of_ble_eq_true rfl) hJ (y_10_2 (by omega) (by omega) m7 h0 (by omega)) fun n1 q1 H1 h1 => ?_
      have e : ac_it (fun a => M (196 + a)) (i + 1) (k : Int) = M 199 (ac_it (fun a => M (196 + a)) i (k : Int)).toNat := by
        rw [ac_succ]
        exact ac_in ⟨h0, by omega, by show _ < M 197 0; omega⟩
      rw [← e]
      refine h_go rfl ?_
      exact c127 n1 q1 H1 h1
theorem f_l149 (hd : 320 ≤ dd) (hF : fst' K M) (hr : rnd M 196 mo de) {kp k : Nat} (hkp : kp ≤ 40) (hk1 : (kp : Int) ≤ M 197 0) (hk2 : kp = 40 ∨ (kp : Int) = M 197 0) (hk : k < kp) (hK : 10000 ≤ K) (c165 : ∀ (L : zL) (n q : Nat) (H : Nat → zO), L 0 = some (.ref 0) → L 1 = some (.ref 416) → L 2 = some (.int (yi t2)) → L 5 = some (.int (yi (kp : Int))) → L 6 = some (.int (yi be)) → L 7 = some (.int (yi (k : Int))) → sJ n0 q0 M cc c rw ro H n q → hG sc zg_c155 zg_w155 dd 165 L [] n q H (fQ n0 q0 M cc c rw ro)) : ∀ (g i : Nat) (L : zL) (n q : Nat) (H : Nat → zO), i + g = (M 204 k).toNat → L 0 = some (.ref 0) → L 1 = some (.ref 416) → L 2 = some (.int (yi t2)) → L 5 = some (.int (yi (kp : Int))) → L 6 = some (.int (yi be)) → L 7 = some (.int (yi (k : Int))) → L 9 = some (.int (yi (i : Int))) → sJ n0 q0 M cc c rw ro H n q → hG sc zg_c155 zg_w155 dd 149 L [] n q H (fQ n0 q0 M cc c rw ro) := by
  have hI := hF.1.1
  have h90 := hI.1
  have m7 : M 197 0 ≤ 1000000 := hr.2.2.2.2.1.2.2.2.1
  have b4 := c_204 hr (k := k) (by omega) (by omega)
  intro g
  induction g with
  | zero =>
    intro i L n q H hi l0 l1 l2 l5 l6 l7 l9 hJ
    refine h_ld (t := 0) rfl (Or.inl ⟨rfl, Or.inr rfl⟩) l9 rfl ?_
    refine h_ld (t := 2) rfl (Or.inr (Or.inl ⟨rfl, Or.inl rfl⟩)) l0 rfl ?_
    refine h_ld (t := 0) rfl (Or.inl ⟨rfl, Or.inr rfl⟩) l7 rfl ?_
    refine h_ic (b := 3) rfl (by decide) (by decide) ?_
    refine h_api (as := [.int (yi (k : Int)), .int (yi 3)]) (S := [.int (yi (i : Int))]) rfl (by decide) rfl (Nat.le_of_ble_eq_true rfl) hJ (y_10_3 (by omega) (by omega) m7 (by omega) (by omega)) fun n1 q1 H1 h1 => ?_
    rw [Int.toNat_natCast]
    exact h_c3 rfl ⟨⟨by omega, by omega⟩, ⟨by omega, by omega⟩⟩ (fun _ => c165 L n1 q1 H1 l0 l1 l2 l5 l6 l7 h1) fun h => absurd h (by omega)
  | succ g ih =>
    intro i L n q H hi l0 l1 l2 l5 l6 l7 l9 hJ
    refine h_ld (t := 0) rfl (Or.inl ⟨rfl, Or.inr rfl⟩) l9 rfl ?_
    refine h_ld (t := 2) rfl (Or.inr (Or.inl ⟨rfl, Or.inl rfl⟩)) l0 rfl ?_
    refine h_ld (t := 0) rfl (Or.inl ⟨rfl, Or.inr rfl⟩) l7 rfl ?_
    refine h_ic (b := 3) rfl (by decide) (by decide) ?_
    refine h_api (as := [.int (yi (k : Int)), .int (yi 3)]) (S := [.int (yi (i : Int))]) rfl (by decide) rfl (Nat.le_of_ble_eq_true rfl) hJ (y_10_3 (by omega) (by omega) m7 (by omega) (by omega)) fun n1 q1 H1 h1 => ?_
    rw [Int.toNat_natCast]
    refine h_c3 rfl ⟨⟨by omega, by omega⟩, ⟨by omega, by omega⟩⟩ (fun h => absurd h (by omega)) fun _ => ?_
    obtain ⟨v, v1, v2, v3⟩ := A_34 (K := K) (x := (k : Int)) (i := i) hK hr (by omega) (by omega) (by omega) (by rw [Int.toNat_natCast]; omega)
    have hy : yP sc dd 34 [.ref 0, .int (yi (k : Int)), .int (yi (i : Int))] M cc (some (M, cc, some (.int (yi v)))) := by
      have h := t_34 (sc := sc) (dd := dd) (cc := cc) (N := K) (M := M) (x1 := (k : Int)) (x2 := (i : Int)) (by omega)
      rw [v1] at h; exact h
    refine h_ld (t := 2) rfl (Or.inr (Or.inl ⟨rfl, Or.inl rfl⟩)) l0 rfl ?_
    refine h_ld (t := 0) rfl (Or.inl ⟨rfl, Or.inr rfl⟩) l7 rfl ?_
    refine h_ld (t := 0) rfl (Or.inl ⟨rfl, Or.inr rfl⟩) l9 rfl ?_
    refine h_api (as := [.int (yi (k : Int)), .int (yi (i : Int))]) (S := []) rfl (by decide) rfl (Nat.le_of_ble_eq_true rfl) h1 (hy) fun n2 q2 H2 h2 => ?_
    refine h_ld (t := 0) rfl (Or.inl ⟨rfl, Or.inr rfl⟩) l7 rfl ?_
    have hne : ¬ yi v = yi (k : Int) := fun h => v2 (by
      have h2 := congrArg Int32.toInt h
      have e1 : (yi v).toInt = v := sm_w v3
      have e2 : (yi (k : Int)).toInt = (k : Int) := yw_of (by omega) (by omega)
      omega)
    refine h_cmp (p := 1) (by decide) rfl (fun _ => ?_) fun e => ?_
    · skip
      refine h_inc (c := 1) rfl l9 (by decide) ?_
      refine h_go rfl ?_
      exact ih (i + 1) _ n2 q2 H2 (by omega) (l_kr (by decide) l0) (l_kr (by decide) l1) (l_ki (by decide) l2) (l_ki (by decide) l5) (l_ki (by decide) l6) (l_ki (by decide) l7) l_s h2
    · skip
      have e2 : (!decide (yi v = yi (k : Int))) = false := e
      rw [decide_eq_false hne] at e2; cases e2
end HrV
