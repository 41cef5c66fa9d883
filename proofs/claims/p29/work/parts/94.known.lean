/-! what follows from what was told (2) -/
section KnA
variable {M M' : yM} {n w N k fu : Nat} {x x1 x2 x3 x4 : Int} {cs : List Nat}
theorem chn_cg (h : ∀ j, M' 10 j = M 10 j) : ∀ (k : Nat) (x : Int), chn M' k x = chn M k x
  | 0, _ => rfl
  | k + 1, x => by
    show (if x < 0 then [] else x.toNat :: chn M' k (M' 10 x.toNat)) = if x < 0 then [] else x.toNat :: chn M k (M 10 x.toNat)
    rw [h, chn_cg h k]
theorem opn_cg (h4 : ∀ j, M' 4 j = M 4 j) (h8 : ∀ j, M' 8 j = M 8 j) : ∀ (cs : List Nat) (o : Int), opn M' o cs = opn M o cs
  | [], _ => rfl
  | c :: cs, o => by
    show opn M' (ybin 26 o (ybin 105 (M' 4 (M' 8 c).toNat) (-1))) cs = opn M (ybin 26 o (ybin 105 (M 4 (M 8 c).toNat) (-1))) cs
    rw [h4, h8, opn_cg h4 h8 cs]
theorem ofc_cg : ∀ (cs : List Nat) (o : Int), (∀ c, c ∈ cs → M' 16 c = M 16 c) → ofc M' o cs = ofc M o cs
  | [], _, _ => rfl
  | c :: cs, o, h => by
    show ofc M' (ybin 27 o (M' 16 c)) cs = ofc M (ybin 27 o (M 16 c)) cs
    rw [h c List.mem_cons_self, ofc_cg cs _ (fun c hc => h c (List.mem_cons_of_mem _ hc))]
theorem cpt_cg (hp : ∀ j : Nat, j < n → M' 16 j = M 16 j) (hx : x = -1 ∨ (0 ≤ x ∧ x < (n : Int))) : cpt M' x = cpt M x := by
  unfold cpt
  by_cases q : x = -1
  · rw [if_pos q, if_pos q]
  · rw [if_neg q, if_neg q, hp _ (by omega)]
theorem npt_cg (hp : ∀ j : Nat, j < n → M' 17 j = M 17 j) (hx : x = -1 ∨ (0 ≤ x ∧ x < (n : Int))) : npt M' x ↔ npt M x := by
  rcases hx with q | q
  · exact ⟨fun h => absurd q h.1, fun h => absurd q h.1⟩
  · have e := hp x.toNat (by omega)
    exact ⟨fun h => ⟨h.1, by have := h.2; omega⟩, fun h => ⟨h.1, by have := h.2; omega⟩⟩
theorem prt_x (h : prt M n x) : x = -1 ∨ (0 ≤ x ∧ x < (n : Int)) := Or.inr ⟨h.1, h.2.1⟩
theorem prt_y (h : x = -1 ∨ prt M n x) : x = -1 ∨ (0 ≤ x ∧ x < (n : Int)) := by
  rcases h with h | h
  · exact Or.inl h
  · exact prt_x h
theorem prc_c (hn : (n : Int) < M 1 7) (h : x = -1 ∨ prc M n x) : ctx M x ∧ x < (n : Int) ∧ -1 ≤ x := by
  rcases h with q | ⟨q1, q2, q3, q4⟩
  · exact ⟨Or.inl q, by omega, by omega⟩
  · exact ⟨Or.inr ⟨q1, by omega, q4⟩, by omega, by omega⟩
theorem vC_cg (hI : pI M) (hn : (n : Int) < M 1 7) (h : ∀ a j, 1 ≤ a ∧ a ≤ 12 → M' a j = M a j) (h14 : M' 14 n = M 14 n) (hp : ∀ j : Nat, j < n → M' 16 j = M 16 j) (hq : ∀ j : Nat, j < n → M' 17 j = M 17 j) : vC M' n = vC M n := by
  have hO := hI.2.2.2.1 n hn
  have eB : ptB M' n = ptB M n := by unfold ptB; rw [h 7 _ (by decide), h 9 _ (by decide)]
  have eC : ptC M' n = ptC M n := by unfold ptC; rw [h 7 _ (by decide), h 10 _ (by decide)]
  have hB := ptB_rg hI hn
  have hC := ptC_rg hI hn
  unfold vC
  rw [h 7 _ (by decide), h 8 _ (by decide), h 9 _ (by decide), h 10 _ (by decide), h14, h 5 _ (by decide), h 8 _ (by decide), eB, eC, cpt_cg hp (x := ptB M n) (by omega), cpt_cg hp (x := ptC M n) (by omega)]
  by_cases q9 : M 7 n = 9
  · rw [if_pos q9, if_pos q9]
  rw [if_neg q9, if_neg q9]
  by_cases q10 : M 7 n = 10
  · rw [if_pos q10, if_pos q10]
  rw [if_neg q10, if_neg q10]
  by_cases q11 : M 7 n = 11
  · have o := hO.2.2.2.2.2.2.2.2.1 q11
    have hc := prc_c hn o.2.2.1
    rw [if_pos q11, if_pos q11]
    unfold vT
    rw [h 8 _ (by decide), h 9 _ (by decide), h 10 _ (by decide), chn_cg (fun j => h 10 j (by decide)), opn_cg (fun j => h 4 j (by decide)) (fun j => h 8 j (by decide)), ofc_cg _ _ (fun c hcc => hp c (by have := chn_in hI _ _ hc.1 c hcc; omega)), cpt_cg hp (prt_x o.2.1), cpt_cg hp (prt_y o.1)]
    by_cases q : npt M (M 8 n)
    · have h8 := prt_y o.1
      rw [if_pos q, if_pos ((npt_cg hq (prt_y o.1)).mpr q), hp _ (by have := q.1; omega)]
    · rw [if_neg q, if_neg (fun z => q ((npt_cg hq (prt_y o.1)).mp z))]
  rw [if_neg q11, if_neg q11]
  by_cases q12 : M 7 n = 12
  · rw [if_pos q12, if_pos q12, cpt_cg hp (prt_x (hO.2.2.2.2.2.2.2.2.2.1 q12).2.1)]
  rw [if_neg q12, if_neg q12]
  by_cases q13 : M 7 n = 13
  · have et : ∀ x, tpt M' x = tpt M x := fun x => by unfold tpt; rw [h 5 _ (by decide)]
    rw [if_pos q13, if_pos q13, cpt_cg hp (prt_x (hO.2.2.2.2.2.2.2.2.2.2.1 q13).1), et, et]
  rw [if_neg q13, if_neg q13]
theorem vE_cg (hI : pI M) (hn : (n : Int) < M 1 7) (h : ∀ a j, 1 ≤ a ∧ a ≤ 12 ∧ a ≠ 5 → M' a j = M a j) (hq : ∀ j : Nat, j < n → M' 17 j = M 17 j) (h11 : M 7 n = 11) : vE M' n ↔ vE M n := by
  have o := (hI.2.2.2.1 n hn).2.2.2.2.2.2.2.2.1 h11
  have hc := prc_c hn o.2.2.1
  have e10 : chn M' 90 (M' 10 n) = chn M 90 (M 10 n) := by rw [h 10 _ (by decide), chn_cg (fun j => h 10 j (by decide))]
  have e9 : M' 9 n = M 9 n := h 9 _ (by decide)
  unfold vE
  rw [e10, e9, npt_cg hq (prt_x o.2.1)]
  refine and_congr_right fun _ => ?_
  exact ⟨fun z c hcc => by rw [← hq c (by have := chn_in hI _ _ hc.1 c hcc; omega)]; exact z c hcc, fun z c hcc => by rw [hq c (by have := chn_in hI _ _ hc.1 c hcc; omega)]; exact z c hcc⟩
theorem vN_cg (hI : pI M) (hn : (n : Int) < M 1 7) (h : ∀ a j, 1 ≤ a ∧ a ≤ 12 ∧ a ≠ 5 → M' a j = M a j) (hq : ∀ j : Nat, j < n → M' 17 j = M 17 j) : vN M' n ↔ vN M n := by
  have hO := hI.2.2.2.1 n hn
  have e7 : M' 7 n = M 7 n := h 7 _ (by decide)
  have e8 : M' 8 n = M 8 n := h 8 _ (by decide)
  have e9 : M' 9 n = M 9 n := h 9 _ (by decide)
  have e10 : M' 10 n = M 10 n := h 10 _ (by decide)
  unfold vN
  rw [e7, e8, e9, e10]
  refine or_congr Iff.rfl (or_congr Iff.rfl (or_congr Iff.rfl (or_congr Iff.rfl (or_congr Iff.rfl (or_congr Iff.rfl (or_congr ?_ (or_congr ?_ (or_congr ?_ ?_))))))))
  · refine and_congr_right fun q => ?_
    have o := hO.2.2.2.1 q
    rw [npt_cg hq (prt_x o.1), npt_cg hq (prt_x o.2.1)]
  · refine and_congr_right fun q => ?_
    have o := hO.2.2.2.2.1 q
    rw [npt_cg hq (prt_x o.2.1), npt_cg hq (prt_y o.2.2.1)]
  · refine and_congr_right fun q => ?_
    rcases q with q | q
    · rw [npt_cg hq (prt_x (hO.2.2.2.2.2.2.2.2.2.1 q).2.1)]
    · rw [npt_cg hq (prt_x (hO.2.2.2.2.2.2.2.2.2.2.1 q).1)]
  · refine and_congr_right fun q => ?_
    rw [npt_cg hq (prt_y (hO.2.2.2.2.2.2.2.2.1 q).1), vE_cg hI hn h hq q]
theorem d2_cg (hI : pI M) (hn : (n : Int) < M 1 7) (h : ∀ a j, a ≤ 15 → M' a j = M a j) (hp : ∀ j : Nat, j ≤ n → M' 16 j = M 16 j) (hq : ∀ j : Nat, j ≤ n → M' 17 j = M 17 j) (hd : d2 M n) : d2 M' n := by
  refine ⟨?_, ?_⟩
  · rw [hp n (by omega), vC_cg hI hn (fun a j ha => h a j (by omega)) (h 14 n (by decide)) (fun j hj => hp j (by omega)) (fun j hj => hq j (by omega))]
    exact hd.1
  · rw [hq n (by omega), hd.2]
    exact ifeq (vN_cg hI hn (fun a j ha => h a j (by omega)) (fun j hj => hq j (by omega))).symm
/-- a catch around, or nothing -/
def r14 (M : yM) (n : Nat) : Prop := M 14 n = -1 ∨ ((n : Int) < M 14 n ∧ M 14 n < M 1 7 ∧ M 7 (M 14 n).toNat = 12)
def r15 (M : yM) (n : Nat) : Prop := M 15 n = -1 ∨ ((n : Int) < M 15 n ∧ M 15 n < M 1 7 ∧ M 7 (M 15 n).toNat = 6)
def r13 (M : yM) (n : Nat) : Prop := M 13 n = -1 ∨ (0 ≤ M 13 n ∧ M 13 n < M 1 4)
theorem d1_rg (hI : pI M) (hd : ∀ n : Nat, (n : Int) < M 1 7 → d1 M n) : ∀ (k n : Nat), (n : Int) < M 1 7 → M 1 7 ≤ (n : Int) + (k : Int) → r13 M n ∧ r14 M n ∧ r15 M n
  | 0, n, hn, hk => absurd hn (by omega)
  | k + 1, n, hn, hk => by
    obtain ⟨h1, h2⟩ := hd n hn
    have h8 := hI.2.2.2.2.2.2.2.1 n hn
    rcases hI.2.2.2.2.2.1 n hn with q | ⟨q1, q2, q3⟩
    · obtain ⟨e13, e14, e15⟩ := h1 q
      refine ⟨?_, Or.inl e14, Or.inl e15⟩
      unfold r13
      omega
    · obtain ⟨w, hw⟩ : ∃ w : Nat, M 11 n = (w : Int) := ⟨(M 11 n).toNat, by omega⟩
      obtain ⟨e13, e14, e15⟩ := h2 w hw
      obtain ⟨i13, i14, i15⟩ := d1_rg hI hd k w (by omega) (by omega)
      refine ⟨?_, ?_, ?_⟩
      · unfold r13
        rw [e13]
        exact i13
      · unfold r14
        by_cases c : M 7 w = 12 ∧ M 9 w = (n : Int)
        · rw [e14, if_pos c]
          exact Or.inr ⟨by omega, by omega, by rw [Int.toNat_natCast]; exact c.1⟩
        · rw [e14, if_neg c]
          rcases i14 with i | ⟨i1, i2, i3⟩
          · exact Or.inl i
          · exact Or.inr ⟨by omega, i2, i3⟩
      · unfold r15
        by_cases c : M 7 w = 6
        · rw [e15, if_pos c]
          exact Or.inr ⟨by omega, by omega, by rw [Int.toNat_natCast]; exact c⟩
        · rw [e15, if_neg c]
          rcases i15 with i | ⟨i1, i2, i3⟩
          · exact Or.inl i
          · exact Or.inr ⟨by omega, i2, i3⟩
theorem d1_r (hI : pI M) (hd : ∀ n : Nat, (n : Int) < M 1 7 → d1 M n) (hn : (n : Int) < M 1 7) : r13 M n ∧ r14 M n ∧ r15 M n := d1_rg hI hd 90 n hn (by have := hI.1; omega)
theorem d1_cg (h : ∀ a j, a ≤ 15 → M' a j = M a j) (hd : d1 M n) : d1 M' n := by
  unfold d1
  rw [h 11 n (by decide), h 12 n (by decide), h 13 n (by decide), h 14 n (by decide), h 15 n (by decide)]
  refine ⟨hd.1, fun w hw => ?_⟩
  rw [h 13 w (by decide), h 14 w (by decide), h 15 w (by decide), h 7 w (by decide), h 9 w (by decide)]
  exact hd.2 w hw
theorem l107 (hN : 91 ≤ N) (nn : Nat) : ∀ (k j : Nat) (M : yM), pI M → M 1 7 = (nn : Int) → (∀ n : Nat, (n : Int) < M 1 7 → d1 M n) → nn < j + k → j ≤ nn → (∀ n : Nat, n < j → d2 M n) → ∃ M1, f_114_14 N k M (j : Int) = some M1 ∧ (∀ a i, a < 16 ∨ 17 < a → M1 a i = M a i) ∧ (∀ a i : Nat, nn ≤ i → M1 a i = M a i) ∧ ∀ n : Nat, n < nn → d2 M1 n
  | 0, j, _, _, _, _, h, h2, _ => absurd h (by omega)
  | k + 1, j, M, hI, hnn, hd1, hk, hj, hd => by
    have hr := hI.1
    rw [f_114_14, rel3 ⟨by omega, by omega⟩ ⟨by omega, by omega⟩]
    by_cases q : M 1 7 ≤ (j : Int)
    · rw [cond_dt q]
      exact ⟨M, rfl, fun _ _ _ => rfl, fun _ _ _ => rfl, fun n hn => hd n (by omega)⟩
    · have hjn : (j : Int) < M 1 7 := by omega
      have hs : ∀ i : Nat, (i : Int) < (j : Int) → ysm (M 17 i) := fun i hi => by
        rw [(hd i (by omega)).2]
        exact nv01
      have h14 := (d1_r hI hd1 hjn).2.1
      have h14' : M 14 j = -1 ∨ (0 ≤ M 14 j ∧ M 14 j < M 1 7) := by
        rcases h14 with h | h
        · exact Or.inl h
        · exact Or.inr ⟨by have := h.1; omega, h.2.1⟩
      rw [cond_df q, f107_ok hI hjn hN hs h14', Option.bind_some, ylet_eq, wr7 ⟨by decide, by decide⟩ (by omega)]
      have g5 : ∀ a i, a < 16 ∨ 16 < a ∨ i ≠ j → yU M 16 j (vC M j) a i = M a i := fun a i h => yU_ne (by omega)
      have hI5 : pI (yU M 16 j (vC M j)) := pI_cg (fun a i h => g5 a i (by omega)) hI
      have e7 : yU M 16 j (vC M j) 1 7 = M 1 7 := g5 _ _ (by omega)
      rw [f132_ok hI5 (by omega) hN (fun i hi => by rw [g5 _ _ (by omega)]; exact hs i hi), Option.bind_some, rel0 nv01 ⟨by decide, by decide⟩]
      have h35 : ∀ s : Int, f_114_35 N (f_114_14 N k) (yU M 16 j (vC M j)) (j : Int) s (j : Int) = f_114_14 N k (yU (yU M 16 j (vC M j)) 17 j s) ((j + 1 : Nat) : Int) := fun s => by
        unfold f_114_35
        rw [ylet_eq, wr7 ⟨by decide, by decide⟩ (by omega)]; rfl
      have hv : cond (decide ((if vN (yU M 16 j (vC M j)) j then (1 : Int) else 0) = 0)) (f_114_35 N (f_114_14 N k) (yU M 16 j (vC M j)) (j : Int) 0 (j : Int)) (f_114_35 N (f_114_14 N k) (yU M 16 j (vC M j)) (j : Int) 1 (j : Int)) = f_114_14 N k (yU (yU M 16 j (vC M j)) 17 j (if vN M j then 1 else 0)) ((j + 1 : Nat) : Int) := by
        have hvn : vN (yU M 16 j (vC M j)) j ↔ vN M j := vN_cg hI hjn (fun a i h => g5 a i (by omega)) (fun i hi => g5 _ _ (by omega))
        by_cases p : vN M j
        · rw [if_pos (hvn.mpr p), cond_df (by decide), h35, if_pos p]
        · rw [if_neg (fun h => p (hvn.mp h)), cond_dt rfl, h35, if_neg p]
      rw [hv]
      have g : ∀ a i, a < 16 ∨ 17 < a ∨ i ≠ j → yU (yU M 16 j (vC M j)) 17 j (if vN M j then 1 else 0) a i = M a i := fun a i h => by rw [yU_ne (by omega), g5 a i (by omega)]
      have hM6 : ∀ a i, a ≤ 15 → yU (yU M 16 j (vC M j)) 17 j (if vN M j then 1 else 0) a i = M a i := fun a i h => g a i (by omega)
      have hI6 := pI_cg (fun a i h => hM6 a i (by omega)) hI
      obtain ⟨M1, r1, r2, r3, r4⟩ := l107 hN nn k (j + 1) (yU (yU M 16 j (vC M j)) 17 j (if vN M j then 1 else 0)) hI6 (by rw [g _ _ (by omega)]; exact hnn) (fun n hn => d1_cg hM6 (hd1 n (by rw [g _ _ (by omega)] at hn; exact hn))) (by omega) (by omega) (fun n hn => by
        by_cases e : n = j
        · subst e
          refine ⟨?_, ?_⟩
          · rw [yU_c (by decide), yU_at]
            exact (vC_cg hI hjn (fun a i h => hM6 a i (by omega)) (hM6 14 n (by decide)) (fun i hi => g 16 i (by omega)) (fun i hi => g 17 i (by omega))).symm
          · rw [yU_at]
            exact (ifeq (vN_cg hI hjn (fun a i h => hM6 a i (by omega)) (fun i hi => g 17 i (by omega)))).symm
        · exact d2_cg hI (by omega) hM6 (fun i hi => g 16 i (by omega)) (fun i hi => g 17 i (by omega)) (hd n (by omega)))
      exact ⟨M1, r1, fun a i h => by rw [r2 a i h, g a i (by omega)], fun a i h => by rw [r3 a i h, g a i (by omega)], r4⟩
/-- what is known of a program -/
def kn (M : yM) : Prop := ∀ n : Nat, (n : Int) < M 1 7 → d1 M n ∧ d2 M n
theorem f114_ok (hI : pI M) (hN : 91 ≤ N) : ∃ M1, f_114 N M = some M1 ∧ (∀ a i, a < 13 ∨ 17 < a → M1 a i = M a i) ∧ (∀ a i : Nat, M 1 7 ≤ (i : Int) → M1 a i = M a i) ∧ kn M1 := by
  have hr := hI.1
  obtain ⟨nn, hnn⟩ : ∃ nn : Nat, M 1 7 = (nn : Int) := ⟨(M 1 7).toNat, by omega⟩
  unfold f_114
  rw [ylet_eq, hnn]
  obtain ⟨M1, e1, g1, h1, k1⟩ := l115 (N := N) (nn : Int) nn N M hI hnn (by omega) (by omega) (fun n h1 h2 => absurd h2 (by omega))
  have hI1 : pI M1 := pI_cg (fun a i h => g1 a i (by omega)) hI
  have e7 : M1 1 7 = (nn : Int) := by rw [g1 _ _ (by omega), hnn]
  obtain ⟨M2, e2, g2, h2, k2⟩ := l107 hN nn N 0 M1 hI1 e7 (fun n hn => k1 n (by omega)) (by omega) (by omega) (fun n hn => absurd hn (by omega))
  refine ⟨M2, by rw [e1]; exact e2, fun a i h => by rw [g2 a i (by omega), g1 a i (by omega)], fun a i h => by rw [h2 a i (by omega), h1 a i (by omega)], fun n hn => ⟨?_, ?_⟩⟩
  · rw [g2 _ _ (by omega), e7] at hn
    exact d1_cg (fun a i h => g2 a i (by omega)) (k1 n hn)
  · rw [g2 _ _ (by omega), e7] at hn
    exact k2 n (by omega)
/-- there is one answer -/
theorem d1_uni (hI : pI M) (h : ∀ a j, 1 ≤ a ∧ a ≤ 12 ∧ a ≠ 5 → M' a j = M a j) (hd : ∀ n : Nat, (n : Int) < M 1 7 → d1 M n) (hd' : ∀ n : Nat, (n : Int) < M 1 7 → d1 M' n) : ∀ (k n : Nat), (n : Int) < M 1 7 → M 1 7 ≤ (n : Int) + (k : Int) → M' 13 n = M 13 n ∧ M' 14 n = M 14 n ∧ M' 15 n = M 15 n
  | 0, n, hn, hk => absurd hn (by omega)
  | k + 1, n, hn, hk => by
    obtain ⟨h1, h2⟩ := hd n hn
    obtain ⟨h1', h2'⟩ := hd' n hn
    rw [h 11 n (by decide), h 12 n (by decide)] at h1'
    rcases hI.2.2.2.2.2.1 n hn with q | ⟨q1, q2, q3⟩
    · obtain ⟨e13, e14, e15⟩ := h1 q
      obtain ⟨e13', e14', e15'⟩ := h1' q
      exact ⟨by omega, by omega, by omega⟩
    · obtain ⟨w, hw⟩ : ∃ w : Nat, M 11 n = (w : Int) := ⟨(M 11 n).toNat, by omega⟩
      obtain ⟨e13, e14, e15⟩ := h2 w hw
      obtain ⟨e13', e14', e15'⟩ := h2' w (by rw [h 11 n (by decide)]; exact hw)
      obtain ⟨i13, i14, i15⟩ := d1_uni hI h hd hd' k w (by omega) (by omega)
      rw [h 7 w (by decide), h 9 w (by decide), i14] at e14'
      rw [h 7 w (by decide), i15] at e15'
      exact ⟨by rw [e13', e13, i13], by rw [e14', e14], by rw [e15', e15]⟩
theorem d2_uni (hI : pI M) (h : ∀ a j, 1 ≤ a ∧ a ≤ 12 → M' a j = M a j) (h14 : ∀ n : Nat, (n : Int) < M 1 7 → M' 14 n = M 14 n) (hd : ∀ n : Nat, (n : Int) < M 1 7 → d2 M n) (hd' : ∀ n : Nat, (n : Int) < M 1 7 → d2 M' n) : ∀ (k n : Nat), n < k → (n : Int) < M 1 7 → M' 16 n = M 16 n ∧ M' 17 n = M 17 n
  | 0, n, hk, _ => absurd hk (by omega)
  | k + 1, n, hk, hn => by
    obtain ⟨h1, h2⟩ := hd n hn
    obtain ⟨h1', h2'⟩ := hd' n hn
    have hp : ∀ j : Nat, j < n → M' 16 j = M 16 j := fun j hj => (d2_uni hI h h14 hd hd' k j (by omega) (by omega)).1
    have hq : ∀ j : Nat, j < n → M' 17 j = M 17 j := fun j hj => (d2_uni hI h h14 hd hd' k j (by omega) (by omega)).2
    refine ⟨?_, ?_⟩
    · rw [h1', h1]; exact vC_cg hI hn h (h14 n hn) hp hq
    · rw [h2', h2]; exact ifeq (vN_cg hI hn (fun a j ha => h a j ⟨ha.1, ha.2.1⟩) hq)
theorem kn_uni (hI : pI M) (h : ∀ a j, 1 ≤ a ∧ a ≤ 12 → M' a j = M a j) (hk : kn M) (hk' : kn M') (hn : (n : Int) < M 1 7) : ∀ a, 1 ≤ a ∧ a ≤ 17 → M' a n = M a n := by
  have e7 : M' 1 7 = M 1 7 := h 1 7 (by decide)
  have u1 : ∀ n : Nat, (n : Int) < M 1 7 → M' 13 n = M 13 n ∧ M' 14 n = M 14 n ∧ M' 15 n = M 15 n := fun n hn => d1_uni hI (fun a j ha => h a j ⟨ha.1, ha.2.1⟩) (fun n hn => (hk n hn).1) (fun n hn => (hk' n (by omega)).1) 90 n hn (by have := hI.1; omega)
  have u2 := d2_uni hI h (fun n hn => (u1 n hn).2.1) (fun n hn => (hk n hn).2) (fun n hn => (hk' n (by omega)).2) (n + 1) n (by omega) hn
  intro a ha
  obtain ⟨v1, v2, v3⟩ := u1 n hn
  rcases (show a ≤ 12 ∨ a = 13 ∨ a = 14 ∨ a = 15 ∨ a = 16 ∨ a = 17 by omega) with q | rfl | rfl | rfl | rfl | rfl
  · exact h a n ⟨ha.1, q⟩
  · exact v1
  · exact v2
  · exact v3
  · exact u2.1
  · exact u2.2
end KnA
