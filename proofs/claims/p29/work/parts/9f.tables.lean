/-! two runs side by side: a guard's rows, those of catches and finallys -/
section PuA
variable {cc d e i n K : Nat} {P M N M' N' M0 N0 X Y : yM} {b : Prop} {S S' : Nat → Prop} {v v' x y z f to g pl ki s k isT x1 x2 x3 x4 x5 : Int}
theorem rw_3 (hcc : pC cc) {gb : Nat → Int} (hI : tI M) (h0 : 0 ≤ f) (hft : f ≤ to) (ht : to ≤ 300) (hR : M 21 1 ≤ 30300) (hK : 1000 ≤ K) (hG : ∀ t : Nat, f ≤ (t : Int) → (t : Int) < to → f_49 K M (t : Int) g = some (gb t) ∧ (gb t = 0 ∨ gb t = 1)) (hG0 : ∀ t : Nat, ¬ (f ≤ (t : Int) ∧ (t : Int) < to) → gb t = 0) (hop : ∀ t : Nat, f ≤ (t : Int) → (t : Int) < to → 1 ≤ M (cc + 1) t ∧ M (cc + 1) t ≤ 20) (eX : f_61_11 K cc K M to g pl ki f 0 f = some X) : rwD cc gb pl ki f M X (to + 1) := by
  obtain ⟨M1, e1, g1⟩ := lr_11 (N := K) (gb := gb) (g := g) hcc h0 hft ht hI.1 (by omega) hG hG0 hop K M f f 0 (rw_0 (pl := pl) (ki := ki) hI) (Int.le_refl _) (Int.le_refl _) (by omega) (Or.inr rfl) (fun t h1 h2 => by omega) (Or.inl ⟨rfl, fun t h1 h2 => by omega⟩) (by omega)
  have e : M1 = X := Option.some.inj (e1.symm.trans eX)
  subst e
  exact g1
/-- rows for a guard -/
theorem pq_61 (hcc : pC cc) (hK : 1000 ≤ K) (h : pq cc P b S e v M N) (hf : 0 ≤ f ∧ f ≤ 300) (hto : M cc 1 = 0 → 0 ≤ to ∧ to ≤ M cc 0) (hg : -1 ≤ x3 ∧ x3 ≤ 390) : qT cc P b S e v M (f_61 K cc M f to x3 pl ki) (f_61 K cc N f to x3 pl ki) := by
  have hr := cc_rg hcc
  have e1 : N cc 1 = M cc 1 := h.1.2.2.1.2.1
  unfold f_61
  rw [e1]
  rcases h.1.1.1.2.1 with h1 | h1
  · have hl := h.1.1.1.1
    have hIM := h.1.1.1.2.2.1
    have hIN := h.1.1.2.2.2.1
    obtain ⟨t0, tL⟩ := hto h1
    rw [h1, show yrel 0 0 0 = true from rfl, cond_true, cond_true]
    obtain ⟨X, eX, x1, x2, x4, x5, x6⟩ := rw_1 (cc := cc) (x3 := x3) (x4 := pl) (x5 := ki) (x6 := f) (x7 := 0) hK t0 (by omega) K hIM hf.1 (by omega) (by omega)
    obtain ⟨Y, eY, y1, y2, y4, y5, y6⟩ := rw_1 (cc := cc) (x3 := x3) (x4 := pl) (x5 := ki) (x6 := f) (x7 := 0) hK t0 (by omega) K hIN hf.1 (by omega) (by omega)
    have hbE : b → tE X Y := fun hb => by
      obtain ⟨p1, p2, p3, p4⟩ := h.2.2.2.2.2.1 hb
      exact rw_2 hcc h p1 hg t0 tL K (fun _ _ _ _ => rfl) (fun _ _ _ _ => rfl) hIM hIN ⟨p2, p4⟩ hf.1 (by omega) eX eY
    -- what the rows are where they are asked for
    have key : ¬ b → X 21 1 ≤ 30300 → Y 21 1 ≤ 30300 → ∀ t : Nat, (t : Int) < M cc 0 → a_may (M (cc + 1) t) → hk X t (M 21 1).toNat (X 21 1 - M 21 1).toNat = hk Y t (N 21 1).toNat (Y 21 1 - N 21 1).toNat := by
      intro _ r1 r2 t ht hm
      have := hIM.1
      have := hIN.1
      by_cases hft : f ≤ to
      · have hM49 : ∀ t : Nat, ∃ w, f_49 K M (t : Int) x3 = some w ∧ (w = 0 ∨ w = 1) := fun t => T_49 hK
        have hGM : ∀ t : Nat, f ≤ (t : Int) → (t : Int) < to → f_49 K M (t : Int) x3 = some (if f ≤ (t : Int) ∧ (t : Int) < to then (f_49 K M (t : Int) x3).getD 0 else 0) ∧ ((if f ≤ (t : Int) ∧ (t : Int) < to then (f_49 K M (t : Int) x3).getD 0 else 0) = 0 ∨ (if f ≤ (t : Int) ∧ (t : Int) < to then (f_49 K M (t : Int) x3).getD 0 else 0) = 1) := fun t q1 q2 => by
          obtain ⟨w, ew, hw⟩ := hM49 t
          rw [if_pos ⟨q1, q2⟩, ew]
          exact ⟨rfl, hw⟩
        have hopM : ∀ t : Nat, f ≤ (t : Int) → (t : Int) < to → 1 ≤ M (cc + 1) t ∧ M (cc + 1) t ≤ 20 := fun t _ q2 => (h.2.1.1 t (by omega)).2.2.1
        have eop : ∀ t : Nat, (t : Int) < M cc 0 → N (cc + 1) t = M (cc + 1) t := fun t q => (h.2.1.1 t q).1 1 (by omega) (by omega)
        obtain ⟨-, -, -, -, -, c6⟩ := rw_3 (gb := fun t => if f ≤ (t : Int) ∧ (t : Int) < to then (f_49 K M (t : Int) x3).getD 0 else 0) hcc hIM hf.1 hft (by omega) (by omega) hK hGM (fun t q => if_neg q) hopM eX
        obtain ⟨-, -, -, -, -, d6⟩ := rw_3 (gb := fun t => if f ≤ (t : Int) ∧ (t : Int) < to then (f_49 K M (t : Int) x3).getD 0 else 0) hcc hIN hf.1 hft (by omega) (by omega) hK (fun t q1 q2 => by rw [pq_49 h hg (by omega)]; exact hGM t q1 q2) (fun t q => if_neg q) (fun t q1 q2 => by rw [eop t (by omega)]; exact hopM t q1 q2) eY
        obtain ⟨c7, c8⟩ := c6 t
        obtain ⟨d7, d8⟩ := d6 t
        by_cases q : f ≤ (t : Int) ∧ (t : Int) < to
        · rcases (hGM t q.1 q.2).2 with q2 | q2
          · rw [c7 (Or.inr (Or.inr q2)), d7 (Or.inr (Or.inr q2))]
          · rw [c8 q.1 (by omega) q2 hm, d8 q.1 (by omega) q2 (by rw [eop t ht]; exact hm)]
        · rw [c7 (Or.inr (Or.inr (if_neg q))), d7 (Or.inr (Or.inr (if_neg q)))]
      · obtain ⟨K', rfl⟩ : ∃ K', K = K' + 1 := ⟨K - 1, by omega⟩
        have hsame : ∀ {Q R : yM}, f_61_11 (K' + 1) cc (K' + 1) Q to x3 pl ki f 0 f = some R → R = Q := fun {Q R} q => by
          rw [f_61_11, rel4 ⟨by omega, by omega⟩ ⟨by omega, by omega⟩, cond_dt (by omega)] at q
          exact (Option.some.inj q).symm
        rw [hsame eX, hsame eY, Int.sub_self, Int.sub_self]
        rfl
    have x0 : X cc 0 = M cc 0 := x1 _ _ (by omega) (by omega)
    have x7 : X 96 7 = M 96 7 := x1 _ _ (by omega) (by omega)
    have kX : ∀ a j, a ≠ 21 ∧ a ≠ 22 → X a j = M a j := fun a j q => x1 a j q.1 q.2
    have kY : ∀ a j, a ≠ 21 ∧ a ≠ 22 → Y a j = N a j := fun a j q => y1 a j q.1 q.2
    obtain ⟨⟨a1, a2, a3, a4, a5, a6, a7⟩, b2, b3, b4, b5, b6⟩ := h
    have hW : ∀ {Q R : yM}, lW cc Q → tI R → (∀ a j, a ≠ 21 ∧ a ≠ 22 → R a j = Q a j) → lW cc R := fun {Q R} q1 q2 q3 => by
      unfold lW at q1 ⊢
      rw [q3 cc 0 (by omega), q3 cc 1 (by omega)]
      refine ⟨q1.1, q1.2.1, q2, fun c hc => ?_⟩
      rw [q3 103 c (by omega), q3 104 c (by omega)]
      exact q1.2.2.2 c hc
    refine ⟨X, Y, eX, eY, ⟨⟨⟨hW a1.1 x4 kX, hW a1.2 y4 kY⟩, fun a j ha => ?_, ⟨?_, ?_, ?_, ?_, ?_⟩, ?_, ?_, ?_, fun z => ?_⟩, ?_, ?_, ?_, ?_, ?_⟩, mo_of x7 x0 (kX _ _ (by omega)) fun y => kX _ _ (by omega)⟩
    · rw [kX _ _ (by omega), kY _ _ (by omega)]; exact a2 a j ha
    · rw [x0, kY _ _ (by omega)]; exact a3.1
    · rw [kX _ _ (by omega), kY _ _ (by omega)]; exact a3.2.1
    · rw [kX _ _ (by omega), kY _ _ (by omega)]; exact a3.2.2.1
    · rw [x7, kY _ _ (by omega)]; exact a3.2.2.2.1
    · rw [kX _ _ (by omega), kY _ _ (by omega)]; exact a3.2.2.2.2
    · rw [kX _ _ (by omega)]; exact a4
    · rw [x7]; exact a5
    · rw [x7]; exact a6
    · rw [kX _ _ (by omega)] at z
      rw [x7, x0]; exact a7 z
    · rw [x0, x7, kX cc 10 (by omega)]
      exact qC_cg (fun a j q => ⟨kX a j (by omega), kY a j (by omega)⟩) b2
    · rw [x7]
      exact qG_cg (fun a j q => ⟨kX a j (by omega), kY a j (by omega)⟩) b3
    · rw [x7]
      exact qL_cg (fun a j q => ⟨kX a j (by omega), kY a j (by omega)⟩) b4
    · rw [x0]
      exact qS_cg (fun a j q => ⟨kX a j (by omega), kY a j (by omega)⟩) (Int.le_refl _) b5
    · rw [x0]
      obtain ⟨r1, r2, r3, r4⟩ := b6
      unfold qR
      rw [kX 96 14 (by omega), kX cc 11 (by omega), kY 96 14 (by omega), kY cc 11 (by omega)]
      refine ⟨fun hb => ?_, by omega, ⟨fun r q1 q2 => ?_, fun r q1 q2 => ?_⟩, fun q1 q2 t ht hm => ?_⟩
      · obtain ⟨p1, p2, p3, p4⟩ := r1 hb
        obtain ⟨w1, w2⟩ := hbE hb
        exact ⟨p1, w1, p3, w2⟩
      · rcases Int.lt_or_le r (M 21 1) with q | q
        · rw [x5 (4 * r + 1) (by omega)]; exact r3.1 r q1 q
        · have := x6 r q q2; omega
      · rcases Int.lt_or_le r (N 21 1) with q | q
        · rw [y5 (4 * r + 1) (by omega)]; exact r3.2 r q1 q
        · have := y6 r q q2; omega
      · rw [kX (cc + 1) t (by omega)] at hm
        by_cases hb : b
        · obtain ⟨w1, w2⟩ := hbE hb
          obtain ⟨p1, p2, p3, p4⟩ := r1 hb
          rw [p3, w1]
          exact (hk_eq _ fun j hj => w2 j (by omega)).symm
        · rw [show (X 21 1 - M cc 11).toNat = (M 21 1 - M cc 11).toNat + (X 21 1 - M 21 1).toNat by omega, show (Y 21 1 - N cc 11).toNat = (N 21 1 - N cc 11).toNat + (Y 21 1 - N 21 1).toNat by omega, hk_add, hk_add]
          rw [show (M cc 11).toNat + (M 21 1 - M cc 11).toNat = (M 21 1).toNat by omega, show (N cc 11).toNat + (N 21 1 - N cc 11).toNat = (N 21 1).toNat by omega, key hb q1 q2 t ht hm]
          rw [hk_eq (M' := X) (M := M) (R := (M cc 11).toNat) (M 21 1 - M cc 11).toNat fun j hj => x5 j (by omega), hk_eq (M' := Y) (M := N) (R := (N cc 11).toNat) (N 21 1 - N cc 11).toNat fun j hj => y5 j (by omega), r4 (by omega) (by omega) t ht hm]
  · rw [h1, show yrel 0 1 0 = false from rfl, cond_false, cond_false]
    exact qT_ret h
/-- the catches from x on, k at most -/
def vis (P : yM) : Nat → Int → Nat → Prop
  | 0, _, _ => False
  | k + 1, x, c => yrel 2 x 0 = false ∧ ((yw x).toNat = c ∨ vis P k (yrd P 10 x) c)
theorem pq_rdP {a : Nat} (h : pq cc P b S e v M N) (ha : 1 ≤ a ∧ a ≤ 17) : yrd M a x = yrd P a x := by
  unfold yrd
  by_cases q : 0 ≤ yw x ∧ (yw x).toNat < yln a
  · rw [if_pos q, if_pos q, (h.1.2.1 _ _ ha).1]
  · rw [if_neg q, if_neg q]
theorem pq_c3 (h : pq cc P b S e v M N) (hS : ∀ c, c < 90 → (yw x).toNat = c → S (2 * c)) : yrd N 103 x = yrd M 103 x := by
  unfold yrd
  by_cases q : 0 ≤ yw x ∧ (yw x).toNat < yln 103
  · rw [if_pos q, if_pos q]
    exact (h.2.2.2.2.1 _).1 (hS _ q.2 rfl)
  · rw [if_neg q, if_neg q]
theorem pq_c4 (h : pq cc P b S e v M N) (hS : ∀ c, c < 90 → (yw x).toNat = c → S (2 * c + 1)) : yrd N 104 x = yrd M 104 x ∧ yrd M 104 x ≤ M cc 0 := by
  unfold yrd
  by_cases q : 0 ≤ yw x ∧ (yw x).toNat < yln 104
  · rw [if_pos q, if_pos q]
    exact (h.2.2.2.2.1 _).2 (hS _ q.2 rfl)
  · rw [if_neg q, if_neg q]
    exact ⟨rfl, h.1.1.1.1.1⟩
theorem pq_53 (hcc : pC cc) (hK : 1000 ≤ K) (h : pq cc P b S e v M N) (hx3 : 0 ≤ x3 ∧ x3 ≤ 300) (hx4 : M cc 1 = 0 → 0 ≤ x4 ∧ x4 ≤ M cc 0) (hg : -1 ≤ x2 ∧ x2 ≤ 390) (hS : ∀ c, c < 90 → vis P 90 (yrd P 10 x1) c → S (2 * c) ∧ S (2 * c + 1)) : qT cc P b S e v M (f_53 K cc M x1 x2 x3 x4) (f_53 K cc N x1 x2 x3 x4) := by
  have key : ∀ (n k : Nat) {M N : yM} {x5 : Int}, k ≤ 90 → k < n → pq cc P b S e v M N → (M cc 1 = 0 → 0 ≤ x4 ∧ x4 ≤ M cc 0) → (∀ c, c < 90 → vis P k x5 c → S (2 * c) ∧ S (2 * c + 1)) → qT cc P b S e v M (f_53_8 K cc n M x2 x3 x4 x5 (k : Int)) (f_53_8 K cc n N x2 x3 x4 x5 (k : Int)) := by
    intro n
    induction n with
    | zero => intro k M N x5 _ q; exact absurd q (by omega)
    | succ n ih =>
      intro k M N x5 hk hn h hx4 hS
      rw [f_53_8, f_53_8]
      refine qT_cond (fun _ => qT_ret h) fun hx => ?_
      rw [rel5 ⟨by omega, by omega⟩ ⟨by decide, by decide⟩]
      cases k with
      | zero => exact qT_ret h
      | succ k =>
        rw [cond_df (by omega), cond_df (by omega), pq_rd (a := 8) h (by decide), pq_c3 (x := x5) h fun c hc q => (hS c hc ⟨hx, Or.inl q⟩).1]
        refine qT_bind (pq_61 hcc hK h hx3 hx4 hg) fun X Y hX mX => ?_
        refine qT_val (pq_rd hX (by decide)) fun t ht => ?_
        rw [show ((k + 1 : Nat) : Int) + (-1) = (k : Int) by omega]
        refine ih k (by omega) (by omega) hX (fun z => ?_) fun c hc q => hS c hc ⟨hx, Or.inr ?_⟩
        · have c1 := mX.2.1 z
          have c2 := hx4 c1.1
          omega
        · rw [ht, pq_rdP hX (by decide)] at q
          exact q
  unfold f_53
  refine qT_val (pq_rd h (by decide)) fun t ht => ?_
  rw [pq_rdP h (by decide)] at ht
  subst ht
  exact key K 90 (by omega) (by omega) h hx4 hS
theorem pq_56 (hcc : pC cc) (hK : 1000 ≤ K) (h : pq cc P b S e v M N) (hx3 : 0 ≤ x3 ∧ x3 ≤ 300) (hx4 : M cc 1 = 0 → 0 ≤ x4 ∧ x4 ≤ M cc 0) (hg : -1 ≤ x2 ∧ x2 ≤ 390) (hS : ∀ c, c < 90 → vis P 90 (yrd P 10 x1) c → S (2 * c) ∧ S (2 * c + 1)) : qT cc P b S e v M (f_56 K cc M x1 x2 x3 x4 x5) (f_56 K cc N x1 x2 x3 x4 x5) := by
  have key : ∀ (n k : Nat) {M N : yM} {x6 : Int}, k ≤ 90 → k < n → pq cc P b S e v M N → (∀ c, c < 90 → vis P k x6 c → S (2 * c) ∧ S (2 * c + 1)) → qT cc P b S e v M (f_56_15 K cc n M x2 x5 x6 (k : Int)) (f_56_15 K cc n N x2 x5 x6 (k : Int)) := by
    intro n
    induction n with
    | zero => intro k M N x6 _ q; exact absurd q (by omega)
    | succ n ih =>
      intro k M N x6 hk hn h hS
      rw [f_56_15, f_56_15]
      refine qT_cond (fun _ => qT_ret h) fun hx => ?_
      rw [rel5 ⟨by omega, by omega⟩ ⟨by decide, by decide⟩]
      cases k with
      | zero => exact qT_ret h
      | succ k =>
        obtain ⟨e4, l4⟩ := pq_c4 (x := x6) h fun c hc q => (hS c hc ⟨hx, Or.inl q⟩).2
        obtain ⟨r1, r2⟩ := rd_cf (x := x6) h.1.1.1
        rw [cond_df (by omega), cond_df (by omega), e4, pq_c3 (x := x6) h fun c hc q => (hS c hc ⟨hx, Or.inl q⟩).1]
        refine qT_bind (pq_61 hcc hK h r1 (fun _ => ⟨r2.1, l4⟩) hg) fun X Y hX mX => ?_
        refine qT_val (pq_rd hX (by decide)) fun t ht => ?_
        rw [show ((k + 1 : Nat) : Int) + (-1) = (k : Int) by omega]
        refine ih k (by omega) (by omega) hX fun c hc q => hS c hc ⟨hx, Or.inr ?_⟩
        rw [ht, pq_rdP hX (by decide)] at q
        exact q
  unfold f_56
  refine qT_bind (pq_61 hcc hK h hx3 hx4 hg) fun X Y hX mX => ?_
  refine qT_val (pq_rd hX (by decide)) fun t ht => ?_
  rw [pq_rdP hX (by decide)] at ht
  subst ht
  exact key K 90 (by omega) (by omega) hX hS
end PuA
