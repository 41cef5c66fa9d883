/-! faults, code and tables made anew, twice -/
section PldQ
variable {q q' k : Nat → Nat → Int} {bg : Nat → List Nat} {ch : Nat → List (Int × Int)} {P : Nat → aC → Nat → Nat → Nat → Prop}
theorem chq_cg (h3 : q' 3 = q 3) : ∀ (cs : List Nat) (x : Int), a_chain q' x cs = a_chain q x cs
  | [], _ => rfl
  | c :: cs, x => by
    unfold a_chain
    rw [h3, chq_cg h3 cs]
theorem wo_cq (h0 : q' 0 = q 0) (h1 : q' 1 = q 1) (h3 : q' 3 = q 3) : a_wo q' k bg ch P = a_wo q k bg ch P := by
  funext gs
  induction gs with
  | nil =>
    funext d h i j
    unfold a_wo
    rfl
  | cons g gs ih =>
    funext d h i j
    unfold a_wo
    rw [h0, h1, h3, ih]
theorem wb_cq (h0 : q' 0 = q 0) (h1 : q' 1 = q 1) (h3 : q' 3 = q 3) {lt lg : Nat} : a_wb q' k bg ch P lt lg = a_wb q k bg ch P lt lg := by
  funext gs
  induction gs with
  | nil =>
    funext d h i j
    unfold a_wb
    rfl
  | cons g gs ih =>
    funext d h i j
    unfold a_wb
    rw [h0, h1, h3, ih]
theorem ct_cq (h2 : q' 2 = q 2) {G : aC} {g2 : aG} {fin : Int} {e : Nat} : a_ct q' k bg P G g2 fin e = a_ct q k bg P G g2 fin e := by
  funext cs
  induction cs with
  | nil =>
    funext s s'
    unfold a_ct
    rfl
  | cons c cs ih =>
    funext s s'
    unfold a_ct
    rw [h2, ih]
theorem nd_cq (h0 : q' 0 = q 0) (h1 : q' 1 = q 1) (h2 : q' 2 = q 2) (h3 : q' 3 = q 3) : a_node q' k bg ch P = a_node q k bg ch P := by
  funext n G i j e
  unfold a_node a_try a_using
  rw [h0, h1, h2, h3, wo_cq h0 h1 h3]
  simp only [wb_cq h0 h1 h3, ct_cq h2, chq_cg h3]
theorem Ld_cq (h0 : q' 0 = q 0) (h1 : q' 1 = q 1) (h2 : q' 2 = q 2) (h3 : q' 3 = q 3) : ∀ m, a_Ld q' k bg ch m = a_Ld q k bg ch m
  | 0 => rfl
  | m + 1 => by
    funext n G i j e
    unfold a_Ld
    rw [nd_cq h0 h1 h2 h3, Ld_cq h0 h1 h2 h3 m]
end PldQ
/-- faults, code and tables are those of what is told -/
def fresh (X : yM) : Prop := kn X ∧ (0 ≤ X 18 4 ∧ X 18 4 ≤ 202) ∧ X 0 8 = 0 ∧ (X 18 4 = 0 → pA X ∧ X 21 1 ≤ 30300 ∧ ∀ p : Nat, (p : Int) < X 1 4 → 0 ≤ X 6 p ∧ pO X p X ∧ rK p X)
/-- two that are alike: b, the tables too -/
def same2 (b : Prop) (X Y : yM) : Prop := (∀ a i, 1 ≤ a ∧ a ≤ 17 → Y a i = X a i) ∧ Y 18 4 = X 18 4 ∧ (X 18 4 = 0 → (∀ p : Nat, (p : Int) < X 1 4 → sP b p X Y) ∧ (b → Y 21 1 = X 21 1 ∧ ∀ k : Nat, (k : Int) < 4 * X 21 1 → Y 22 k = X 22 k))
/-- what stays -/
def frR (M X : yM) : Prop := (∀ a i, (a ≤ 12 ∧ ¬ (a = 0 ∧ i = 8)) ∨ a = 23 ∨ 196 ≤ a → X a i = M a i) ∧ ∀ a i : Nat, 1 ≤ a ∧ a ≤ 17 → M 1 7 ≤ (i : Int) → X a i = M a i
section PaaA
variable {K p j c1 c2 : Nat} {P P' M N X Y Z : yM} {b : Prop} {v x y : Int}
theorem yq_cg (h : ∀ a, 1 ≤ a ∧ a ≤ 17 → P' a = P a) {c : Nat} (hc : c ≤ 3) : yq P' c = yq P c := h (7 + c) (by omega)
theorem pO_P (h : ∀ a, 1 ≤ a ∧ a ≤ 17 → P' a = P a) (hO : pO P p M) : pO P' p M := by
  obtain ⟨a1, a2, a3, a4, m, e, b1, b2⟩ := hO
  refine ⟨a1, a2, ?_, a4, m, e, ?_, b2⟩
  · rw [h 1 (by decide), h 13 (by decide)]
    exact a3
  · rw [h 6 (by decide), Ld_cq (yq_cg h (by decide)) (yq_cg h (by decide)) (yq_cg h (by decide)) (yq_cg h (by decide))]
    exact b1
theorem pA_P (h : ∀ a, 1 ≤ a ∧ a ≤ 17 → P' a = P a) (hA : pA P) : pA P' := by
  unfold pA nO prt prc at *
  rw [h 1 (by decide), h 7 (by decide), h 8 (by decide), h 9 (by decide), h 10 (by decide), h 11 (by decide), h 13 (by decide), h 14 (by decide), h 15 (by decide)]
  exact hA
theorem kn_P (hI : pI M) (h : ∀ a i, a ≤ 17 → X a i = M a i) (hk : kn M) : kn X := fun n hn => by
  rw [h 1 7 (by decide)] at hn
  exact ⟨d1_cg (fun a i ha => h a i (by omega)) (hk n hn).1, d2_cg hI hn (fun a i ha => h a i (by omega)) (fun i _ => h 16 i (by decide)) (fun i _ => h 17 i (by decide)) (hk n hn).2⟩
theorem frR_trans (h7 : X 1 7 = M 1 7) (h1 : frR M X) (h2 : frR X Y) : frR M Y := ⟨fun a i q => (h2.1 a i q).trans (h1.1 a i q), fun a i q1 q2 => (h2.2 a i q1 (by omega)).trans (h1.2 a i q1 q2)⟩
theorem pU_I (hI : pI M) : pU M := by
  intro x h13 h8
  have hnn := hI.1
  have hz := hI.2.2.2.2.1
  have key : ∀ n : Nat, n < 90 → M 7 n = 13 → ¬ (M 8 n = -1 ∧ M 10 n = -1) := fun n _ q => by
    have hn : (n : Int) < M 1 7 := by
      rcases Int.lt_or_le n (M 1 7) with r | r
      · exact r
      · have := hz n r; omega
    exact ((hI.2.2.2.1 n hn).2.2.2.2.2.2.2.2.2.2.1 q).2.2.2
  have hsm : ∀ n : Nat, n < 90 → ysm (M 7 n) := fun n _ => by
    rcases Int.lt_or_le n (M 1 7) with r | r
    · have := (hI.2.2.2.1 n r).1
      exact ⟨by omega, by omega⟩
    · rw [hz n r]; exact ⟨by decide, by decide⟩
  unfold yrd at h13 h8 ⊢
  by_cases q : 0 ≤ yw x ∧ (yw x).toNat < 90
  · rw [if_pos (by exact q)] at h13 h8 ⊢
    rw [rel0 (hsm _ q.2) ⟨by decide, by decide⟩] at h13
    have e13 := of_decide_eq_true h13
    have hn : ((yw x).toNat : Int) < M 1 7 := by
      rcases Int.lt_or_le ((yw x).toNat : Int) (M 1 7) with r | r
      · exact r
      · have := hz _ r; omega
    obtain ⟨-, o2, o3, o4⟩ := (hI.2.2.2.1 _ hn).2.2.2.2.2.2.2.2.2.2.1 e13
    have hnp := hI.2.1
    rw [rel0 ⟨by omega, by omega⟩ ⟨by decide, by decide⟩] at h8
    have e8 := of_decide_eq_true h8
    rw [rel0 ⟨by omega, by omega⟩ ⟨by decide, by decide⟩]
    exact decide_eq_false fun e10 => o4 ⟨e8, e10⟩
  · rw [if_neg (by exact q)] at h13
    exact absurd h13 (by decide)
/-- all is made anew, in two runs -/
theorem R_31 (hK : 1000 ≤ K) (hI : pI M) (h4 : M 1 4 ≤ 4) (hWM : gW M) (hWN : gW N) (hsM : M 0 8 = 1) (hsN : N 0 8 = 1) (h7 : M 0 7 = 0 ∨ M 0 7 = 1) (h7' : N 0 7 = 0 ∨ N 0 7 = 1) (hb : b → N 0 7 = M 0 7) (hE : ∀ a i, 1 ≤ a ∧ a ≤ 12 → N a i = M a i) (hE2 : ∀ a i : Nat, 1 ≤ a ∧ a ≤ 17 → M 1 7 ≤ (i : Int) → N a i = M a i) :
    ∃ X Y c1' c2', f_31 K c1 M = some (X, c1') ∧ f_31 K c2 N = some (Y, c2') ∧ (frR M X ∧ frR N Y) ∧ (gW X ∧ gW Y) ∧ (fresh X ∧ fresh Y) ∧ same2 b X Y ∧ (pC c1 → pC c1') ∧ (pC c2 → pC c2') := by
  have eM : ∀ (Q : yM) a i, ¬ (a = 0 ∧ i = 8) → yU Q 0 8 0 a i = Q a i := fun Q a i q => yU_ne q
  have hIN : pI N := pI_cg hE hI
  have hI2 : pI (yU M 0 8 0) := pI_cg (fun a i ha => eM M a i (by omega)) hI
  have hJ2 : pI (yU N 0 8 0) := pI_cg (fun a i ha => eM N a i (by omega)) hIN
  obtain ⟨M3, f1, f2, f3, f4⟩ := f114_ok (N := K) hI2 (by omega)
  obtain ⟨N3, g1, g2, g3, g4⟩ := f114_ok (N := K) hJ2 (by omega)
  rw [eM M 1 7 (by omega)] at f3
  rw [eM N 1 7 (by omega)] at g3
  have k17 : N 1 7 = M 1 7 := hE 1 7 (by decide)
  have hI3 : pI M3 := pI_cg (fun a i ha => f2 a i (by omega)) hI2
  have m17 : M3 1 7 = M 1 7 := (f2 1 7 (by omega)).trans (eM M 1 7 (by omega))
  have hEQ : eqP M3 N3 := fun a ha => funext fun i => by
    rcases Int.lt_or_le i (M3 1 7) with q | q
    · exact kn_uni hI3 (fun a i ha => by rw [f2 a i (by omega), g2 a i (by omega), eM _ _ _ (by omega), eM _ _ _ (by omega)]; exact hE a i ha) f4 g4 q a ha
    · rw [f3 a i (by omega), g3 a i (by omega), eM _ _ _ (by omega), eM _ _ _ (by omega)]
      exact hE2 a i ha (by omega)
  obtain ⟨M4, N4, e1, e2, s1, s2, s3, s4, s5⟩ := f74_ok (N := K) (P := M3) (M := M3) (M2 := N3) hI3 f4 (by omega) (fun _ _ => rfl) hEQ
  have eF : ∀ (Q : yM) (c : Nat), Q 0 8 = 1 → f_31 K c Q = Option.bind (f_114 K (yU Q 0 8 0)) fun t3 => (Option.bind (f_74 K t3) fun t4 => (cond (yrel 5 (t4 18 4) 0) (ylet (yU t4 21 1 0) fun M6 => (f_31_24 K K M6 c 0)) (some (t4, c)))) := fun Q c q => by
    unfold f_31
    rw [q, show yrel 1 1 0 = true from rfl, cond_true, ylet_eq]
  have r1 : f_31 K c1 M = cond (yrel 5 (M4 18 4) 0) (ylet (yU M4 21 1 0) fun M6 => (f_31_24 K K M6 c1 0)) (some (M4, c1)) := by
    rw [eF M c1 hsM, f1]
    show Option.bind (f_74 K M3) _ = _
    rw [e1]; rfl
  have r2 : f_31 K c2 N = cond (yrel 5 (N4 18 4) 0) (ylet (yU N4 21 1 0) fun M6 => (f_31_24 K K M6 c2 0)) (some (N4, c2)) := by
    rw [eF N c2 hsN, g1]
    show Option.bind (f_74 K N3) _ = _
    rw [e2]; rfl
  rw [s3, rel5 ⟨by omega, by omega⟩ ⟨by decide, by decide⟩] at r2
  rw [rel5 ⟨by omega, by omega⟩ ⟨by decide, by decide⟩] at r1
  have gW1 : ∀ {Q R : yM}, gW Q → R 21 1 = Q 21 1 → R 21 2 = Q 21 2 → (∀ i, R 103 i = Q 103 i ∧ R 104 i = Q 104 i) → gW R := fun {Q R} q1 q2 q3 q4 => by
    unfold gW tI at q1 ⊢
    rw [q2, q3]
    refine ⟨q1.1, fun c hc => ?_⟩
    rw [(q4 c).1, (q4 c).2]
    exact q1.2 c hc
  have mM : ∀ a i, (a < 13 ∨ 17 < a) → a ≠ 18 → a ≠ 19 → a ≠ 20 → ¬ (a = 0 ∧ i = 8) → M4 a i = M a i := fun a i q1 q2 q3 q4 q5 => by
    rw [s1 a i q2 q3 q4, f2 a i q1, eM M a i q5]
  have nN : ∀ a i, (a < 13 ∨ 17 < a) → a ≠ 18 → a ≠ 19 → a ≠ 20 → ¬ (a = 0 ∧ i = 8) → N4 a i = N a i := fun a i q1 q2 q3 q4 q5 => by
    rw [s2 a i q2 q3 q4, g2 a i q1, eM N a i q5]
  have gM4 : gW M4 := gW1 hWM (mM _ _ (by omega) (by omega) (by omega) (by omega) (by omega)) (mM _ _ (by omega) (by omega) (by omega) (by omega) (by omega)) fun i => ⟨mM _ _ (by omega) (by omega) (by omega) (by omega) (by omega), mM _ _ (by omega) (by omega) (by omega) (by omega) (by omega)⟩
  have gN4 : gW N4 := gW1 hWN (nN _ _ (by omega) (by omega) (by omega) (by omega) (by omega)) (nN _ _ (by omega) (by omega) (by omega) (by omega) (by omega)) fun i => ⟨nN _ _ (by omega) (by omega) (by omega) (by omega) (by omega), nN _ _ (by omega) (by omega) (by omega) (by omega) (by omega)⟩
  have m3 : ∀ a i, a ≤ 17 → M4 a i = M3 a i := fun a i ha => s1 a i (by omega) (by omega) (by omega)
  have n3 : ∀ a i, a ≤ 17 → N4 a i = N3 a i := fun a i ha => s2 a i (by omega) (by omega) (by omega)
  have m8 : M4 0 8 = 0 := by rw [m3 0 8 (by omega), f2 0 8 (by omega), yU_at]
  have n8 : N4 0 8 = 0 := by rw [n3 0 8 (by omega), g2 0 8 (by omega), yU_at]
  have hJ3 : pI N3 := pI_cg (fun a i ha => g2 a i (by omega)) hJ2
  have up : ∀ {Q R T : yM}, (∀ a i, (a < 13 ∨ 17 < a) → a ≠ 18 → a ≠ 19 → a ≠ 20 → ¬ (a = 0 ∧ i = 8) → Q a i = T a i) → (∀ a i : Nat, 1 ≤ a ∧ a ≤ 17 → T 1 7 ≤ (i : Int) → Q a i = T a i) → (∀ a i, (a ≤ 17 ∨ a = 23 ∨ 196 ≤ a) → R a i = Q a i) → frR T R := fun {Q R T} q1 q2 q3 => ⟨fun a i q => (q3 a i (by omega)).trans (q1 a i (by omega) (by omega) (by omega) (by omega) (by omega)), fun a i q r => (q3 a i (by omega)).trans (q2 a i q r)⟩
  have mo4 : ∀ a i : Nat, 1 ≤ a ∧ a ≤ 17 → M 1 7 ≤ (i : Int) → M4 a i = M a i := fun a i ha q => by rw [m3 a i (by omega), f3 a i q, eM M a i (by omega)]
  have no4 : ∀ a i : Nat, 1 ≤ a ∧ a ≤ 17 → N 1 7 ≤ (i : Int) → N4 a i = N a i := fun a i ha q => by rw [n3 a i (by omega), g3 a i q, eM N a i (by omega)]
  by_cases hz : M4 18 4 ≤ 0
  · rw [cond_dt hz, ylet_eq] at r1 r2
    have z4 : M4 18 4 = 0 := by omega
    have hok := s5 z4
    have hA : pA M3 := pA_ok hI3 f4 (by omega) hok
    have hB : ∀ p : Nat, (p : Int) < M3 1 4 → bO M3 p := fun p hp => bO_ok hI3 f4 hp (hok p (by omega) hp).1
    have e6 : ∀ (Q : yM) a i, ¬ (a = 21 ∧ i = 1) → yU Q 21 1 0 a i = Q a i := fun Q a i q => yU_ne q
    have tI6 : ∀ {Q : yM}, gW Q → gW (yU Q 21 1 0) := fun {Q} q => by
      unfold gW tI at q ⊢
      rw [yU_at, e6 Q 21 2 (by omega)]
      refine ⟨by omega, fun c hc => ?_⟩
      rw [e6 Q 103 c (by omega), e6 Q 104 c (by omega)]
      exact q.2 c hc
    have hin : inL b M3 0 (yU M4 21 1 0) (yU N4 21 1 0) := by
      refine ⟨fun a i ha => ?_, ⟨tI6 gM4, tI6 gN4⟩, ?_, ?_, fun hbb => ?_, fun _ => ?_⟩
      · rw [e6 _ a i (by omega), e6 _ a i (by omega), m3 a i (by omega), n3 a i (by omega), hEQ a ha]
        exact ⟨rfl, rfl⟩
      · rw [e6 _ 18 4 (by omega), e6 _ 18 4 (by omega)]
        exact ⟨s3, s4⟩
      · rw [e6 _ 0 7 (by omega), e6 _ 0 7 (by omega), mM _ _ (by omega) (by omega) (by omega) (by omega) (by omega), nN _ _ (by omega) (by omega) (by omega) (by omega) (by omega)]
        exact ⟨h7, h7', hb⟩
      · rw [yU_at, yU_at]
        exact ⟨rfl, fun k hk => by omega⟩
      · rw [yU_at, yU_at]
        exact ⟨by omega, fun p hp => absurd hp (Nat.not_lt_zero p)⟩
    have m14 : M3 1 4 = M 1 4 := (f2 1 4 (by omega)).trans (eM M 1 4 (by omega))
    have hnp := hI3.2.1
    obtain ⟨X, Y, c1', c2', u1, u2, u3, u4, u5, u6, u7⟩ := L24 (K := K) hK (pU_I hI3) hA (by omega) hB 4 K 0 _ _ c1 c2 hin (by omega) (by omega) (by omega)
    obtain ⟨v1, v2, v3, v4, v5, v6⟩ := u3
    have x3 : ∀ a i, a ≤ 17 → X a i = M3 a i := fun a i ha => (u4 a i (by omega)).trans ((e6 _ a i (by omega)).trans (m3 a i ha))
    have y3 : ∀ a i, a ≤ 17 → Y a i = N3 a i := fun a i ha => (u5 a i (by omega)).trans ((e6 _ a i (by omega)).trans (n3 a i ha))
    have xP : ∀ a, 1 ≤ a ∧ a ≤ 17 → X a = M3 a := fun a ha => funext fun i => (v1 a i ha).1
    have yP : ∀ a, 1 ≤ a ∧ a ≤ 17 → Y a = M3 a := fun a ha => funext fun i => (v1 a i ha).2
    have x14 : X 1 4 = M3 1 4 := x3 1 4 (by omega)
    have y14 : Y 1 4 = M3 1 4 := congrFun (yP 1 (by decide)) 4
    refine ⟨X, Y, c1', c2', r1.trans u1, r2.trans u2, ⟨up mM mo4 fun a i q => (u4 a i (by omega)).trans (e6 _ a i (by omega)), up nN no4 fun a i q => (u5 a i (by omega)).trans (e6 _ a i (by omega))⟩, v2, ⟨⟨kn_P hI3 x3 f4, v3.2, (x3 0 8 (by omega)).trans ((m3 0 8 (by omega)).symm.trans m8), fun z => ?_⟩, kn_P hJ3 y3 g4, by rw [v3.1]; exact v3.2, (y3 0 8 (by omega)).trans ((n3 0 8 (by omega)).symm.trans n8), fun z => ?_⟩, ⟨fun a i ha => by rw [xP a ha, yP a ha], v3.1, fun z => ?_⟩, u6, u7⟩
    · obtain ⟨w1, w2⟩ := v6 z
      refine ⟨pA_P xP hA, by omega, fun p hp => ?_⟩
      have := w2 p (by omega)
      refine ⟨?_, pO_P xP this.1.1, this.1.2⟩
      rw [xP 6 (by decide)]
      exact (hok p (by omega) (by omega)).1
    · obtain ⟨w1, w2⟩ := v6 (by rw [← v3.1]; exact z)
      refine ⟨pA_P yP hA, by omega, fun p hp => ?_⟩
      have := w2 p (by omega)
      refine ⟨?_, pO_P yP this.2.1.1, this.2.1.2⟩
      rw [yP 6 (by decide)]
      exact (hok p (by omega) (by omega)).1
    · exact ⟨fun p hp => ((v6 z).2 p (by omega)).2.2, v5⟩
  · rw [cond_df hz] at r1 r2
    refine ⟨M4, N4, c1, c2, r1, r2, ⟨up mM mo4 fun a i _ => rfl, up nN no4 fun a i _ => rfl⟩, ⟨gM4, gN4⟩, ⟨⟨kn_P hI3 m3 f4, s4, m8, fun z => absurd z (by omega)⟩, kn_P hJ3 n3 g4, by rw [s3]; exact s4, n8, fun z => absurd z (by omega)⟩, ⟨fun a i ha => by rw [m3 a i (by omega), n3 a i (by omega), hEQ a ha], s3, fun z => absurd z (by omega)⟩, id, id⟩
end PaaA
