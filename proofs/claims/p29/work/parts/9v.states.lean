/-! an object as the law meets it -/
/-- what always holds of an object that is used well -/
def stt (M : yM) : Prop := pI M ∧ pX M ∧ gW M ∧ M 1 4 ≤ 4 ∧ (M 0 7 = 0 ∨ M 0 7 = 1) ∧ (M 0 8 = 1 ∨ (M 0 8 = 0 ∧ fresh M))
/-- faults, code and tables were made anew out of O: what was so, is so -/
def org (K : Nat) (M : yM) : Prop := ∃ O X : yM, ∃ c c' : Nat, stt O ∧ O 0 8 = 1 ∧ f_31 K c O = some (X, c') ∧ frR O X ∧ (∀ a i, 1 ≤ a ∧ a ≤ 195 → M a i = X a i) ∧ O 0 7 = M 0 7
/-- an object that is not stale -/
def fst' (K : Nat) (M : yM) : Prop := stt M ∧ M 0 8 = 0 ∧ org K M
section PakA
variable {M N O X Y Z : yM} {a K n m p c c' i j : Nat} {x y z t mo de v w : Int} {b : Prop}
theorem f31_0 (h : M 0 8 = 0) : f_31 K c M = some (M, c) := by
  unfold f_31
  rw [h]; rfl
theorem stt_R (h : stt M) (hf : frR M X) (hg : gW X) (hfr : fresh X) : stt X := by
  obtain ⟨h1, h2, h3, h4, h5, h6⟩ := h
  have e : ∀ a i, 1 ≤ a ∧ a ≤ 12 → X a i = M a i := fun a i ha => hf.1 a i (by omega)
  have e4 : X 4 = M 4 := funext fun i => e 4 i (by decide)
  have e6 : X 6 = M 6 := funext fun i => e 6 i (by decide)
  refine ⟨pI_cg e h1, ⟨?_, ?_⟩, hg, by rw [e 1 4 (by decide)]; exact h4, by rw [hf.1 0 7 (by omega)]; exact h5, Or.inr ⟨hfr.2.2.1, hfr⟩⟩
  · rw [e 1 4 (by decide), e6]; exact h2.1
  · rw [e 1 0 (by decide), e4]; exact h2.2
theorem fresh_of (h : stt M) (h8 : M 0 8 = 0) : fresh M := by
  rcases h.2.2.2.2.2 with q | q
  · rw [h8] at q; exact absurd q (by decide)
  · exact q.2
/-- faults, code and tables made anew, if need be -/
theorem A_31 (hK : 1000 ≤ K) (h : stt M) (hs : M 0 8 = 1 ∨ fst' K M) : ∃ X c', f_31 K c M = some (X, c') ∧ fst' K X ∧ frR M X ∧ (M 0 8 = 0 → X = M) := by
  rcases hs with q | q
  · obtain ⟨X, Y, c1, c2, e1, e2, ⟨f1, f2⟩, ⟨g1, g2⟩, ⟨u1, u2⟩, s, -⟩ := R_31 (b := True) (c1 := c) (c2 := c) hK h.1 h.2.2.2.1 h.2.2.1 h.2.2.1 q q h.2.2.2.2.1 h.2.2.2.2.1 (fun _ => rfl) (fun _ _ _ => rfl) (fun _ _ _ _ => rfl)
    exact ⟨X, c1, e1, ⟨stt_R h f1 g1 u1, u1.2.2.1, M, X, c, c1, h, q, e1, f1, fun _ _ _ => rfl, (f1.1 0 7 (by omega)).symm⟩, f1, fun z => by rw [q] at z; exact absurd z (by decide)⟩
  · exact ⟨M, c, f31_0 q.2.1, q, ⟨fun _ _ _ => rfl, fun _ _ _ _ => rfl⟩, fun _ => rfl⟩
/-- what only runs have changed -/
theorem fst_M (h : fst' K M) (hX : ∀ a i, a ≤ 195 → ¬ (a = 0 ∧ 9 ≤ i) → X a i = M a i) : fst' K X := by
  obtain ⟨⟨h1, h2, h3, h4, h5, h6⟩, h7, O, R, c, c', o2, o3, o4, o5, o6, o7⟩ := h
  have e : ∀ a, 1 ≤ a → a ≤ 195 → X a = M a := fun a h1 h2 => funext fun i => hX a i h2 (by omega)
  have e8 : X 0 8 = M 0 8 := hX 0 8 (by omega) (by omega)
  have e7 : X 0 7 = M 0 7 := hX 0 7 (by omega) (by omega)
  have hg : gW X := by
    unfold gW tI at h3 ⊢
    rw [e 21 (by decide) (by decide), e 103 (by decide) (by decide), e 104 (by decide) (by decide)]
    exact h3
  have hI : pI X := pI_cg (fun a i ha => hX a i (by omega) (by omega)) h1
  have hf := fresh_of ⟨h1, h2, h3, h4, h5, h6⟩ h7
  have hfr : fresh X := by
    obtain ⟨f1, f2, f3, f4⟩ := hf
    have eP : ∀ a, 1 ≤ a ∧ a ≤ 17 → X a = M a := fun a ha => e a ha.1 (by omega)
    refine ⟨fun n hn => ?_, by rw [e 18 (by decide) (by decide)]; exact f2, by rw [e8]; exact f3, fun z => ?_⟩
    · rw [e 1 (by decide) (by decide)] at hn
      obtain ⟨k1, k2⟩ := f1 n hn
      have z0 : ∀ a i, a ≤ 17 → zP0 M X a i = M a i := fun a i ha => by
        unfold zP0
        by_cases q : a = 0
        · rw [if_pos q, q]
        · rw [if_neg q, e a (by omega) (by omega)]
      have r1 : d1 (zP0 M X) n := d1_cg (fun a i ha => z0 a i (by omega)) k1
      have r2 : d2 (zP0 M X) n := d2_cg h1 hn (fun a i ha => z0 a i (by omega)) (fun i _ => z0 16 i (by decide)) (fun i _ => z0 17 i (by decide)) k2
      refine ⟨r1, ?_⟩
      have hv : vC X n = vC M n := vC_cg h1 hn (fun a i ha => by rw [eP a (by omega)]) (by rw [eP 14 (by decide)]) (fun i _ => by rw [eP 16 (by decide)]) (fun i _ => by rw [eP 17 (by decide)])
      have hn' : vN X n ↔ vN M n := vN_cg h1 hn (fun a i ha => by rw [eP a (by omega)]) (fun i _ => by rw [eP 17 (by decide)])
      exact ⟨by rw [eP 16 (by decide), hv]; exact k2.1, (congrFun (eP 17 (by decide)) n).trans (k2.2.trans (ifeq hn'.symm))⟩
    · rw [e 18 (by decide) (by decide)] at z
      obtain ⟨g1, g2, g3⟩ := f4 z
      refine ⟨pA_P eP g1, by rw [e 21 (by decide) (by decide)]; exact g2, fun p hp => ?_⟩
      rw [e 1 (by decide) (by decide)] at hp
      obtain ⟨q1, q2, q3⟩ := g3 p hp
      have h8 := h1.2.1
      have hK := pO_K (X := X) q2 q3 (fun a i ha => by rw [e a (by omega) (by omega)]) (fun k _ => by rw [e 22 (by decide) (by decide)]) (by rw [e 21 (by decide) (by decide)]; exact Int.le_refl _)
      exact ⟨by rw [e 6 (by decide) (by decide)]; exact q1, pO_P eP hK.1, hK.2⟩
  refine ⟨⟨hI, ⟨by rw [e 1 (by decide) (by decide), e 6 (by decide) (by decide)]; exact h2.1, by rw [e 1 (by decide) (by decide), e 4 (by decide) (by decide)]; exact h2.2⟩, hg, by rw [e 1 (by decide) (by decide)]; exact h4, by rw [e7]; exact h5, Or.inr ⟨by rw [e8]; exact h7, hfr⟩⟩, by rw [e8]; exact h7, O, R, c, c', o2, o3, o4, o5, fun a i ha => by rw [e a ha.1 ha.2]; exact o6 a i ha, by rw [e7]; exact o7⟩
theorem sP_l (e : ∀ a, 1 ≤ a → a ≤ 195 → M a = X a) (hp : p < 8) (h : sP b p X Y) : sP b p M Y := by
  have eB : bM M p = bM X p := funext fun t => by
    unfold bM
    rw [e (24 + 9 * p) (by omega) (by omega), e (24 + 9 * p + 7) (by omega) (by omega), e (24 + 9 * p + 6) (by omega) (by omega), e (24 + 9 * p + 8) (by omega) (by omega)]
  have eC : cH4 M p = cH4 X p := funext fun t => by
    unfold cH4
    rw [e (24 + 9 * p) (by omega) (by omega)]
    exact hk_eq _ fun k _ => by rw [e 22 (by decide) (by decide)]
  obtain ⟨a1, a2, a3, a4, a5, a6⟩ := h
  unfold sP
  rw [eB, eC, e (24 + 9 * p) (by omega) (by omega), e (24 + 9 * p + 7) (by omega) (by omega), e (24 + 9 * p + 1) (by omega) (by omega), e 21 (by decide) (by decide), e 22 (by decide) (by decide)]
  exact ⟨a1, a2, fun t ht c c1 c5 => by rw [e (24 + 9 * p + c) (by omega) (by omega)]; exact a3 t ht c c1 c5, a4, a5, a6⟩
/-- the same program told again: all is as it was -/
theorem A_same (hK : 1000 ≤ K) (h : fst' K M) (hN : stt N) (h8 : N 0 8 = 1) (hE : ∀ a i, 1 ≤ a ∧ a ≤ 17 → N a i = M a i) (hb : b → N 0 7 = M 0 7) : ∃ Y c', f_31 K c N = some (Y, c') ∧ fst' K Y ∧ frR N Y ∧ same2 b M Y := by
  obtain ⟨Y, c1, e1, e2, e3, -⟩ := A_31 (c := c) hK hN (Or.inl h8)
  obtain ⟨h1, h2, O, X, c0, c0', o1, o2, o3, o4, o5, o6⟩ := h
  have oM : ∀ a i, 1 ≤ a ∧ a ≤ 12 → N a i = O a i := fun a i ha => by rw [hE a i (by omega), o5 a i (by omega), o4.1 a i (by omega)]
  have oM2 : ∀ a i : Nat, 1 ≤ a ∧ a ≤ 17 → O 1 7 ≤ (i : Int) → N a i = O a i := fun a i ha hi => by rw [hE a i ha, o5 a i (by omega), o4.2 a i ha hi]
  obtain ⟨X', Y', c2, c3, r1, r2, -, -, -, r6, -⟩ := R_31 (b := b) (c1 := c0) (c2 := c) hK o1.1 o1.2.2.2.1 o1.2.2.1 hN.2.2.1 o2 h8 o1.2.2.2.2.1 hN.2.2.2.2.1 (fun hbb => by rw [hb hbb, o6]) oM oM2
  have k1 : X' = X := (Prod.mk.inj (Option.some.inj (r1.symm.trans o3))).1
  have k2 : Y' = Y := (Prod.mk.inj (Option.some.inj (r2.symm.trans e1))).1
  rw [k1, k2] at r6
  refine ⟨Y, c1, e1, e2, e3, ?_⟩
  obtain ⟨s1, s2, s3⟩ := r6
  have e : ∀ a, 1 ≤ a → a ≤ 195 → M a = X a := fun a q1 q2 => funext fun i => o5 a i ⟨q1, q2⟩
  have h8p := o1.1.2.1
  have hnp : X 1 4 = O 1 4 := o4.1 1 4 (by omega)
  refine ⟨fun a i ha => by rw [e a ha.1 (by omega)]; exact s1 a i ha, by rw [e 18 (by decide) (by decide)]; exact s2, fun z => ?_⟩
  rw [e 18 (by decide) (by decide)] at z
  obtain ⟨s4, s5⟩ := s3 z
  rw [e 1 (by decide) (by decide), e 21 (by decide) (by decide), e 22 (by decide) (by decide)]
  exact ⟨fun p hp => sP_l e (by omega) (s4 p hp), s5⟩
end PakA
