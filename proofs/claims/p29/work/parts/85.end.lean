/-! what an instruction is in the end; what is laid behind the b of a USING -/
section UsE
variable {cc d e b i N n n' r o c g lo : Nat} {P M M' M0 Ma M1 M2 M3 M4 M5 M6 MB Mc Me Mp Mq : yM} {op x y z nd gd lb v L L1 p u ca fr to w l : Int} {tgt tgt1 : Int → Nat} {k : Nat → Nat → Int} {bg : Nat → List Nat} {ch : Nat → List (Int × Int)} {H H1 : Int → List (Int × Int)} {hl : List (Int × Int)} {G G1 : aC} {ly : yM → Int → Int → Option yM} {cs : List tC}
/-- what an instruction is in the end -/
theorem at_end (hI0 : 0 ≤ M cc 0) (hD : eD cc M M' op x y z nd gd lb) (hK : lK cc M' Me) (hx : lb ≤ 0 → Me (cc + 2) (M cc 0).toNat = x) (hA1 : lA cc Me L tgt k bg fr to) (h1 : fr ≤ M cc 0) (h2 : M cc 0 < to) (hz : M (cc + 7) (M cc 0).toNat = 0) (hlb : lb ≤ 0 ∨ L < lb) : bg (M cc 0).toNat = [] ∧ k 1 (M cc 0).toNat = op ∧ (lb ≤ 0 → k 2 (M cc 0).toNat = x) ∧ (0 < lb → k 2 (M cc 0).toNat = Me (cc + 2) (M cc 0).toNat) ∧ k 5 (M cc 0).toNat = nd ∧ Me (cc + 1) (M cc 0).toNat = op ∧ Me 101 (M cc 0).toNat = gd := by
  obtain ⟨⟨c1, c2, c3, c4, c5, c6⟩, cX, ⟨ua, ub, u1, u2, u3, u4, u5⟩, u67, u8, uc, up⟩ := hD
  obtain ⟨i1, i2, i3⟩ := hK.2.1 (M cc 0).toNat (by omega)
  obtain ⟨a1, a2, a3, a4, a5, a6⟩ := hA1 (M cc 0).toNat (by omega) (by omega)
  have e1 := i3 1 (by omega) (by omega) (by omega)
  refine ⟨?_, by rw [a1, e1, u1], fun q => ?_, fun q => ?_, by rw [a4, i3 5 (by omega) (by omega) (by omega), u5], by rw [e1, u1], by rw [i1, ua]⟩
  · rw [a6]
    refine bgl_0 ?_
    rw [i3 7 (by omega) (by omega) (by omega), (u67 _).1, hz]
  · rw [a5, i2, ub, if_neg (by omega), hx q]
  · rw [a5, i2, ub, if_neg (by omega)]
set_option maxHeartbeats 4000000 in
/-- what is laid behind b -/
theorem us_end {p : Nat} {M7 M8 M9 M10 M11 : yM} {cl : Int} (q5 : M5 cc 0 = (p : Int)) (q6 : M6 cc 0 = (p : Int) + 1) (q7 : M7 cc 0 = (p : Int) + 2) (q8 : M8 cc 0 = (p : Int) + 3) (q9 : M9 cc 0 = (p : Int) + 4) (q10 : M10 cc 0 = (p : Int) + 5) (qe : Me cc 0 = (p : Int) + 6) (qe3 : Me cc 0 ≤ 300) (hfr : fr ≤ (p : Int))
    (D6 : eD cc M5 M6 17 cl 0 0 (n : Int) gd 0) (D7 : eD cc M6 M7 6 0 0 0 (n : Int) gd lb) (D8 : eD cc M7 M8 11 (ca) 0 0 (n : Int) gd 0) (D9 : eD cc M8 M9 17 cl 0 0 (n : Int) gd 0) (D10 : eD cc M9 M10 12 ca 0 0 (n : Int) gd 0) (D11 : eD cc M10 M11 19 ca 0 0 (n : Int) gd 0)
    (E5 : lE cc M5) (E6 : lE cc M6) (E7 : lE cc M7) (E8 : lE cc M8) (E9 : lE cc M9) (E10 : lE cc M10) (K6e : lK cc M6 Me) (K7e : lK cc M7 Me) (K8e : lK cc M8 Me) (K9e : lK cc M9 Me) (K10e : lK cc M10 Me) (K11e : lK cc M11 Me)
    (x6 : Me (cc + 2) p = cl) (x7 : Me (cc + 2) (p + 1) = Me cc 0) (x8 : Me (cc + 2) (p + 2) = ca) (x9 : Me (cc + 2) (p + 3) = cl) (x10 : Me (cc + 2) (p + 4) = ca) (x11 : Me (cc + 2) (p + 5) = ca) (hlb : 0 < lb ∧ L < lb) (hA1 : lA cc Me L tgt k bg fr (Me cc 0)) (seen : ∀ t : Nat, (p : Int) ≤ (t : Int) → (t : Int) < Me cc 0 → a_may (Me (cc + 1) t) → ch t = (if (t : Int) = (p : Int) + 3 then [(-1, (p : Int) + 5)] else []) ++ H (Me 101 t)) (hRg : H gd = hl) :
    (bg p = [] ∧ k 1 p = 17 ∧ k 2 p = cl ∧ k 5 p = (n : Int) ∧ ch p = hl) ∧ (bg (p + 1) = [] ∧ k 1 (p + 1) = 6 ∧ k 2 (p + 1) = Me cc 0) ∧ (bg (p + 2) = [] ∧ k 1 (p + 2) = 11 ∧ k 2 (p + 2) = ca) ∧ (bg (p + 3) = [] ∧ k 1 (p + 3) = 17 ∧ k 2 (p + 3) = cl ∧ k 5 (p + 3) = (n : Int) ∧ ch (p + 3) = (-1, (p : Int) + 5) :: hl) ∧ (bg (p + 4) = [] ∧ k 1 (p + 4) = 12 ∧ k 2 (p + 4) = ca ∧ ch (p + 4) = hl) ∧ (bg (p + 5) = [] ∧ k 1 (p + 5) = 19 ∧ k 2 (p + 5) = ca ∧ ch (p + 5) = hl) := by
  have p5 : (M5 cc 0).toNat = p := by omega
  have p6 : (M6 cc 0).toNat = p + 1 := by omega
  have p7 : (M7 cc 0).toNat = p + 2 := by omega
  have p8 : (M8 cc 0).toNat = p + 3 := by omega
  have p9 : (M9 cc 0).toNat = p + 4 := by omega
  have p10 : (M10 cc 0).toNat = p + 5 := by omega
  obtain ⟨A6a, A6b, A6c, -, A6d, A6e, A6f⟩ := at_end (by omega) D6 K6e (fun _ => by rw [p5]; exact x6) hA1 (by omega) (by omega) (E5 _ (by omega) (by omega)) (Or.inl (Int.le_refl _))
  obtain ⟨A7a, A7b, -, A7c, A7d, A7e, A7f⟩ := at_end (by omega) D7 K7e (fun q => absurd q (by omega)) hA1 (by omega) (by omega) (E6 _ (by omega) (by omega)) (Or.inr hlb.2)
  obtain ⟨A8a, A8b, A8c, -, A8d, A8e, A8f⟩ := at_end (by omega) D8 K8e (fun _ => by rw [p7]; exact x8) hA1 (by omega) (by omega) (E7 _ (by omega) (by omega)) (Or.inl (Int.le_refl _))
  obtain ⟨A9a, A9b, A9c, -, A9d, A9e, A9f⟩ := at_end (by omega) D9 K9e (fun _ => by rw [p8]; exact x9) hA1 (by omega) (by omega) (E8 _ (by omega) (by omega)) (Or.inl (Int.le_refl _))
  obtain ⟨A10a, A10b, A10c, -, A10d, A10e, A10f⟩ := at_end (by omega) D10 K10e (fun _ => by rw [p9]; exact x10) hA1 (by omega) (by omega) (E9 _ (by omega) (by omega)) (Or.inl (Int.le_refl _))
  obtain ⟨A11a, A11b, A11c, -, A11d, A11e, A11f⟩ := at_end (by omega) D11 K11e (fun _ => by rw [p10]; exact x11) hA1 (by omega) (by omega) (E10 _ (by omega) (by omega)) (Or.inl (Int.le_refl _))
  rw [p5] at A6a A6b A6c A6d A6e A6f
  rw [p6] at A7a A7b A7c A7d A7e A7f
  rw [p7] at A8a A8b A8c A8d A8e A8f
  rw [p8] at A9a A9b A9c A9d A9e A9f
  rw [p9] at A10a A10b A10c A10d A10e A10f
  rw [p10] at A11a A11b A11c A11d A11e A11f
  have mayc : ∀ o : Int, o = 12 ∨ o = 17 ∨ o = 19 → a_may o := fun o h => by
    unfold a_may
    omega
  refine ⟨⟨A6a, A6b, A6c (Int.le_refl _), A6d, ?_⟩, ⟨A7a, A7b, (A7c hlb.1).trans x7⟩, ⟨A8a, A8b, A8c (Int.le_refl _)⟩, ⟨A9a, A9b, A9c (Int.le_refl _), A9d, ?_⟩, ⟨A10a, A10b, A10c (Int.le_refl _), ?_⟩, A11a, A11b, A11c (Int.le_refl _), ?_⟩
  · rw [seen _ (by omega) (by omega) (by rw [A6e]; exact mayc _ (by omega)), if_neg (by omega), A6f, hRg]; rfl
  · rw [seen _ (by omega) (by omega) (by rw [A9e]; exact mayc _ (by omega)), if_pos (by omega), A9f, hRg]; rfl
  · rw [seen _ (by omega) (by omega) (by rw [A10e]; exact mayc _ (by omega)), if_neg (by omega), A10f, hRg]; rfl
  · rw [seen _ (by omega) (by omega) (by rw [A11e]; exact mayc _ (by omega)), if_neg (by omega), A11f, hRg]; rfl
end UsE
