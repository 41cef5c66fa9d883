/-! labels are settled; guards that see; rows -/
section RwA
variable {cc d e b i N n o : Nat} {P M M' M0 M1 M2 : yM} {op x y z nd gd lb v x1 x2 x3 x4 x5 : Int}
theorem st_2 (hcc : pC cc) (hlb : 0 < lb ∧ lb ≤ 1000000) : ∀ (n : Nat) {M : yM} {x3 : Int}, (0 ≤ M cc 0 ∧ M cc 0 ≤ 300) → (∀ t : Nat, (t : Int) < M cc 0 → 0 ≤ M 102 t ∧ M 102 t ≤ 1000000) → 0 ≤ x3 → x3 ≤ 300 → 300 - x3 < n → ∃ M', f_69_2 N cc n M lb x3 = some M' ∧ (∀ a j, a ≠ cc + 2 → M' a j = M a j) ∧ ∀ t : Nat, M' (cc + 2) t = if x3 ≤ (t : Int) ∧ (t : Int) < M cc 0 ∧ M 102 t = lb then M cc 0 else M (cc + 2) t
  | 0, _, _, _, _, _, _, h => absurd h (by omega)
  | n + 1, M, x3, hl, hL, h0, h1, h2 => by
    have hr := cc_rg hcc
    have h300 : yln (cc + 2) = 300 := by
      obtain ⟨p, hp, rfl⟩ := hcc
      exact ln_c hp ⟨by omega, by omega⟩
    rw [f_69_2, rel3 ⟨by omega, by omega⟩ ⟨by omega, by omega⟩]
    by_cases hc : M cc 0 ≤ x3
    · rw [cond_dt hc]
      exact ⟨M, rfl, fun _ _ _ => rfl, fun t => by rw [if_neg (by omega)]⟩
    · rw [cond_df hc, rd_in (a := 102) h0 (by show x3 < ((300 : Nat) : Int); omega)]
      have hL3 := hL x3.toNat (by omega)
      rw [rel1 ⟨by omega, by omega⟩ ⟨by omega, by omega⟩]
      have et : ∀ t : Nat, (t : Int) = x3 ∨ (t : Int) ≠ x3 := fun t => by omega
      by_cases hq : M 102 x3.toNat = lb
      · rw [decide_eq_true hq, show (!true) = false from rfl, cond_false, ylet_eq, wr_in (a := cc + 2) h0 (by rw [h300]; omega)]
        have k0 : yU M (cc + 2) x3.toNat (M cc 0) cc 0 = M cc 0 := yU_c (by omega)
        have k102 : ∀ t, yU M (cc + 2) x3.toNat (M cc 0) 102 t = M 102 t := fun t => yU_c (by omega)
        obtain ⟨M', e1, e2, e3⟩ := st_2 hcc hlb n (M := yU M (cc + 2) x3.toNat (M cc 0)) (x3 := x3 + 1) (by rw [k0]; exact hl) (fun t ht => by rw [k102]; rw [k0] at ht; exact hL t ht) (by omega) (by omega) (by omega)
        refine ⟨M', e1, fun a j q => (e2 a j q).trans (yU_c q), fun t => ?_⟩
        rw [e3, k0, k102]
        rcases et t with q | q
        · have e : t = x3.toNat := by omega
          subst e
          rw [if_neg (by omega), yU_at, if_pos ⟨by omega, by omega, hq⟩]
        · rw [yU_i (by omega)]
          by_cases q2 : x3 + 1 ≤ (t : Int) ∧ (t : Int) < M cc 0 ∧ M 102 t = lb
          · rw [if_pos q2, if_pos ⟨by omega, q2.2⟩]
          · rw [if_neg q2, if_neg (fun q3 => q2 ⟨by omega, q3.2⟩)]
      · rw [decide_eq_false hq, show (!false) = true from rfl, cond_true]
        obtain ⟨M', e1, e2, e3⟩ := st_2 hcc hlb n (M := M) (x3 := x3 + 1) hl hL (by omega) (by omega) (by omega)
        refine ⟨M', e1, e2, fun t => ?_⟩
        rw [e3]
        by_cases q2 : x3 + 1 ≤ (t : Int) ∧ (t : Int) < M cc 0 ∧ M 102 t = lb
        · rw [if_pos q2, if_pos ⟨by omega, q2.2⟩]
        · rw [if_neg q2, if_neg (fun q3 => q2 ⟨?_, q3.2⟩)]
          rcases et t with q | q
          · have e : t = x3.toNat := by omega
            subst e
            exact absurd q3.2.2 hq
          · omega
/-- a label is settled: what goes to it goes to the end -/
theorem stl (hcc : pC cc) (hd : d ≤ 90) (hN : 1000 ≤ N) (hb : b ≤ 100) (hs : sO cc P d b M) (hlb : 0 < lb ∧ lb ≤ M 96 10) (h0 : 0 ≤ x3) (h1 : x3 ≤ 300) (he : f_69 N cc M lb x3 = some M') : sO cc P d b M' ∧ sg cc d M M' ∧ (∀ a j, a ≠ cc + 2 → M' a j = M a j) ∧ ∀ t : Nat, M' (cc + 2) t = if x3 ≤ (t : Int) ∧ (t : Int) < M cc 0 ∧ M 102 t = lb then M cc 0 else M (cc + 2) t := by
  have hr := cc_rg hcc
  obtain ⟨hB, hI⟩ := hs
  have hW0 := hB.2.1
  obtain ⟨a1, a2, a3, a4, a5, a6, a7, a8, a9, a10⟩ := id hI
  have hL : ∀ t : Nat, (t : Int) < M cc 0 → 0 ≤ M 102 t ∧ M 102 t ≤ 1000000 := fun t ht => by
    have := (a5 t ht).2.2.2.2.2.2.2.2.2.1
    have := hW0.1
    omega
  obtain ⟨M1, e1, e2, e3⟩ := st_2 (N := N) hcc ⟨hlb.1, by have := hW0.1; omega⟩ N (M := M) (x3 := x3) hW0.1 hL h0 h1 (by omega)
  have e : M1 = M' := Option.some.inj (e1.symm.trans he)
  subst e
  obtain ⟨M2, g1, hwq, hW⟩ := lT_69 (cc := cc) (d := d) (N := N) (x1 := lb) hcc hN h0 h1 hW0
  have e : M2 = M1 := Option.some.inj (g1.symm.trans he)
  subst e
  have f0 : M2 cc 0 = M cc 0 := e2 _ _ (by omega)
  have f1 : M2 cc 1 = M cc 1 := e2 _ _ (by omega)
  have f10 : M2 cc 10 = M cc 10 := e2 _ _ (by omega)
  have f7 : M2 96 7 = M 96 7 := e2 _ _ (by omega)
  have l10 : M2 96 10 = M 96 10 := e2 _ _ (by omega)
  have r1 : M2 21 1 = M 21 1 := e2 _ _ (by omega)
  have c11 : M2 cc 11 = M cc 11 := e2 _ _ (by omega)
  have hK : lK cc M M2 := ⟨⟨by omega, by omega, by omega, by omega, by omega⟩, fun t ht => ⟨e2 _ _ (by omega), e2 _ _ (by omega), fun c _ _ _ => e2 _ _ (by omega)⟩, fun t _ _ => ⟨by rw [e2 (cc + 7) t (by omega)]; exact Int.le_refl _, fun _ => e2 _ _ (by omega)⟩, fun k _ => e2 _ _ (by omega), fun y _ => ⟨e2 _ _ (by omega), e2 _ _ (by omega), e2 _ _ (by omega)⟩, fun k _ => e2 _ _ (by omega)⟩
  have hI' : lI cc P b M2 := lI_ext hI hK (fun t ht => by
      rw [e3]
      by_cases q : x3 ≤ (t : Int) ∧ (t : Int) < M cc 0 ∧ M 102 t = lb
      · rw [if_pos q]
        exact Or.inr ⟨(a5 t ht).2.2.2.2.2.2.2.2.2.2 (by omega), hW0.1.1, by omega⟩
      · rw [if_neg q]
        exact Or.inl rfl) (by omega) (by omega) (by omega) c11 (by rw [f0, r1, c11]; exact a4.2.2.2) (fun t h1 h2 => absurd h2 (by omega)) (fun t h1 h2 => by rw [e2 (cc + 7) t (by omega), e2 (cc + 6) t (by omega), f10]; exact a6 t (by omega) h2) (fun t h1 h2 => by rw [e2 (cc + 7) t (by omega)]; exact a7 t (by omega) h2) (fun k h1 h2 => absurd h2 (by omega)) (fun y h1 h2 => absurd h2 (by omega)) (fun r h1 h2 => absurd h2 (by omega))
  exact ⟨⟨lB_K hcc hd hB hI hwq hW (f1.trans hB.2.2.1) hK, hI'⟩, ⟨hwq, hK, fun r h1 h2 => absurd h2 (by omega)⟩, e2, e3⟩
/-- does the guard see -/
theorem gd_7 (hI : lI cc P b M) (hb : b ≤ 90) (hl : M cc 0 ≤ 300) {g : Nat} (hg : (g : Int) < M 96 7) : ∀ (n : Nat) (y left : Int), -1 ≤ y → y < M 96 7 → 0 ≤ left → left ≤ 90 → left < n → ((g : Int) < y → M 100 y.toNat < left) → ∃ v, f_49_7 N n M (g : Int) y left = some v ∧ (v = 1 ∧ on M y g ∨ v = 0 ∧ ¬ on M y g)
  | 0, _, _, _, _, h0, _, h, _ => absurd h (by omega)
  | n + 1, y, left, hy0, hy, h0, h9, hn, hdep => by
    have hg7 := hI.2.1
    rw [f_49_7, rel5 ⟨by omega, by omega⟩ ⟨by omega, by omega⟩]
    have e19 : f_49_19 N M (g : Int) y = some (if y = (g : Int) then 1 else 0) := by
      unfold f_49_19
      rw [rel1 ⟨by omega, by omega⟩ ⟨by omega, by omega⟩]
      by_cases q : y = (g : Int)
      · rw [decide_eq_true q, if_pos q]; rfl
      · rw [decide_eq_false q, if_neg q]; rfl
    by_cases hc : y ≤ (g : Int)
    · rw [cond_dt hc, e19]
      refine ⟨_, rfl, ?_⟩
      by_cases q : y = (g : Int)
      · rw [if_pos q, q]; exact Or.inl ⟨rfl, on_rfl⟩
      · rw [if_neg q]
        exact Or.inr ⟨rfl, fun hon => by have := on_lt hI hy hon; omega⟩
    · obtain ⟨p1, p2, p3, -⟩ := hI.2.2.2.2.2.2.2.2.1 y.toNat (by omega)
      have hdl := hdep (by omega)
      rw [cond_df hc, rel5 ⟨by omega, by omega⟩ ⟨by decide, by decide⟩, cond_df (by omega), ylet_eq, rd_in (a := 99) (by omega) (by show y < ((390 : Nat) : Int); omega)]
      obtain ⟨v, e1, e2⟩ := gd_7 hI hb hl hg n (M 99 y.toNat) (left + -1) (by omega) (by omega) (by omega) (by omega) (by omega) (fun q => by have := p3 (by omega); omega)
      refine ⟨v, e1, ?_⟩
      have key : on M y g ↔ on M (M 99 y.toNat) g := ⟨fun h => by
        rcases on_cs h with q | q
        · omega
        · exact q.2, fun h => on_up (by omega) h⟩
      rw [key]
      exact e2
theorem gd_ok (hI : lI cc P b M) (hb : b ≤ 90) (hl : M cc 0 ≤ 300) (hN : 1000 ≤ N) {g k : Nat} (hg : (g : Int) < M 96 7) (hk : (k : Int) < M cc 0) : ∃ v, f_49 N M (k : Int) (g : Int) = some v ∧ (v = 1 ∧ on M (M 101 k) g ∨ v = 0 ∧ ¬ on M (M 101 k) g) := by
  have hp := (hI.2.2.2.2.1 k hk).2.2.2.2.2.2.2.2.1
  unfold f_49
  rw [ylet_eq, rd_in (a := 101) (by omega) (by show (k : Int) < ((300 : Nat) : Int); omega), Int.toNat_natCast]
  exact gd_7 hI hb hl hg N _ 90 (by omega) (by omega) (by omega) (by omega) (by omega) fun q => by
    have := (hI.2.2.2.2.2.2.2.2.1 (M 101 k).toNat (by omega)).2.1
    omega
/-- a guard sees its own -/
theorem gd_same (hN : 1000 ≤ N) {k : Nat} (hk : (k : Int) < 300) (hx : M 101 k = x) (h0 : -1 ≤ x ∧ x < 390) : f_49 N M (k : Int) x = some 1 := by
  obtain ⟨N', rfl⟩ : ∃ N', N = N' + 1 := ⟨N - 1, by omega⟩
  unfold f_49
  rw [ylet_eq, rd_in (a := 101) (by omega) (by show (k : Int) < ((300 : Nat) : Int); omega), Int.toNat_natCast, hx, f_49_7, rel5 ⟨by omega, by omega⟩ ⟨by omega, by omega⟩, cond_dt (Int.le_refl _)]
  unfold f_49_19
  rw [rel1 ⟨by omega, by omega⟩ ⟨by omega, by omega⟩, decide_eq_true rfl]; rfl
theorem gd_cg (h1 : M' 99 = M 99) (h2 : M' 101 = M 101) : f_49 N M' x y = f_49 N M x y := by
  have k : ∀ n u v, f_49_7 N n M' y u v = f_49_7 N n M y u v := by
    intro n
    induction n with
    | zero => intro u v; rfl
    | succ n ih =>
      intro u v
      rw [f_49_7, f_49_7, ylet_eq, ylet_eq]
      have e : yrd M' 99 u = yrd M 99 u := by unfold yrd; rw [h1]
      rw [e, ih]; rfl
  unfold f_49
  have e : yrd M' 101 x = yrd M 101 x := by unfold yrd; rw [h2]
  rw [ylet_eq, ylet_eq, e, k]
theorem may_42 (h : 1 ≤ op ∧ op ≤ 20) : (f_42 M op = 1 ∧ a_may op) ∨ (f_42 M op = 0 ∧ ¬ a_may op) := by
  unfold a_may
  rcases (show op = 1 ∨ op = 2 ∨ op = 3 ∨ op = 4 ∨ op = 5 ∨ op = 6 ∨ op = 7 ∨ op = 8 ∨ op = 9 ∨ op = 10 ∨ op = 11 ∨ op = 12 ∨ op = 13 ∨ op = 14 ∨ op = 15 ∨ op = 16 ∨ op = 17 ∨ op = 18 ∨ op = 19 ∨ op = 20 by omega) with rfl | rfl | rfl | rfl | rfl | rfl | rfl | rfl | rfl | rfl | rfl | rfl | rfl | rfl | rfl | rfl | rfl | rfl | rfl | rfl
  all_goals first | exact Or.inl ⟨rfl, by omega⟩ | exact Or.inr ⟨rfl, by omega⟩
theorem hk_eq {t R : Nat} : ∀ (n : Nat), (∀ k : Nat, k < 4 * (R + n) → M' 22 k = M 22 k) → hk M' t R n = hk M t R n
  | 0, _ => rfl
  | n + 1, h => by
    show hk M' t R n ++ _ = hk M t R n ++ _
    rw [hk_eq n (fun k hk => h k (by omega)), h (4 * (R + n)) (by omega), h (4 * (R + n) + 1) (by omega), h (4 * (R + n) + 2) (by omega), h (4 * (R + n) + 3) (by omega)]
theorem hk_add {t R m : Nat} : ∀ (n : Nat), hk M t R (m + n) = hk M t R m ++ hk M t (R + m) n
  | 0 => (List.append_nil _).symm
  | n + 1 => by
    show hk M t R (m + n) ++ _ = hk M t R m ++ (hk M t (R + m) n ++ _)
    rw [hk_add n, List.append_assoc, Nat.add_assoc]
    rfl
theorem hk_nil {t R : Nat} : ∀ (n : Nat), (∀ r : Nat, R ≤ r → r < R + n → ¬ (M 22 (4 * r) ≤ (t : Int) ∧ (t : Int) < M 22 (4 * r + 1))) → hk M t R n = []
  | 0, _ => rfl
  | n + 1, h => by
    show hk M t R n ++ _ = _
    rw [hk_nil n (fun r h1 h2 => h r h1 (by omega)), if_neg (h (R + n) (by omega) (by omega))]; rfl
end RwA
/-- rows that were laid over [f, s) for a guard that sees where gb is 1 -/
def rwD (cc : Nat) (gb : Nat → Int) (pl ki f : Int) (M M' : yM) (s : Int) : Prop :=
  (∀ a j, a ≠ 21 → a ≠ 22 → M' a j = M a j) ∧ (M 21 1 ≤ M' 21 1 ∧ 2 * (M' 21 1 - M 21 1) ≤ s - f) ∧ tI M' ∧ (∀ k : Nat, (k : Int) < 4 * M 21 1 → M' 22 k = M 22 k) ∧
  (∀ r : Nat, M 21 1 ≤ (r : Int) → (r : Int) < M' 21 1 → f ≤ M' 22 (4 * r) ∧ M' 22 (4 * r) < M' 22 (4 * r + 1) ∧ M' 22 (4 * r + 1) < s ∧ M' 22 (4 * r + 2) = pl ∧ M' 22 (4 * r + 3) = ki) ∧
  (∀ t : Nat, ((t : Int) < f ∨ s ≤ (t : Int) ∨ gb t = 0 → hk M' t (M 21 1).toNat (M' 21 1 - M 21 1).toNat = []) ∧ (f ≤ (t : Int) → (t : Int) < s → gb t = 1 → a_may (M (cc + 1) t) → hk M' t (M 21 1).toNat (M' 21 1 - M 21 1).toNat = [(ki, pl)]))
section RwB
variable {cc d e b i N n o : Nat} {P M M' M0 M1 M2 Mc : yM} {op x y z nd gd lb v x1 x2 x3 x4 x5 pl ki f s to k g isT : Int} {gb : Nat → Int}
theorem rw_0 (hI : tI M) : rwD cc gb pl ki f M M f := by
  refine ⟨fun _ _ _ _ => rfl, ⟨Int.le_refl _, by omega⟩, hI, fun _ _ => rfl, fun r h1 h2 => absurd h2 (by omega), fun t => ⟨fun _ => ?_, fun h1 h2 => absurd h2 (by omega)⟩⟩
  rw [show (M 21 1 - M 21 1).toNat = 0 by omega]; rfl
/-- one row more: over [s, k) -/
theorem rw_add (h : rwD cc gb pl ki f M Mc s) (hR : Mc 21 1 < 32768) (h0 : 0 ≤ f) (hM0 : 0 ≤ M 21 1) (hfs : f ≤ s) (hsk : s < k) (hall : ∀ t : Nat, s ≤ (t : Int) → (t : Int) < k → gb t = 1) (hgk : ∀ t : Nat, (t : Int) = k → gb t = 0) : ∃ M', f_140 Mc s k pl ki = some M' ∧ rwD cc gb pl ki f M M' (k + 1) := by
  obtain ⟨h1, h2, h3, h4, h5, h6⟩ := h
  obtain ⟨M', e1, e2, e3, e4⟩ := f140_ok (x1 := s) (x2 := k) (x3 := pl) (x4 := ki) h3
  obtain ⟨g1, g2, g3, g4, g5, g6⟩ := e4 hR
  have hk1 : ∀ t, hk M' t (M 21 1).toNat (M' 21 1 - M 21 1).toNat = hk Mc t (M 21 1).toNat (Mc 21 1 - M 21 1).toNat ++ (if s ≤ (t : Int) ∧ (t : Int) < k then [(ki, pl)] else []) := fun t => by
    rw [show (M' 21 1 - M 21 1).toNat = (Mc 21 1 - M 21 1).toNat + 1 by omega]
    show hk M' t _ _ ++ _ = _
    rw [hk_eq (Mc 21 1 - M 21 1).toNat (fun j hj => g2 j (by omega))]
    rw [show 4 * ((M 21 1).toNat + (Mc 21 1 - M 21 1).toNat) = (4 * Mc 21 1).toNat by omega]
    rw [show (4 * Mc 21 1).toNat + 1 = (4 * Mc 21 1 + 1).toNat by omega, show (4 * Mc 21 1).toNat + 2 = (4 * Mc 21 1 + 2).toNat by omega, show (4 * Mc 21 1).toNat + 3 = (4 * Mc 21 1 + 3).toNat by omega, g3, g4, g5, g6]
  refine ⟨M', e1, fun a j q1 q2 => (e3 a j q1 q2).trans (h1 a j q1 q2), ⟨by omega, by omega⟩, e2, fun j hj => (g2 j (by omega)).trans (h4 j hj), fun r hr1 hr2 => ?_, fun t => ?_⟩
  · rcases Int.lt_or_le r (Mc 21 1) with q | q
    · rw [g2 (4 * r) (by omega), g2 (4 * r + 1) (by omega), g2 (4 * r + 2) (by omega), g2 (4 * r + 3) (by omega)]
      have := h5 r hr1 q
      omega
    · have er : 4 * r = (4 * Mc 21 1).toNat := by omega
      rw [er, show (4 * Mc 21 1).toNat + 1 = (4 * Mc 21 1 + 1).toNat by omega, show (4 * Mc 21 1).toNat + 2 = (4 * Mc 21 1 + 2).toNat by omega, show (4 * Mc 21 1).toNat + 3 = (4 * Mc 21 1 + 3).toNat by omega, g3, g4, g5, g6]
      exact ⟨hfs, hsk, by omega, rfl, rfl⟩
  · rw [hk1]
    obtain ⟨p1, p2⟩ := h6 t
    constructor
    · intro q
      have hns : ¬ (s ≤ (t : Int) ∧ (t : Int) < k) := fun q2 => by
        have := hall t q2.1 q2.2
        omega
      rw [if_neg hns, List.append_nil]
      refine p1 ?_
      rcases q with q | q | q
      · exact Or.inl q
      · exact Or.inr (Or.inl (by omega))
      · exact Or.inr (Or.inr q)
    · intro q1 q2 q3 q4
      have hne : (t : Int) ≠ k := fun q => by
        have := hgk t q
        omega
      by_cases q5 : (t : Int) < s
      · rw [if_neg (by omega), List.append_nil]
        exact p2 q1 q5 q3 q4
      · rw [if_pos (by omega), p1 (Or.inr (Or.inl (by omega)))]; rfl
/-- no row: nothing in [s, k) may throw -/
theorem rw_skip (h : rwD cc gb pl ki f M Mc s) (hsk : s ≤ k) (hall : ∀ t : Nat, s ≤ (t : Int) → (t : Int) < k → ¬ a_may (M (cc + 1) t)) (hgk : ∀ t : Nat, (t : Int) = k → gb t = 0) : rwD cc gb pl ki f M Mc (k + 1) := by
  obtain ⟨h1, h2, h3, h4, h5, h6⟩ := h
  refine ⟨h1, ⟨h2.1, by omega⟩, h3, h4, fun r hr1 hr2 => by have := h5 r hr1 hr2; omega, fun t => ?_⟩
  obtain ⟨p1, p2⟩ := h6 t
  constructor
  · intro q
    refine p1 ?_
    rcases q with q | q | q
    · exact Or.inl q
    · exact Or.inr (Or.inl (by omega))
    · exact Or.inr (Or.inr q)
  · intro q1 q2 q3 q4
    have hne : (t : Int) ≠ k := fun q => by
      have := hgk t q
      omega
    by_cases q5 : (t : Int) < s
    · exact p2 q1 q5 q3 q4
    · exact absurd q4 (hall t (by omega) (by omega))
theorem lr_11 (hcc : pC cc) (h0 : 0 ≤ f) (hft : f ≤ to) (ht : to ≤ 300) (hM0 : 0 ≤ M 21 1) (hRb : 2 * M 21 1 + (to - f) < 65534) (hG : ∀ t : Nat, f ≤ (t : Int) → (t : Int) < to → f_49 N M (t : Int) g = some (gb t) ∧ (gb t = 0 ∨ gb t = 1)) (hG0 : ∀ t : Nat, ¬ (f ≤ (t : Int) ∧ (t : Int) < to) → gb t = 0) (hop : ∀ t : Nat, f ≤ (t : Int) → (t : Int) < to → 1 ≤ M (cc + 1) t ∧ M (cc + 1) t ≤ 20) :
    ∀ (n : Nat) (Mc : yM) (s k isT : Int), rwD cc gb pl ki f M Mc s → f ≤ s → s ≤ k → k ≤ to + 1 → (k ≤ to ∨ s = k) → (∀ t : Nat, s ≤ (t : Int) → (t : Int) < k → gb t = 1) → ((isT = 0 ∧ ∀ t : Nat, s ≤ (t : Int) → (t : Int) < k → ¬ a_may (M (cc + 1) t)) ∨ (isT = 1 ∧ s < k)) → to + 1 - k < n → ∃ M', f_61_11 N cc n Mc to g pl ki s isT k = some M' ∧ rwD cc gb pl ki f M M' (to + 1)
  | 0, _, _, _, _, _, _, _, _, _, _, _, h => absurd h (by omega)
  | n + 1, Mc, s, k, isT, hrw, hfs, hsk, hk, hk2, hall, hT, hn => by
    have hr := cc_rg hcc
    have ih := lr_11 hcc h0 hft ht hM0 hRb hG hG0 hop n
    rw [f_61_11, rel4 ⟨by omega, by omega⟩ ⟨by omega, by omega⟩]
    by_cases hend : to < k
    · rw [cond_dt hend]
      have e : s = to + 1 := by omega
      subst e
      exact ⟨Mc, rfl, hrw⟩
    · rw [cond_df hend]
      have h39 : (∀ t : Nat, (t : Int) = k → gb t = 0) → ∃ M', f_61_39 N cc (f_61_11 N cc n) Mc to g pl ki s isT k = some M' ∧ rwD cc gb pl ki f M M' (to + 1) := by
        intro hgk
        unfold f_61_39
        rcases hT with ⟨rfl, hT⟩ | ⟨rfl, hT⟩
        · rw [show yrel 0 0 0 = true from rfl, cond_true]
          unfold f_61_48 f_61_54
          rw [ylet_eq]
          exact ih Mc (k + 1) (k + 1) 0 (rw_skip hrw hsk hT hgk) (by omega) (Int.le_refl _) (by omega) (Or.inr rfl) (fun t h1 h2 => by omega) (Or.inl ⟨rfl, fun t h1 h2 => by omega⟩) (by omega)
        · obtain ⟨M1, e1, e2⟩ := rw_add hrw (by have := hrw.2.1; omega) h0 hM0 hfs hT hall hgk
          rw [show yrel 0 1 0 = false from rfl, cond_false, e1]
          show ∃ M', f_61_48 N cc (f_61_11 N cc n) M1 to g pl ki k = some M' ∧ _
          unfold f_61_48 f_61_54
          rw [ylet_eq]
          exact ih M1 (k + 1) (k + 1) 0 e2 (by omega) (Int.le_refl _) (by omega) (Or.inr rfl) (fun t h1 h2 => by omega) (Or.inl ⟨rfl, fun t h1 h2 => by omega⟩) (by omega)
      rw [rel3 ⟨by omega, by omega⟩ ⟨by omega, by omega⟩]
      by_cases he : to ≤ k
      · rw [cond_dt he]
        exact h39 fun t q => hG0 t (by omega)
      · rw [cond_df he]
        have hM99 : Mc 99 = M 99 := funext fun j => hrw.1 _ _ (by omega) (by omega)
        have hM101 : Mc 101 = M 101 := funext fun j => hrw.1 _ _ (by omega) (by omega)
        obtain ⟨g1, g2⟩ := hG k.toNat (by omega) (by omega)
        rw [show ((k.toNat : Nat) : Int) = k by omega] at g1
        rw [gd_cg hM99 hM101, g1]
        show ∃ M', cond (yrel 0 (gb k.toNat) 0) _ _ = some M' ∧ _
        rcases g2 with g2 | g2
        · rw [g2, show yrel 0 0 0 = true from rfl, cond_true]
          exact h39 fun t q => by rw [show t = k.toNat by omega]; exact g2
        · rw [g2, show yrel 0 1 0 = false from rfl, cond_false]
          have hall' : ∀ t : Nat, s ≤ (t : Int) → (t : Int) < k + 1 → gb t = 1 := fun t h1 h2 => by
            by_cases q : (t : Int) < k
            · exact hall t h1 q
            · rw [show t = k.toNat by omega]; exact g2
          have h34 : ∃ M', f_61_34 N cc (f_61_11 N cc n) Mc to g pl ki s k = some M' ∧ rwD cc gb pl ki f M M' (to + 1) :=
            ih Mc s (k + 1) 1 hrw hfs (by omega) (by omega) (Or.inl (by omega)) hall' (Or.inr ⟨rfl, by omega⟩) (by omega)
          rcases hT with ⟨rfl, hT⟩ | ⟨rfl, hT⟩
          · rw [show yrel 1 0 0 = false from rfl, cond_false]
            cases yrel 0 (Mc 96 14) 0 with
            | true => rw [cond_true]; exact h34
            | false =>
              have h300 : yln (cc + 1) = 300 := by
                obtain ⟨p, hp, rfl⟩ := hcc
                exact ln_c hp ⟨by omega, by omega⟩
              rw [cond_false, rd_in (a := cc + 1) (by omega) (by rw [h300]; omega), hrw.1 (cc + 1) _ (by omega) (by omega)]
              rcases may_42 (M := Mc) (hop k.toNat (by omega) (by omega)) with ⟨m1, m2⟩ | ⟨m1, m2⟩
              · rw [m1, show yrel 0 1 0 = false from rfl, cond_false]
                exact h34
              · rw [m1, show yrel 0 0 0 = true from rfl, cond_true]
                exact ih Mc s (k + 1) 0 hrw hfs (by omega) (by omega) (Or.inl (by omega)) hall' (Or.inl ⟨rfl, fun t h1 h2 => by
                  by_cases q : (t : Int) < k
                  · exact hT t h1 q
                  · rw [show t = k.toNat by omega]; exact m2⟩) (by omega)
          · rw [show yrel 1 1 0 = true from rfl, cond_true]
            exact h34
/-- what rows over [f, to) are for a guard that sees where gb is 1 -/
def lrD (cc : Nat) (gb : Nat → Int) (pl ki f to : Int) (M M' : yM) : Prop :=
  (∀ a j, a ≠ 21 → a ≠ 22 → M' a j = M a j) ∧ (M 21 1 ≤ M' 21 1 ∧ 2 * (M' 21 1 - M 21 1) ≤ to + 1 - f) ∧ (∀ k : Nat, (k : Int) < 4 * M 21 1 → M' 22 k = M 22 k) ∧
  (∀ r : Nat, M 21 1 ≤ (r : Int) → (r : Int) < M' 21 1 → f ≤ M' 22 (4 * r) ∧ M' 22 (4 * r) < M' 22 (4 * r + 1) ∧ M' 22 (4 * r + 1) ≤ to ∧ M' 22 (4 * r + 2) = pl ∧ M' 22 (4 * r + 3) = ki) ∧
  (∀ t : Nat, ((t : Int) < f ∨ to ≤ (t : Int) ∨ gb t = 0 → hk M' t (M 21 1).toNat (M' 21 1 - M 21 1).toNat = []) ∧ (f ≤ (t : Int) → (t : Int) < to → gb t = 1 → a_may (M (cc + 1) t) → hk M' t (M 21 1).toNat (M' 21 1 - M 21 1).toNat = [(ki, pl)]))
theorem lrw (hcc : pC cc) (hd : d ≤ 90) (hN : 1000 ≤ N) (hb : b ≤ 90) (hs : sO cc P d b M) (h0 : 0 ≤ f) (hft : f ≤ to) (ht : to ≤ M cc 0) (hpl : 0 ≤ pl ∧ pl < M cc 0) (hki : -1 ≤ ki ∧ ki < P 1 0) (hT : 12 * (M 21 1 - M cc 11) + 6 * (to + 1 - f) ≤ tT (M cc 0)) (hG : ∀ t : Nat, f ≤ (t : Int) → (t : Int) < to → f_49 N M (t : Int) g = some (gb t) ∧ (gb t = 0 ∨ gb t = 1)) (he : f_61 N cc M f to g pl ki = some M') : sO cc P d b M' ∧ lw cc d M M' ∧ lK cc M M' ∧ lX cc M M' ∧ lrD cc gb pl ki f to M M' := by
  have hr := cc_rg hcc
  obtain ⟨hB, hI⟩ := hs
  have hW0 := hB.2.1
  obtain ⟨a1, a2, a3, a4, a5, a6, a7, a8, a9, a10⟩ := id hI
  have htl := hB.2.2.1
  have hl := hW0.1
  have h300 : tT (M cc 0) ≤ 90900 := by
    rcases Int.lt_or_le (M cc 0) 300 with q | q
    · have h1 := tT_le hl.1 q
      have h2 : tT 300 = 90900 := rfl
      omega
    · have h1 : M cc 0 = 300 := by omega
      rw [h1]; exact Int.le_refl _
  unfold f_61 at he
  rw [htl, show yrel 0 0 0 = true from rfl, cond_true] at he
  have hG0 : ∀ t : Nat, ¬ (f ≤ (t : Int) ∧ (t : Int) < to) → (if f ≤ (t : Int) ∧ (t : Int) < to then gb t else 0) = 0 := fun t q => if_neg q
  obtain ⟨M1, e1, g1, g2, g3, g4, g5, g6⟩ := lr_11 (N := N) (gb := fun t => if f ≤ (t : Int) ∧ (t : Int) < to then gb t else 0) (g := g) hcc h0 hft (by omega) (by omega) (by omega) (fun t h1 h2 => by rw [if_pos ⟨h1, h2⟩]; exact hG t h1 h2) hG0 (fun t h1 h2 => (a5 t (by omega)).1) N M f f 0 (rw_0 (pl := pl) (ki := ki) hW0.2.2.1) (Int.le_refl _) (Int.le_refl _) (by omega) (Or.inr rfl) (fun t h1 h2 => by omega) (Or.inl ⟨rfl, fun t h1 h2 => by omega⟩) (by omega)
  have e : M1 = M' := Option.some.inj (e1.symm.trans he)
  subst e
  have f0 : M1 cc 0 = M cc 0 := g1 _ _ (by omega) (by omega)
  have f1 : M1 cc 1 = M cc 1 := g1 _ _ (by omega) (by omega)
  have f10 : M1 cc 10 = M cc 10 := g1 _ _ (by omega) (by omega)
  have f7 : M1 96 7 = M 96 7 := g1 _ _ (by omega) (by omega)
  have l10 : M1 96 10 = M 96 10 := g1 _ _ (by omega) (by omega)
  have c11 : M1 cc 11 = M cc 11 := g1 _ _ (by omega) (by omega)
  have hwq : lw cc d M M1 := ⟨fun a j _ _ _ _ q5 q6 => g1 a j q5 q6, g1 _ _ (by omega) (by omega), by rw [f1]; exact id, c11⟩
  have hW : lW cc M1 := by
    unfold lW at hW0 ⊢
    rw [f0, f1]
    refine ⟨hW0.1, hW0.2.1, g3, fun c hc => ?_⟩
    rw [g1 103 c (by omega) (by omega), g1 104 c (by omega) (by omega)]
    exact hW0.2.2.2 c hc
  have hK : lK cc M M1 := ⟨⟨by omega, by omega, by omega, by omega, g2.1⟩, fun t ht => ⟨g1 _ _ (by omega) (by omega), g1 _ _ (by omega) (by omega), fun c _ _ _ => g1 _ _ (by omega) (by omega)⟩, fun t _ _ => ⟨by rw [g1 (cc + 7) t (by omega) (by omega)]; exact Int.le_refl _, fun _ => g1 _ _ (by omega) (by omega)⟩, fun k _ => g1 _ _ (by omega) (by omega), fun y _ => ⟨g1 _ _ (by omega) (by omega), g1 _ _ (by omega) (by omega), g1 _ _ (by omega) (by omega)⟩, g4⟩
  have hX : lX cc M M1 := fun t ht => g1 _ _ (by omega) (by omega)
  have hI' : lI cc P b M1 := lI_ext hI hK (fun t ht => Or.inl (hX t ht)) (by omega) (by omega) (by omega) c11 (by rw [f0, c11]; omega) (fun t h1 h2 => absurd h2 (by omega)) (fun t h1 h2 => by rw [g1 (cc + 7) t (by omega) (by omega), g1 (cc + 6) t (by omega) (by omega), f10]; exact a6 t (by omega) h2) (fun t h1 h2 => by rw [g1 (cc + 7) t (by omega) (by omega)]; exact a7 t (by omega) h2) (fun k h1 h2 => absurd h2 (by omega)) (fun y h1 h2 => absurd h2 (by omega)) (fun r h1 h2 => by
      obtain ⟨r1, r2, r3, r4, r5⟩ := g5 r h1 h2
      unfold rG
      rw [r4, r5, f0]
      exact ⟨by omega, r2, by omega, hpl, hki⟩)
  refine ⟨⟨lB_K hcc hd hB hI hwq hW (f1.trans htl) hK, hI'⟩, hwq, hK, hX, g1, ⟨g2.1, by omega⟩, g4, fun r h1 h2 => by have := g5 r h1 h2; omega, fun t => ?_⟩
  obtain ⟨p1, p2⟩ := g6 t
  dsimp only at p1 p2
  constructor
  · intro q
    refine p1 ?_
    by_cases q2 : f ≤ (t : Int) ∧ (t : Int) < to
    · rw [if_pos q2]
      rcases q with q | q | q
      · omega
      · omega
      · exact Or.inr (Or.inr q)
    · rw [if_neg q2]
      exact Or.inr (Or.inr rfl)
  · intro q1 q2 q3 q4
    rw [if_pos ⟨q1, q2⟩] at p2
    exact p2 q1 (by omega) q3 q4
end RwB
