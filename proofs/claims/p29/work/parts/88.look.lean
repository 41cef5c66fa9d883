/-! the table, as the machine looks things up in it -/
/-- is a class at or below another one -/
def yBl (P : yM) (k c : Int) : Bool := decide (f_120 P k c = 1)
theorem f120_01 {M : yM} {k c : Int} : f_120 M k c = 0 ∨ f_120 M k c = 1 := by
  unfold f_120
  cases yrel 1 (ybin 26 (ybin 104 (yrd M 4 c) k) 1) 1 with
  | true => exact Or.inl rfl
  | false => exact Or.inr rfl
theorem f120_cg {M M' : yM} {k c : Int} (h : ∀ j, M' 4 j = M 4 j) : f_120 M' k c = f_120 M k c := by
  have e : yrd M' 4 c = yrd M 4 c := by
    unfold yrd
    rw [show M' 4 = M 4 from funext h]
  unfold f_120
  rw [e]
section LkA
variable {N p m i : Nat} {P M M0 : yM} {kd : Int} {vp : Nat → Prop}
theorem look_93 (hp : p < 8) (h22 : ∀ j, M 22 j = M0 22 j) (h21 : M 21 2 = M0 21 2) (h11 : M (24 + 9 * p) 11 = M0 (24 + 9 * p) 11) (h12 : M (24 + 9 * p) 12 = M0 (24 + 9 * p) 12) (h4 : ∀ j, M 4 j = P 4 j) (hI : tI M0) (hO : pO P p M0) (hc : M0 (24 + 9 * p) 11 + M0 (24 + 9 * p) 12 ≤ M0 21 1) (hi : i < 300) : ∀ (n rr : Nat), M0 (24 + 9 * p) 11 ≤ (rr : Int) → (rr : Int) ≤ M0 (24 + 9 * p) 11 + M0 (24 + 9 * p) 12 → M0 (24 + 9 * p) 11 + M0 (24 + 9 * p) 12 - rr < n → f_93_10 N n M m (24 + 9 * p) (i : Int) kd (rr : Int) = some (a_res (a_look (yBl P) kd (hk M0 i rr (M0 (24 + 9 * p) 11 + M0 (24 + 9 * p) 12 - rr).toNat)))
  | 0, rr, _, _, h => absurd h (by omega)
  | n + 1, rr, h1, h2, h3 => by
    obtain ⟨i1, i2, i3, i4, i5⟩ := hI
    rw [f_93_10, h11, h12, rel3 ⟨by omega, by omega⟩ ⟨by omega, by omega⟩]
    by_cases hend : M0 (24 + 9 * p) 11 + M0 (24 + 9 * p) 12 ≤ (rr : Int)
    · rw [cond_dt hend, show (M0 (24 + 9 * p) 11 + M0 (24 + 9 * p) 12 - (rr : Int)).toNat = 0 by omega]; rfl
    · have ih := look_93 hp h22 h21 h11 h12 h4 ⟨i1, i2, i3, i4, i5⟩ hO hc hi n (rr + 1) (by omega) (by omega) (by omega)
      have rd : ∀ j : Nat, j < 4 → yrdT M ((rr : Int) * 4 + j) = M0 22 (4 * rr + j) := fun j hj => by
        unfold yrdT
        rw [yw_of (by omega) (by omega), h21, if_pos (by omega), h22, show ((rr : Int) * 4 + j).toNat = 4 * rr + j by omega]
      have rd0 : yrdT M ((rr : Int) * 4 + 0) = M0 22 (4 * rr) := rd 0 (by omega)
      have rd1 : yrdT M ((rr : Int) * 4 + 1) = M0 22 (4 * rr + 1) := rd 1 (by omega)
      have rd2 : yrdT M ((rr : Int) * 4 + 2) = M0 22 (4 * rr + 2) := rd 2 (by omega)
      have rd3 : yrdT M ((rr : Int) * 4 + 3) = M0 22 (4 * rr + 3) := rd 3 (by omega)
      obtain ⟨⟨r1, r2⟩, ⟨r3, r4, r5, r6⟩, r7, r8⟩ := hO.2.2.2.1 rr h1 (by omega)
      have ehk : hk M0 i rr (M0 (24 + 9 * p) 11 + M0 (24 + 9 * p) 12 - (rr : Int)).toNat = (if M0 22 (4 * rr) ≤ (i : Int) ∧ (i : Int) < M0 22 (4 * rr + 1) then [(M0 22 (4 * rr + 3), M0 22 (4 * rr + 2))] else []) ++ hk M0 i (rr + 1) (M0 (24 + 9 * p) 11 + M0 (24 + 9 * p) 12 - ((rr + 1 : Nat) : Int)).toNat := by
        rw [show (M0 (24 + 9 * p) 11 + M0 (24 + 9 * p) 12 - (rr : Int)).toNat = 1 + (M0 (24 + 9 * p) 11 + M0 (24 + 9 * p) 12 - ((rr + 1 : Nat) : Int)).toNat by omega, hk_add]
        rfl
      have h58 : f_93_58 N (f_93_10 N n) M m (24 + 9 * p) (i : Int) kd (rr : Int) = some (a_res (a_look (yBl P) kd (hk M0 i (rr + 1) (M0 (24 + 9 * p) 11 + M0 (24 + 9 * p) 12 - ((rr + 1 : Nat) : Int)).toNat))) := ih
      rw [cond_df hend, ylet_eq, rd3, rd0, rd1, ehk, rel4 ⟨by omega, by omega⟩ ⟨by omega, by omega⟩]
      have h39 : f_93_39 N (f_93_10 N n) M m (24 + 9 * p) (i : Int) kd (rr : Int) (M0 22 (4 * rr + 3)) = f_93_58 N (f_93_10 N n) M m (24 + 9 * p) (i : Int) kd (rr : Int) := by
        unfold f_93_39 f_93_40
        rw [show yrel 0 0 0 = true from rfl, cond_true]
      by_cases hf : (i : Int) < M0 22 (4 * rr)
      · rw [cond_dt hf, h39, if_neg (by omega), List.nil_append]
        exact h58
      · rw [cond_df hf, rel3 ⟨by omega, by omega⟩ ⟨by omega, by omega⟩]
        by_cases ht : M0 22 (4 * rr + 1) ≤ (i : Int)
        · rw [cond_dt ht, h39, if_neg (by omega), List.nil_append]
          exact h58
        · rw [cond_df ht, if_pos (by omega)]
          unfold f_93_40 f_93_52
          rw [show yrel 0 1 0 = false from rfl, cond_false, rd2, rel0 ⟨by omega, by omega⟩ ⟨by decide, by decide⟩, f120_cg h4]
          show _ = some (a_res (if M0 22 (4 * rr + 3) = -1 ∨ yBl P kd (M0 22 (4 * rr + 3)) = true then some (M0 22 (4 * rr + 2)) else a_look (yBl P) kd _))
          by_cases hk1 : M0 22 (4 * rr + 3) = -1
          · rw [cond_dt hk1, if_pos (Or.inl hk1)]; rfl
          · rw [cond_df hk1]
            rcases f120_01 (M := P) (k := kd) (c := M0 22 (4 * rr + 3)) with q | q
            · rw [q, show yrel 0 0 0 = true from rfl, cond_true, if_neg (fun h => by
                rcases h with h | h
                · exact hk1 h
                · unfold yBl at h
                  rw [q] at h
                  exact absurd h (by decide))]
              exact h58
            · rw [q, show yrel 0 1 0 = false from rfl, cond_false, if_pos (Or.inr (by unfold yBl; rw [q]; rfl))]; rfl
theorem look_in {bl : Int → Int → Bool} {k h : Int} : ∀ (l : List (Int × Int)), a_look bl k l = some h → ∃ c, (c, h) ∈ l
  | [], e => by cases e
  | (c, h') :: l, e => by
    by_cases q : c = -1 ∨ bl k c = true
    · have e : (if c = -1 ∨ bl k c = true then some h' else a_look bl k l) = some h := e
      rw [if_pos q] at e
      have e := Option.some.inj e
      subst e
      exact ⟨c, List.mem_cons_self⟩
    · have e : (if c = -1 ∨ bl k c = true then some h' else a_look bl k l) = some h := e
      rw [if_neg q] at e
      obtain ⟨c', h1⟩ := look_in l e
      exact ⟨c', List.mem_cons_of_mem _ h1⟩
theorem hk_mem {t R : Nat} {x : Int × Int} : ∀ (n : Nat), x ∈ hk M0 t R n → ∃ r, R ≤ r ∧ r < R + n ∧ x = (M0 22 (4 * r + 3), M0 22 (4 * r + 2))
  | 0, h => absurd h List.not_mem_nil
  | n + 1, h => by
    have h : x ∈ hk M0 t R n ++ _ := h
    rcases List.mem_append.mp h with h | h
    · obtain ⟨r, h1, h2, h3⟩ := hk_mem n h
      exact ⟨r, h1, by omega, h3⟩
    · split at h
      · exact ⟨R + n, by omega, by omega, List.mem_singleton.mp h⟩
      · exact absurd h List.not_mem_nil
/-- the table as the abstract machine has it -/
theorem lF_ok (hm : pM m) (hN : 40000 ≤ N) (h8 : ∀ p, vp p → p < 8) (hP : ∀ a j, a ≤ 17 → M0 a j = P a j) (hI : tI M0) (hO : ∀ p, vp p → pO P p M0) (hc : ∀ p, vp p → M0 (24 + 9 * p) 11 + M0 (24 + 9 * p) 12 ≤ M0 21 1) : lF N M0 m (cH4 M0) (yBl P) vp := by
  intro M hr p hv i hi _
  have hm' : m = 196 ∨ m = 306 := hm
  have hp := h8 p hv
  obtain ⟨o1, o2, o3, o4, o5⟩ := id (hO p hv)
  have hcp := hc p hv
  refine ⟨?_, fun k h e => ?_⟩
  · unfold f_93
    rw [ylet_eq, ylet_eq]
    have e11 : M (24 + 9 * p) 11 = M0 (24 + 9 * p) 11 := hr.1 _ _ (by omega)
    have L := look_93 (N := N) (m := m) (M := M) (kd := yrd M (m + 1 + 1) (M m 16)) (i := i) hp (fun j => hr.1 _ _ (by omega)) (hr.1 _ _ (by omega)) e11 (hr.1 _ _ (by omega)) (fun j => (hr.1 _ _ (by omega)).trans (hP 4 j (by omega))) hI (hO p hv) hcp (by omega) N (M0 (24 + 9 * p) 11).toNat (by omega) (by omega) (by have := hI.2.1; omega)
    rw [show (((M0 (24 + 9 * p) 11).toNat : Nat) : Int) = M0 (24 + 9 * p) 11 by omega, show (M0 (24 + 9 * p) 11 + M0 (24 + 9 * p) 12 - M0 (24 + 9 * p) 11).toNat = (M0 (24 + 9 * p) 12).toNat by omega] at L
    rw [e11]
    exact L
  · obtain ⟨c, h1⟩ := look_in _ e
    obtain ⟨r, r1, r2, r3⟩ := hk_mem _ h1
    have := (o4 r (by omega) (by omega)).1
    have e2 : h = M0 22 (4 * r + 2) := (Prod.mk.inj r3).2
    omega
/-- what holds of the code's numbers, and of the code -/
theorem cF_ok (h8 : ∀ p, vp p → p < 8) (hA : pA P) (hP : M0 1 7 = P 1 7) (hO : ∀ p, vp p → pO P p M0) : cF M0 vp := by
  intro p hv
  obtain ⟨o1, o2, o3, o4, o5⟩ := hO p hv
  have hnn := hA.1
  refine ⟨h8 p hv, o1.1, o1.2, fun i hi => ?_⟩
  obtain ⟨a1, a2, a3, a4, a5, a6, a7, a8, a9, a10⟩ := o3 i hi
  rw [hP]
  exact ⟨⟨a2, a6⟩, a7, a8, a9, fun k hk => by have := a10 k hk; omega⟩
theorem wk_ok (hA : pA P) (hv : ∀ p : Nat, vp p ↔ (p : Int) < P 1 4) (hO : ∀ p, vp p → pO P p M0) : a_wk (kM M0) (bM M0) vp (fun n => P 13 n ≠ -1) (P 1 0) (P 1 7).toNat (P 1 4).toNat := by
  have hnn := hA.1
  have hnp := hA.2.1
  have hnk := hA.2.2.1
  refine ⟨hnk.1, fun p hp => by have := (hv p).mp hp; omega, fun p hp i => ?_⟩
  obtain ⟨o1, o2, o3, o4, o5⟩ := hO p hp
  by_cases hi : (i : Int) < M0 (24 + 9 * p) 0
  · obtain ⟨a1, a2, a3, a4, a5, a6, a7, a8, a9, a10⟩ := o3 i hi
    have hk : ∀ c, kM M0 p c i = M0 (24 + 9 * p + c) i := fun c => if_pos hi
    rw [hk, hk, hk]
    have w9 := a2.2.2.2.2.2.2.1
    have w17 := a2.2.2.2.2.2.2.2.2.2.2
    refine ⟨fun n hn => ?_, fun q => (hv _).mpr (by have := a3 q; have := w9 q; omega), fun q => (hv _).mpr (by have := a4 (by omega); have := w17 (by omega); omega), a5⟩
    have hb : bM M0 p i = (List.range (M0 (24 + 9 * p + 7) i).toNat).map (fun k => (M0 (24 + 9 * p + 8) ((M0 (24 + 9 * p + 6) i).toNat + k)).toNat) := if_pos hi
    rw [hb] at hn
    obtain ⟨k, hk1, hk2⟩ := List.mem_map.mp hn
    have hk1 := List.mem_range.mp hk1
    obtain ⟨b1, b2, b3⟩ := a10 k (by omega)
    rw [hk2] at b3
    exact ⟨by omega, b3⟩
  · have hk : ∀ c, kM M0 p c i = 0 := fun c => if_neg hi
    have hb : bM M0 p i = [] := if_neg hi
    rw [hk, hk, hk, hb]
    exact ⟨fun n hn => absurd hn List.not_mem_nil, fun q => absurd q (by decide), fun q => by omega, fun q => by omega⟩
end LkA
