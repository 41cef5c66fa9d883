/-! rules for the functions that yc.py writes; cells of the object by kind -/
def ylet {α β : Type} (x : α) (B : α → β) : β := B x
theorem zb_cond {b : Bool} {x y : Int} (hx : x = 0 ∨ x = 1) (hy : y = 0 ∨ y = 1) : cond b x y = 0 ∨ cond b x y = 1 := by
  cases b with
  | true => exact hx
  | false => exact hy
theorem zb_yi {x : Int} (h : x = 0 ∨ x = 1) : yi x = 0 ∨ yi x = 1 := by
  rcases h with rfl | rfl
  · exact Or.inl rfl
  · exact Or.inr rfl
section YMo
variable {α : Type} {sc : List Int32} {C : List zI} {W : List (List Nat)} {dd j : Nat} {L : zL} {S : List Value} {M : yM} {cc : Nat} {r : Option yR} {pc ln op x y z w a : Nat} {b : Int}
theorem y_let {X : yM} {B : yM → α} (g : α → Option yR) (h : ∀ N, yW sc C W dd j L S N cc (g (B N))) : yW sc C W dd j L S X cc (g (ylet X B)) := h X
theorem e_stl {B : Int → α} {g : α → Option yR} (hc : C[j]? = some (pc, ln, op, x, y, z, w)) (ho : op = 14 ∨ op = 15) (hk : ∀ e, yW sc C W dd (j + 1) (zL_set L x (.int (yi e))) S M cc (g (B e))) : yW sc C W dd j L (.int (yi b) :: S) M cc (g (ylet b B)) :=
  e_st (t := 0) hc (Or.inl ⟨rfl, ho⟩) rfl (hk b)
theorem e_lstl {B : Int → α} {g : α → Option yR} (hc : C[j]? = some (pc, ln, op, x, y, z, w)) (ho : op = 18 ∨ op = 19) (hk : ∀ e, yW sc C W dd (j + 1) (zL_set2 L x (.long (yl e))) S M cc (g (B e))) : yW sc C W dd j L (.long (yl b) :: S) M cc (g (ylet b B)) :=
  e_lst hc ho (hk b)
theorem e_objP {β : Type} {as : List Value} {t0 : β} {h0 : β → yR} {fs : List Nat} {K : β → α} (g : α → Option yR) (hc : C[j]? = some (pc, ln, op, x, y, z, w)) (ho : op = 98 ∨ op = 99 ∨ op = 100) (hl : as.length = y) (h4 : zwd S ≤ 8) (hs : zfs a = some (z, fs)) (hP : yP sc dd x (.ref a :: as) M cc (some (h0 t0))) (hk : ∀ t, yW sc C W dd (j + 1) L ((h0 t).2.2.toList ++ S) (h0 t).1 (h0 t).2.1 (g (K t))) : yW sc C W dd j L (as.reverse ++ .ref a :: S) M cc (g (ylet t0 K)) :=
  e_obj (M1 := (h0 t0).1) (cc1 := (h0 t0).2.1) (v1 := (h0 t0).2.2) hc ho hl h4 hs hP (hk t0)
theorem e_statP {β : Type} {as : List Value} {t0 : β} {h0 : β → yR} {K : β → α} (g : α → Option yR) (hc : C[j]? = some (pc, ln, op, x, y, z, w)) (ho : op = 96 ∨ op = 97) (hl : as.length = y) (h4 : zwd S ≤ 8) (hP : yP sc dd x as M cc (some (h0 t0))) (hk : ∀ t, yW sc C W dd (j + 1) L ((h0 t).2.2.toList ++ S) (h0 t).1 (h0 t).2.1 (g (K t))) : yW sc C W dd j L (as.reverse ++ S) M cc (g (ylet t0 K)) :=
  e_stat (M1 := (h0 t0).1) (cc1 := (h0 t0).2.1) (v1 := (h0 t0).2.2) hc ho hl h4 hP (hk t0)
theorem zfs_2 {b : Nat} {fs : Nat × List Nat} (hb : b ≠ 96) (h : zfs b = some fs) : ∀ i : Nat, fs.2[i]? ≠ some 2 := by
  have key : ∀ l : List Nat, (∀ d, d ∈ l → d ≠ 2) → ∀ i : Nat, l[i]? ≠ some 2 := fun l hl i q => hl 2 (List.mem_of_getElem? q) rfl
  have h96 : Nat.beq b 96 = false := by
    cases q : Nat.beq b 96 with
    | false => rfl
    | true => exact absurd (Nat.eq_of_beq_eq_true q) hb
  unfold zfs at h
  rw [h96] at h
  cases h1 : Nat.ble 416 b <;> rw [h1] at h <;> dsimp only [cond] at h
  · cases h2 : Nat.ble b 23 <;> rw [h2] at h <;> dsimp only [cond] at h
    · cases h3 : Nat.ble b 95 <;> rw [h3] at h <;> dsimp only [cond] at h
      · cases h4 : Nat.ble b 195 <;> rw [h4] at h <;> dsimp only [cond] at h
        · cases h5 : or (Nat.beq b 196) (Nat.beq b 306) <;> rw [h5] at h <;> dsimp only [cond] at h
          · cases h6 : or (Nat.beq b 197) (Nat.beq b 307) <;> rw [h6] at h <;> dsimp only [cond] at h
            · cases h7 : or (and (Nat.ble 216 b) (and (Nat.ble b 305) (Nat.beq ((b - 216) % 3) 0))) (and (Nat.ble 326 b) (Nat.beq ((b - 326) % 3) 0)) <;> rw [h7] at h <;> dsimp only [cond] at h
              · cases h
              · cases h
                exact key _ (by intro d hd; simp only [List.mem_cons, List.not_mem_nil, or_false] at hd; omega)
            · cases h
              exact key _ (by intro d hd; simp only [List.mem_cons, List.not_mem_nil, or_false] at hd; omega)
          · cases h
            exact key _ (by intro d hd; simp only [List.mem_cons, List.not_mem_nil, or_false] at hd; omega)
        · cases h6 : Nat.ble 105 b <;> rw [h6] at h <;> dsimp only [cond] at h
          · cases h
          · cases h
            exact key _ (by intro d hd; simp only [List.mem_cons, List.not_mem_nil, or_false] at hd; omega)
      · cases h4 : Nat.beq ((b - 24) % 9) 0 <;> rw [h4] at h <;> dsimp only [cond] at h
        · cases h
        · cases h
          exact key _ (by intro d hd; simp only [List.mem_cons, List.not_mem_nil, or_false] at hd; omega)
    · cases h3 : Nat.beq b 0 <;> rw [h3] at h <;> dsimp only [cond] at h
      · cases h4 : Nat.beq b 1 <;> rw [h4] at h <;> dsimp only [cond] at h
        · cases h5 : Nat.beq b 18 <;> rw [h5] at h <;> dsimp only [cond] at h
          · cases h6 : Nat.beq b 21 <;> rw [h6] at h <;> dsimp only [cond] at h
            · cases h
            · cases h
              exact key _ (by intro d hd; simp only [List.mem_cons, List.not_mem_nil, or_false] at hd; omega)
          · cases h
            exact key _ (by intro d hd; simp only [List.mem_cons, List.not_mem_nil, or_false] at hd; omega)
        · cases h
          exact key _ (by intro d hd; simp only [List.mem_cons, List.not_mem_nil, or_false] at hd; omega)
      · cases h
        exact key _ (by intro d hd; simp only [List.mem_cons, List.not_mem_nil, or_false] at hd; omega)
  · cases h
theorem yst_setC {tr c0 : Nat} {T : Nat → zO} : zU (yst M cc tr T) 96 (.inl (1, (yfl M cc tr 96 [5, 27, 25, 101, 102, 103, 104, 0, 105, 106, 0, 107, 108, 2, 0]).set 13 (.ref c0))) = yst M c0 tr T := by
  funext b
  unfold zU
  by_cases hb : b = 96
  · subst hb
    rw [if_pos rfl, yst_obj (fs := [5, 27, 25, 101, 102, 103, 104, 0, 105, 106, 0, 107, 108, 2, 0]) (c := 1) rfl]; rfl
  · rw [if_neg hb]
    have hn : Nat.beq b 96 = false := by
      cases q : Nat.beq b 96 with
      | false => rfl
      | true => exact absurd (Nat.eq_of_beq_eq_true q) hb
    have key : ∀ fs, zfs b = some fs → yfl M cc tr b fs.2 = yfl M c0 tr b fs.2 := by
      intro fs hfs
      have h3 := zfs_2 hb hfs
      unfold yfl
      refine List.ext_getElem? fun i => ?_
      rw [List.getElem?_mapIdx, List.getElem?_mapIdx]
      cases hi : fs.2[i]? with
      | none => rfl
      | some d =>
        match d, hi with
        | 0, _ => rfl
        | 1, _ => rfl
        | 2, hi => exact absurd hi (h3 i)
        | 3, _ => rfl
        | k + 4, _ => rfl
    unfold yst
    cases hf : zfs b with
    | none => rfl
    | some fs => obtain ⟨c', fs'⟩ := fs; dsimp only; rw [key _ hf]
theorem e_putc {c0 : Nat} (hc : C[j]? = some (pc, ln, op, 1, 13, 2, w)) (ho : op = 40 ∨ op = 41) (hk : yW sc C W dd (j + 1) L S M c0 r) : yW sc C W dd j L (.ref c0 :: .ref 96 :: S) M cc r := by
  intro M' cc' v hr n tr T hok
  obtain ⟨n', tr', T', q, h1, h2⟩ := hk M' cc' v hr n tr T hok
  refine ⟨n', tr', T', q, h1, ?_⟩
  refine r_put (a := 96) (fs := yfl M cc tr 96 [5, 27, 25, 101, 102, 103, 104, 0, 105, 106, 0, 107, 108, 2, 0]) hc ho (by have := hok.1; omega) (yst_obj rfl) (by rw [yfl_len]; decide) rfl ?_
  rw [yst_setC]
  exact h2
end YMo
def pC (c : Nat) : Prop := ∃ p, p < 8 ∧ c = 24 + 9 * p
def pP (l : Nat) : Prop := ∃ i, i < 91 ∧ l = 105 + 1 * i
def pM (m : Nat) : Prop := m = 196 ∨ m = 306
def pT (t : Nat) : Prop := t = 197 ∨ t = 307
def pF (f : Nat) : Prop := ∃ i, i < 30 ∧ (f = 216 + 3 * i ∨ f = 326 + 3 * i)
theorem fC {c : Nat} (h : pC c) : zfs c = some (0, [0, 0, c + 5, c + 6, c + 7, c + 8, c + 9, c + 10, c + 11, c + 12, 0, 0, 0]) := by
  obtain ⟨p, hp, rfl⟩ := h
  rcases (show p = 0 ∨ p = 1 ∨ p = 2 ∨ p = 3 ∨ p = 4 ∨ p = 5 ∨ p = 6 ∨ p = 7 by omega) with rfl | rfl | rfl | rfl | rfl | rfl | rfl | rfl <;> rfl
theorem nC_1 {c : Nat} (h : pC c) : zisN (c + 1) = true := by
  obtain ⟨p, hp, rfl⟩ := h
  rcases (show p = 0 ∨ p = 1 ∨ p = 2 ∨ p = 3 ∨ p = 4 ∨ p = 5 ∨ p = 6 ∨ p = 7 by omega) with rfl | rfl | rfl | rfl | rfl | rfl | rfl | rfl <;> rfl
theorem nC_2 {c : Nat} (h : pC c) : zisN (c + 2) = true := by
  obtain ⟨p, hp, rfl⟩ := h
  rcases (show p = 0 ∨ p = 1 ∨ p = 2 ∨ p = 3 ∨ p = 4 ∨ p = 5 ∨ p = 6 ∨ p = 7 by omega) with rfl | rfl | rfl | rfl | rfl | rfl | rfl | rfl <;> rfl
theorem nC_3 {c : Nat} (h : pC c) : zisN (c + 3) = true := by
  obtain ⟨p, hp, rfl⟩ := h
  rcases (show p = 0 ∨ p = 1 ∨ p = 2 ∨ p = 3 ∨ p = 4 ∨ p = 5 ∨ p = 6 ∨ p = 7 by omega) with rfl | rfl | rfl | rfl | rfl | rfl | rfl | rfl <;> rfl
theorem nC_4 {c : Nat} (h : pC c) : zisN (c + 4) = true := by
  obtain ⟨p, hp, rfl⟩ := h
  rcases (show p = 0 ∨ p = 1 ∨ p = 2 ∨ p = 3 ∨ p = 4 ∨ p = 5 ∨ p = 6 ∨ p = 7 by omega) with rfl | rfl | rfl | rfl | rfl | rfl | rfl | rfl <;> rfl
theorem nC_5 {c : Nat} (h : pC c) : zisN (c + 5) = true := by
  obtain ⟨p, hp, rfl⟩ := h
  rcases (show p = 0 ∨ p = 1 ∨ p = 2 ∨ p = 3 ∨ p = 4 ∨ p = 5 ∨ p = 6 ∨ p = 7 by omega) with rfl | rfl | rfl | rfl | rfl | rfl | rfl | rfl <;> rfl
theorem nC_6 {c : Nat} (h : pC c) : zisN (c + 6) = true := by
  obtain ⟨p, hp, rfl⟩ := h
  rcases (show p = 0 ∨ p = 1 ∨ p = 2 ∨ p = 3 ∨ p = 4 ∨ p = 5 ∨ p = 6 ∨ p = 7 by omega) with rfl | rfl | rfl | rfl | rfl | rfl | rfl | rfl <;> rfl
theorem nC_7 {c : Nat} (h : pC c) : zisN (c + 7) = true := by
  obtain ⟨p, hp, rfl⟩ := h
  rcases (show p = 0 ∨ p = 1 ∨ p = 2 ∨ p = 3 ∨ p = 4 ∨ p = 5 ∨ p = 6 ∨ p = 7 by omega) with rfl | rfl | rfl | rfl | rfl | rfl | rfl | rfl <;> rfl
theorem nC_8 {c : Nat} (h : pC c) : zisN (c + 8) = true := by
  obtain ⟨p, hp, rfl⟩ := h
  rcases (show p = 0 ∨ p = 1 ∨ p = 2 ∨ p = 3 ∨ p = 4 ∨ p = 5 ∨ p = 6 ∨ p = 7 by omega) with rfl | rfl | rfl | rfl | rfl | rfl | rfl | rfl <;> rfl
theorem fM {m : Nat} (h : pM m) : zfs m = some (4, [5, 27, 25, m + 5, m + 17, m + 18, m + 19, m + 20, m + 21, m + 22, 1, m + 23, 0, 0, 0, 0, 0, 0]) := by
  rcases h with rfl | rfl <;> rfl
theorem nM_13 {m : Nat} (h : pM m) : zisN (m + 13) = true := by
  rcases h with rfl | rfl <;> rfl
theorem nM_14 {m : Nat} (h : pM m) : zisN (m + 14) = true := by
  rcases h with rfl | rfl <;> rfl
theorem nM_15 {m : Nat} (h : pM m) : zisN (m + 15) = true := by
  rcases h with rfl | rfl <;> rfl
theorem nM_16 {m : Nat} (h : pM m) : zisN (m + 16) = true := by
  rcases h with rfl | rfl <;> rfl
theorem nM_17 {m : Nat} (h : pM m) : zisN (m + 17) = true := by
  rcases h with rfl | rfl <;> rfl
theorem nM_18 {m : Nat} (h : pM m) : zisN (m + 18) = true := by
  rcases h with rfl | rfl <;> rfl
theorem fT {t : Nat} (h : pT t) : zfs t = some (8, [0, 0, t + 5, t + 6, t + 7, t + 8, t + 9, t + 10, t + 11, t + 12, t + 13, t + 14, t + 15]) := by
  rcases h with rfl | rfl <;> rfl
theorem nT_1 {t : Nat} (h : pT t) : zisN (t + 1) = true := by
  rcases h with rfl | rfl <;> rfl
theorem nT_2 {t : Nat} (h : pT t) : zisN (t + 2) = true := by
  rcases h with rfl | rfl <;> rfl
theorem nT_3 {t : Nat} (h : pT t) : zisN (t + 3) = true := by
  rcases h with rfl | rfl <;> rfl
theorem nT_4 {t : Nat} (h : pT t) : zisN (t + 4) = true := by
  rcases h with rfl | rfl <;> rfl
theorem nT_5 {t : Nat} (h : pT t) : zisN (t + 5) = true := by
  rcases h with rfl | rfl <;> rfl
theorem nT_6 {t : Nat} (h : pT t) : zisN (t + 6) = true := by
  rcases h with rfl | rfl <;> rfl
theorem nT_7 {t : Nat} (h : pT t) : zisN (t + 7) = true := by
  rcases h with rfl | rfl <;> rfl
theorem nT_8 {t : Nat} (h : pT t) : zisN (t + 8) = true := by
  rcases h with rfl | rfl <;> rfl
theorem nT_9 {t : Nat} (h : pT t) : zisN (t + 9) = true := by
  rcases h with rfl | rfl <;> rfl
theorem nT_10 {t : Nat} (h : pT t) : zisN (t + 10) = true := by
  rcases h with rfl | rfl <;> rfl
theorem nT_11 {t : Nat} (h : pT t) : zisN (t + 11) = true := by
  rcases h with rfl | rfl <;> rfl
theorem pT_M {m : Nat} (h : pM m) : pT (m + 1) := by
  rcases h with rfl | rfl
  · exact Or.inl rfl
  · exact Or.inr rfl
theorem qM {m : Nat} (h : pM m) : zqr (m + 19) = some (30, 3, m + 20, 3) := by
  rcases h with rfl | rfl <;> rfl
theorem qM_le {m : Nat} (h : pM m) : m + 19 ≤ 415 := by
  rcases h with rfl | rfl <;> decide
theorem pF_M {m e : Nat} (h : pM m) (he : e < 30) : pF (m + 20 + 3 * e) := by
  rcases h with rfl | rfl
  · exact ⟨e, he, Or.inl rfl⟩
  · exact ⟨e, he, Or.inr rfl⟩
theorem fP {l : Nat} (h : pP l) : zfs l = some (5, [0, 0, 0, 0, 0, 0]) := by
  have key : ∀ i, i < 91 → zfs (105 + 1 * i) = some (5, [0, 0, 0, 0, 0, 0]) := by decide
  obtain ⟨i, hi, rfl⟩ := h
  exact key i hi
theorem fF {f : Nat} (h : pF f) : zfs f = some (3, [0, 0, 0, 0, f + 5, f + 6]) := by
  have k1 : ∀ i, i < 30 → zfs (216 + 3 * i) = some (3, [0, 0, 0, 0, 216 + 3 * i + 5, 216 + 3 * i + 6]) := by decide
  have k2 : ∀ i, i < 30 → zfs (326 + 3 * i) = some (3, [0, 0, 0, 0, 326 + 3 * i + 5, 326 + 3 * i + 6]) := by decide
  obtain ⟨i, hi, rfl | rfl⟩ := h
  · exact k1 i hi
  · exact k2 i hi
theorem nF_1 {f : Nat} (h : pF f) : zisN (f + 1) = true := by
  have k1 : ∀ i, i < 30 → zisN (216 + 3 * i + 1) = true := by decide
  have k2 : ∀ i, i < 30 → zisN (326 + 3 * i + 1) = true := by decide
  obtain ⟨i, hi, rfl | rfl⟩ := h
  · exact k1 i hi
  · exact k2 i hi
theorem nF_2 {f : Nat} (h : pF f) : zisN (f + 2) = true := by
  have k1 : ∀ i, i < 30 → zisN (216 + 3 * i + 2) = true := by decide
  have k2 : ∀ i, i < 30 → zisN (326 + 3 * i + 2) = true := by decide
  obtain ⟨i, hi, rfl | rfl⟩ := h
  · exact k1 i hi
  · exact k2 i hi
