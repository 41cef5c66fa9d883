/-! what an abstract state says of a state -/
def xf_2 {α β : Type} (R : α → β → Prop) : List α → List β → Prop
  | [], [] => True
  | a :: as, b :: bs => R a b ∧ xf_2 R as bs
  | _, _ => False
theorem xf_2_nil {α β : Type} {R : α → β → Prop} {bs : List β} (h : xf_2 R [] bs) : bs = [] := by
  cases bs with
  | nil => rfl
  | cons b bs => cases h
theorem xf_2_cons {α β : Type} {R : α → β → Prop} {a : α} {as : List α} {bs : List β} (h : xf_2 R (a :: as) bs) : ∃ b bs', bs = b :: bs' ∧ R a b ∧ xf_2 R as bs' := by
  cases bs with
  | nil => cases h
  | cons b bs => exact ⟨b, bs, rfl, h.1, h.2⟩
theorem xf_2_mono {α β : Type} {R R' : α → β → Prop} (hR : ∀ a b, R a b → R' a b) : ∀ {as : List α} {bs : List β}, xf_2 R as bs → xf_2 R' as bs
  | [], [], _ => trivial
  | _ :: _, _ :: _, h => ⟨hR _ _ h.1, xf_2_mono hR h.2⟩
  | [], _ :: _, h => h.elim
  | _ :: _, [], h => h.elim
theorem xf_2_len {α β : Type} {R : α → β → Prop} : ∀ {as : List α} {bs : List β}, xf_2 R as bs → as.length = bs.length
  | [], [], _ => rfl
  | _ :: _, _ :: _, h => by simp [xf_2_len h.2]
  | [], _ :: _, h => h.elim
  | _ :: _, [], h => h.elim
theorem xf_2_get {α β : Type} {R : α → β → Prop} {as : List α} : ∀ {bs : List β}, xf_2 R as bs → ∀ (i : Nat) (a : α), as[i]? = some a → ∃ b, bs[i]? = some b ∧ R a b := by
  induction as with
  | nil => intro bs h i a hi; simp at hi
  | cons x as ih =>
    intro bs h i a hi
    obtain ⟨b, bs', rfl, h1, h2⟩ := xf_2_cons h
    cases i with
    | zero => simp at hi; subst hi; exact ⟨b, rfl, h1⟩
    | succ i =>
      obtain ⟨b', h3, h4⟩ := ih h2 i a (by simpa using hi)
      exact ⟨b', by simpa using h3, h4⟩
theorem xf_2_c {α β : Type} {R : α → β → Prop} {a : α} {b : β} {as : List α} {bs : List β} (h1 : R a b) (h2 : xf_2 R as bs) : xf_2 R (a :: as) (b :: bs) := ⟨h1, h2⟩
theorem xf_2_app {α β : Type} {R : α → β → Prop} : ∀ {as : List α} {bs : List β}, xf_2 R as bs → ∀ {as' : List α} {bs' : List β}, xf_2 R as' bs' → xf_2 R (as ++ as') (bs ++ bs')
  | [], [], _ => fun h => h
  | _ :: _, _ :: _, h => fun h' => ⟨h.1, xf_2_app h.2 h'⟩
  | [], _ :: _, h => h.elim
  | _ :: _, [], h => h.elim
theorem xf_2_set {α β : Type} {R : α → β → Prop} : ∀ {as : List α} {bs : List β}, xf_2 R as bs → ∀ (i : Nat) {a : α} {b : β}, R a b → xf_2 R (as.set i a) (bs.set i b)
  | [], [], _ => fun _ _ _ _ => trivial
  | _ :: _, _ :: _, h => fun i a b hR => by
    cases i with
    | zero => exact ⟨hR, h.2⟩
    | succ i => exact ⟨h.1, xf_2_set h.2 i hR⟩
  | [], _ :: _, h => h.elim
  | _ :: _, [], h => h.elim
/-- the constant objects, the script's cell -/
abbrev xm_E : Type := (Nat → Nat) × Nat
def xm_V (E : xm_E) (ws : va_W) (q : xv_V) : Value → Prop
  | .int x => (q.1 = 0 ∧ q.2.1 ≤ xb x ∧ xb x ≤ q.2.2) ∨ (q.1 = 5 ∧ x &&& 31 = Int32.ofNat q.2.1 ∧ q.2.1 < 32)
  | .long x => q.1 = 3 ∧ xbl x = q.2.1
  | .double b => q.1 = 4 ∧ b.toNat = q.2.1
  | .null => q.1 = 2
  | .ref a => (q.1 = 1 ∧ ∃ e : va_E, ws[q.2.1]? = some (a, e)) ∨ (q.1 = 6 ∧ a = E.1 q.2.1) ∨ (q.1 = 7 ∧ a = E.2) ∨ q.1 = 8
  | _ => False
/-- the same cells, whatever they hold -/
def xm_le (ws ws' : va_W) : Prop := ∀ (i a : Nat) (e : va_E), ws[i]? = some (a, e) → ∃ e' : va_E, ws'[i]? = some (a, e')
theorem xm_le_app (ws w : va_W) : xm_le ws (ws ++ w) := fun i a e h => ⟨e, by rw [List.getElem?_append_left (List.getElem?_eq_some_iff.mp h).1]; exact h⟩
theorem xm_le_set {ws : va_W} {i a : Nat} {e e' : va_E} (h : ws[i]? = some (a, e)) : xm_le ws (ws.set i (a, e')) := by
  intro j b f hj
  by_cases q : i = j
  · subst q
    rw [h] at hj
    cases hj
    exact ⟨e', by rw [List.getElem?_set_self (List.getElem?_eq_some_iff.mp h).1]⟩
  · exact ⟨f, by rw [List.getElem?_set_ne q]; exact hj⟩
theorem xm_le_rfl (ws : va_W) : xm_le ws ws := fun _ _ e h => ⟨e, h⟩
theorem xm_le_trans {a b c : va_W} (h1 : xm_le a b) (h2 : xm_le b c) : xm_le a c := fun i x e h => by
  obtain ⟨e', h'⟩ := h1 i x e h
  exact h2 i x e' h'
theorem xm_V_mono {E : xm_E} {ws ws' : va_W} (h : xm_le ws ws') {q : xv_V} {v : Value} (hv : xm_V E ws q v) : xm_V E ws' q v := by
  cases v with
  | ref a =>
    rcases hv with ⟨h1, e, h2⟩ | h3
    · obtain ⟨e', h4⟩ := h _ _ _ h2
      exact Or.inl ⟨h1, e', h4⟩
    · exact Or.inr h3
  | _ => exact hv
theorem xm_V0 {E : xm_E} {ws : va_W} {a b : Nat} {v : Value} (h : xm_V E ws (0, a, b) v) : ∃ x, v = .int x ∧ a ≤ xb x ∧ xb x ≤ b := by
  cases v with
  | int x =>
    rcases h with h | h
    · exact ⟨x, rfl, h.2⟩
    · exact absurd h.1 (by simp)
  | ref a => rcases h with h | h | h | h <;> simp at h
  | _ => simp [xm_V] at h
theorem xm_V1 {E : xm_E} {ws : va_W} {n : Nat} {v : Value} (h : xm_V E ws (0, n, n) v) : ∃ x, v = .int x ∧ xb x = n := by
  obtain ⟨x, h1, h2, h3⟩ := xm_V0 h
  exact ⟨x, h1, by omega⟩
theorem xm_VI {E : xm_E} {ws : va_W} {q : xv_V} {v : Value} (hq : xq_isI q = true) (h : xm_V E ws q v) : ∃ x, v = .int x := by
  obtain ⟨t, a, b⟩ := q
  have ht : t = 0 ∨ t = 5 := (xe_or hq).imp xe_beq xe_beq
  cases v with
  | int x => exact ⟨x, rfl⟩
  | ref a => rcases h with h | h | h | h <;> rcases ht with rfl | rfl <;> simp at h
  | long _ => rcases ht with rfl | rfl <;> simp [xm_V] at h
  | double _ => rcases ht with rfl | rfl <;> simp [xm_V] at h
  | null => rcases ht with rfl | rfl <;> simp [xm_V] at h
  | _ => simp [xm_V] at h
theorem xm_VA {E : xm_E} {ws : va_W} {q : xv_V} {v : Value} (hq : xq_isA q = true) (h : xm_V E ws q v) : ∃ r, v = va_rf r := by
  obtain ⟨t, a, b⟩ := q
  have ht : t = 1 ∨ t = 2 ∨ t = 6 ∨ t = 7 ∨ t = 8 := by
    rcases xe_or hq with h | h
    · exact Or.inl (xe_beq h)
    · rcases xe_or h with h | h
      · exact Or.inr (Or.inl (xe_beq h))
      · rcases xe_or h with h | h
        · exact Or.inr (Or.inr (Or.inl (xe_beq h)))
        · rcases xe_or h with h | h
          · exact Or.inr (Or.inr (Or.inr (Or.inl (xe_beq h))))
          · exact Or.inr (Or.inr (Or.inr (Or.inr (xe_beq h))))
  cases v with
  | ref a => exact ⟨some a, rfl⟩
  | null => exact ⟨none, rfl⟩
  | int x => rcases ht with rfl | rfl | rfl | rfl | rfl <;> simp [xm_V] at h
  | long _ => rcases ht with rfl | rfl | rfl | rfl | rfl <;> simp [xm_V] at h
  | double _ => rcases ht with rfl | rfl | rfl | rfl | rfl <;> simp [xm_V] at h
  | _ => simp [xm_V] at h
theorem xm_VL {E : xm_E} {ws : va_W} {q : xv_V} {v : Value} (hq : Nat.beq q.1 3 = true) (h : xm_V E ws q v) : ∃ x, v = .long x ∧ xbl x = q.2.1 := by
  obtain ⟨t, a, b⟩ := q
  have ht : t = 3 := xe_beq hq
  subst ht
  cases v with
  | long x => exact ⟨x, rfl, h.2⟩
  | ref a => rcases h with h | h | h | h <;> simp at h
  | _ => simp [xm_V] at h
theorem xm_VD {E : xm_E} {ws : va_W} {q : xv_V} {v : Value} (hq : Nat.beq q.1 4 = true) (h : xm_V E ws q v) : ∃ x, v = .double x ∧ x.toNat = q.2.1 := by
  obtain ⟨t, a, b⟩ := q
  have ht : t = 4 := xe_beq hq
  subst ht
  cases v with
  | double x => exact ⟨x, rfl, h.2⟩
  | ref a => rcases h with h | h | h | h <;> simp at h
  | _ => simp [xm_V] at h
theorem xm_VO {E : xm_E} {ws : va_W} {q : xv_V} {v : Value} (hq : q.1 = 1) (h : xm_V E ws q v) : ∃ (a : Nat) (e : va_E), v = .ref a ∧ ws[q.2.1]? = some (a, e) := by
  obtain ⟨t, a, b⟩ := q
  dsimp only at hq
  subst hq
  cases v with
  | ref a =>
    rcases h with h | h | h | h
    · exact ⟨a, h.2.choose, rfl, h.2.choose_spec⟩
    · exact absurd h.1 (by simp)
    · exact absurd h.1 (by simp)
    · exact absurd h (by simp)
  | _ => simp [xm_V] at h
theorem xm_cat {E : xm_E} {ws : va_W} {q : xv_V} {v : Value} (h : xm_V E ws q v) : xq_is2 q = (v.category == 2) := by
  obtain ⟨t, a, b⟩ := q
  cases v with
  | int x => rcases h with ⟨h, -⟩ | ⟨h, -⟩ <;> (dsimp only at h; subst h; rfl)
  | long x => obtain ⟨h, -⟩ := h; dsimp only at h; subst h; rfl
  | double x => obtain ⟨h, -⟩ := h; dsimp only at h; subst h; rfl
  | null => have h' : t = 2 := h; subst h'; rfl
  | ref x => rcases h with ⟨h, -⟩ | ⟨h, -⟩ | ⟨h, -⟩ | h <;> (dsimp only at h; subst h; rfl)
  | _ => simp [xm_V] at h
theorem xm_cat1 {E : xm_E} {ws : va_W} {q : xv_V} {v : Value} (h : xm_V E ws q v) (hq : xq_is2 q = false) : v.category = 1 := by
  have h1 := xm_cat h
  rw [hq] at h1
  rcases lv_cat v with h2 | h2
  · exact h2
  · rw [h2] at h1; cases h1
/-- a local -/
def xm_L (E : xm_E) (ws : va_W) (a : Nat × xv_V) (b : Nat × Value) : Prop := a.1 = b.1 ∧ xm_V E ws a.2 b.2
theorem xm_L_mono {E : xm_E} {ws ws' : va_W} (h : xm_le ws ws') {L : xv_L} {lv : List (Nat × Value)} (hL : xf_2 (xm_L E ws) L lv) : xf_2 (xm_L E ws') L lv := xf_2_mono (fun _ _ q => ⟨q.1, xm_V_mono h q.2⟩) hL
theorem xm_S_mono {E : xm_E} {ws ws' : va_W} (h : xm_le ws ws') {S : List xv_V} {st : List Value} (hL : xf_2 (xm_V E ws) S st) : xf_2 (xm_V E ws') S st := xf_2_mono (fun _ _ q => xm_V_mono h q) hL
theorem xm_del1 {E : xm_E} {ws : va_W} (i : Nat) : ∀ {L : List (Nat × xv_V)} {lv : List (Nat × Value)}, xf_2 (xm_L E ws) L lv → xf_2 (xm_L E ws) (xq_del1 L i) (lv.filter (fun q => !(q.1 == i) && !(q.1 + 1 == i && q.2.category == 2)))
  | [], [], _ => trivial
  | (a, q) :: L, (b, v) :: lv, h => by
    obtain ⟨⟨h1, h2⟩, h3⟩ := h
    dsimp only at h1 h2
    subst h1
    have ih := xm_del1 i h3
    show xf_2 _ (cond (Nat.beq a i) (xq_del1 L i) (cond (and (Nat.beq (Nat.succ a) i) (xq_is2 q)) (xq_del1 L i) ((a, q) :: xq_del1 L i))) _
    rw [List.filter_cons, xm_cat h2]
    cases h4 : Nat.beq a i with
    | true =>
      have := xe_beq h4
      simp only [this, cond_true, beq_self_eq_true, Bool.not_true, Bool.false_and, Bool.false_eq_true, if_false]
      exact ih
    | false =>
      have n4 := xe_bne h4
      have e4 : (a == i) = false := by simpa using n4
      cases h5 : Nat.beq (Nat.succ a) i with
      | true =>
        have e5 : (a + 1 == i) = true := by simpa using xe_beq h5
        cases h6 : (v.category == 2) with
        | true => simpa [e4, e5, h6] using ih
        | false => simpa [e4, e5, h6] using (xf_2_c (R := xm_L E ws) (a := (a, q)) (b := (a, v)) ⟨rfl, h2⟩ ih)
      | false =>
        have e5 : (a + 1 == i) = false := by simpa using xe_bne h5
        simpa [e4, e5] using (xf_2_c (R := xm_L E ws) (a := (a, q)) (b := (a, v)) ⟨rfl, h2⟩ ih)
  | [], _ :: _, h => h.elim
  | _ :: _, [], h => h.elim
theorem xm_del2 {E : xm_E} {ws : va_W} (i : Nat) : ∀ {L : List (Nat × xv_V)} {lv : List (Nat × Value)}, xf_2 (xm_L E ws) L lv → xf_2 (xm_L E ws) (xq_del2 L i) (lv.filter (fun q => !(q.1 == i) && (!(q.1 == i + 1) && !(q.1 + 1 == i && q.2.category == 2))))
  | [], [], _ => trivial
  | (a, q) :: L, (b, v) :: lv, h => by
    obtain ⟨⟨h1, h2⟩, h3⟩ := h
    dsimp only at h1 h2
    subst h1
    have ih := xm_del2 i h3
    show xf_2 _ (cond (Nat.beq a i) (xq_del2 L i) (cond (Nat.beq a (Nat.succ i)) (xq_del2 L i) (cond (and (Nat.beq (Nat.succ a) i) (xq_is2 q)) (xq_del2 L i) ((a, q) :: xq_del2 L i)))) _
    rw [List.filter_cons, xm_cat h2]
    cases h4 : Nat.beq a i with
    | true =>
      have := xe_beq h4
      simp only [this, cond_true, beq_self_eq_true, Bool.not_true, Bool.false_and, Bool.false_eq_true, if_false]
      exact ih
    | false =>
      have n4 := xe_bne h4
      have e4 : (a == i) = false := by simpa using n4
      cases h7 : Nat.beq a (Nat.succ i) with
      | true =>
        have e7 : (a == i + 1) = true := by simpa using xe_beq h7
        simpa [e4, e7] using ih
      | false =>
        have e7 : (a == i + 1) = false := by simpa using xe_bne h7
        cases h5 : Nat.beq (Nat.succ a) i with
        | true =>
          have e5 : (a + 1 == i) = true := by simpa using xe_beq h5
          cases h6 : (v.category == 2) with
          | true => simpa [e4, e5, e7, h6] using ih
          | false => simpa [e4, e5, e7, h6] using (xf_2_c (R := xm_L E ws) (a := (a, q)) (b := (a, v)) ⟨rfl, h2⟩ ih)
        | false =>
          have e5 : (a + 1 == i) = false := by simpa using xe_bne h5
          simpa [e4, e5, e7] using (xf_2_c (R := xm_L E ws) (a := (a, q)) (b := (a, v)) ⟨rfl, h2⟩ ih)
  | [], _ :: _, h => h.elim
  | _ :: _, [], h => h.elim
/-- the form of a row of numbers or references by its type, and what it holds at j -/
def xm_k (t : Nat) (arr : (Nat → Int32) ⊕ (Nat → Int64) ⊕ (Nat → UInt32) ⊕ (Nat → UInt64) ⊕ (Nat → Option Nat)) : Prop := (t = 0 ∧ ∃ f, arr = .inl f) ∨ (t = 5 ∧ ∃ f, arr = .inr (.inl f)) ∨ (1 ≤ t ∧ t ≤ 4 ∧ ∃ f, arr = .inr (.inr (.inr (.inr f))))
def xm_el (arr : (Nat → Int32) ⊕ (Nat → Int64) ⊕ (Nat → UInt32) ⊕ (Nat → UInt64) ⊕ (Nat → Option Nat)) (j : Nat) : Value := match arr with
  | .inl f => .int (f j)
  | .inr (.inl f) => .long (f j)
  | .inr (.inr (.inl f)) => .float (f j)
  | .inr (.inr (.inr (.inl f))) => .double (f j)
  | .inr (.inr (.inr (.inr f))) => va_rf (f j)
abbrev xm_T : Type := List (ClassId × FieldType)
def xm_O (E : xm_E) (ws : va_W) (tys : xm_T) (o : xv_O) (w : Nat × va_E) : Prop :=
  (o.1 = 0 ∧ ∃ fs, w.2 = .inr (o.2.1, fs) ∧ xf_2 (xm_V E ws) o.2.2 fs) ∨
  (o.1 = 1 ∧ ∃ (cA : ClassId) (n : Nat) (arr : (Nat → Int32) ⊕ (Nat → Int64) ⊕ (Nat → UInt32) ⊕ (Nat → UInt64) ⊕ (Nat → Option Nat)) (t0 : Nat), w.2 = .inl (cA, n, arr) ∧ tys[t0]? = some (cA, xg_TY o.2.1) ∧ xm_k o.2.1 arr ∧ n = o.2.2.length ∧ n ≤ 65536 ∧ ∀ (j : Nat) (q : xv_V), o.2.2[j]? = some q → xm_V E ws q (xm_el arr j))
theorem xm_O_mono {E : xm_E} {ws ws' : va_W} {tys : xm_T} (tys' : xm_T) (h : xm_le ws ws') {o : xv_O} {w : Nat × va_E} (hO : xm_O E ws tys o w) : xm_O E ws' (tys ++ tys') o w := by
  rcases hO with ⟨h0, fs, h1, h2⟩ | ⟨h0, cA, n, arr, t0, h1, h2, h3, h4, h5, h6⟩
  · exact Or.inl ⟨h0, fs, h1, xm_S_mono h h2⟩
  · exact Or.inr ⟨h0, cA, n, arr, t0, h1, by rw [List.getElem?_append_left (List.getElem?_eq_some_iff.mp h2).1]; exact h2, h3, h4, h5, fun j q hq => xm_V_mono h (h6 j q hq)⟩
theorem xm_H_mono {E : xm_E} {ws ws' : va_W} {tys : xm_T} (tys' : xm_T) (h : xm_le ws ws') {hs : List xv_O} {w : va_W} (hO : xf_2 (xm_O E ws tys) hs w) : xf_2 (xm_O E ws' (tys ++ tys')) hs w := xf_2_mono (fun _ _ q => xm_O_mono tys' h q) hO
theorem xm_H_mono' {E : xm_E} {ws ws' : va_W} {tys : xm_T} (h : xm_le ws ws') {hs : List xv_O} {w : va_W} (hO : xf_2 (xm_O E ws tys) hs w) : xf_2 (xm_O E ws' tys) hs w := by
  have := xm_H_mono [] h hO
  rwa [List.append_nil] at this
