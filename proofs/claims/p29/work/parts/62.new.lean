/-! a new object's cells, out of the kernel's run -/
theorem ze_mk {a b : Bool} (h : a = true) (g : b = true) : and a b = true := by rw [h, g]; rfl
theorem wsm_get {g : Nat → Nat} : ∀ {xs : List Int32} {i : Nat}, wsm g i xs = true → ∀ k x, xs[k]? = some x → x.toUInt32.toBitVec.toNat = g (i + k)
  | [], _, _, k, x, h => by cases h
  | y :: xs, i, h, k, x, hk => by
    have h : and (Nat.beq y.toUInt32.toBitVec.toNat (g i)) (wsm g (i + 1) xs) = true := h
    obtain ⟨h1, h2⟩ := ze_and h
    cases k with
    | zero =>
      have e : y = x := Option.some.inj hk
      subst e
      exact Nat.eq_of_beq_eq_true h1
    | succ k => rw [show i + (k + 1) = (i + 1) + k by omega]; exact wsm_get h2 k x hk
theorem wsm_eq {g : Nat → Nat} {f : Nat → Int} {n : Nat} {xs : List Int32} (hg : ∀ i, (yi (f i)).toUInt32.toBitVec.toNat = g i) (hl : xs.length = n) (h : wsm g 0 xs = true) : xs = yrow f n := by
  refine List.ext_getElem? fun i => ?_
  by_cases hi : i < n
  · rw [yrow_get hi, List.getElem?_eq_getElem (by omega)]
    refine congrArg some ?_
    have h4 := wsm_get h i xs[i] (List.getElem?_eq_getElem (by omega))
    rw [Nat.zero_add, ← hg i] at h4
    generalize xs[i] = x at h4 ⊢
    generalize yi (f i) = y at h4 ⊢
    obtain ⟨⟨⟨⟨v, hv⟩⟩⟩⟩ := x
    obtain ⟨⟨⟨⟨w, hw⟩⟩⟩⟩ := y
    have h5 : v = w := h4
    subst h5
    rfl
  · rw [List.getElem?_eq_none (by omega), List.getElem?_eq_none (by rw [yrow_len]; omega)]
theorem wnb {a k : Nat} (h : a ≠ k) : Nat.beq a k = false := by
  cases q : Nat.beq a k with
  | false => rfl
  | true => exact absurd (Nat.eq_of_beq_eq_true q) h
theorem wg_eq {a : Nat} (h0 : a ≠ 0) (h1 : a ≠ 1) (h21 : a ≠ 21) (i : Nat) : (yi (yI a i)).toUInt32.toBitVec.toNat = wg a i := by
  by_cases h2 : a = 2
  · subst h2
    match i with
    | 0 => rfl
    | i + 1 =>
      rw [show yI 2 (i + 1) = 0 by simp [yI]]
      rfl
  by_cases h4 : a = 4
  · subst h4
    match i with
    | 0 => rfl
    | 1 => rfl
    | 2 => rfl
    | 3 => rfl
    | 4 => rfl
    | i + 5 =>
      rw [show yI 4 (i + 5) = 0 by simp [yI]]
      rfl
  by_cases h6 : a = 6
  · subst h6; rfl
  by_cases h211 : a = 211
  · subst h211; rfl
  by_cases h321 : a = 321
  · subst h321; rfl
  have e : yI a i = 0 := by
    unfold yI
    rw [if_neg h0, if_neg h1, if_neg h2, if_neg h4, if_neg h6, if_neg h21, if_neg (by omega)]
  rw [e]
  unfold wg
  rw [wnb h2, wnb h4, wnb h6, wnb h211, wnb h321]
  rfl
theorem wcell_eq {a : Nat} {o : zO} (h1 : wtst a [o] = true) (h2 : wtst2 a [o] = true) : o = yst yI 24 22 yT a := by
  have h1 := (ze_and h1).1
  have h2 := (ze_and h2).1
  cases o with
  | inl p =>
    obtain ⟨c, fs⟩ := p
    have h2 : (match zfs a with
      | some (c', fs') => and (Nat.beq c c') (decide (fs = yfl yI 24 22 a fs'))
      | none => false) = true := h2
    cases hz : zfs a with
    | none => rw [hz] at h2; cases h2
    | some q =>
      obtain ⟨c', fs'⟩ := q
      rw [hz] at h2
      obtain ⟨h3, h4⟩ := ze_and h2
      rw [yst_obj hz, Nat.eq_of_beq_eq_true h3, of_decide_eq_true h4]
  | inr p =>
    cases p with
    | inl xs =>
      have h1 : cond (or (Nat.beq a 6) (or (Nat.beq a 211) (Nat.beq a 321))) (Nat.beq xs.length (yln a)) (wsm (wg a) 0 xs) = true := h1
      have h2 : and (cond (Nat.beq a 22) true (zisN a)) (cond (or (Nat.beq a 6) (or (Nat.beq a 211) (Nat.beq a 321))) (wsm (wg a) 0 xs) (Nat.beq xs.length (cond (Nat.beq a 22) 512 (yln a)))) = true := h2
      obtain ⟨h2, h3⟩ := ze_and h2
      by_cases h22 : a = 22
      · subst h22
        have e : xs = yrow (yI 22) 512 := wsm_eq (wg_eq (by omega) (by omega) (by omega)) (Nat.eq_of_beq_eq_true h3) h1
        rw [e]; rfl
      · rw [wnb h22] at h2 h3
        have h2 : zisN a = true := h2
        have n0 : a ≠ 0 := fun q => by subst q; cases h2
        have n1 : a ≠ 1 := fun q => by subst q; cases h2
        have n21 : a ≠ 21 := fun q => by subst q; cases h2
        rw [yst_num h2]
        refine congrArg (fun l => Sum.inr (Sum.inl l)) ?_
        cases hq : or (Nat.beq a 6) (or (Nat.beq a 211) (Nat.beq a 321)) with
        | true =>
          rw [hq] at h1 h3
          exact wsm_eq (wg_eq n0 n1 n21) (Nat.eq_of_beq_eq_true h1) h3
        | false =>
          rw [hq] at h1 h3
          exact wsm_eq (wg_eq n0 n1 n21) (Nat.eq_of_beq_eq_true h3) h1
    | inr p =>
      cases p with
      | inl xs => cases h2
      | inr q =>
        obtain ⟨t, xs⟩ := q
        have h2 : (match zqr a with
          | some (n, t', b, s) => and (Nat.beq t t') (decide (xs = yqs n b s))
          | none => false) = true := h2
        cases hz : zqr a with
        | none => rw [hz] at h2; cases h2
        | some q =>
          obtain ⟨n, t', b, s⟩ := q
          rw [hz] at h2
          obtain ⟨h3, h4⟩ := ze_and h2
          rw [yst_refs hz, Nat.eq_of_beq_eq_true h3, of_decide_eq_true h4]
theorem wtst_get : ∀ {l : List zO} {a : Nat}, wtst a l = true → ∀ i o, l[i]? = some o → wtst (a + i) [o] = true
  | [], _, _, i, o, h => by cases h
  | x :: l, a, h, i, o, hi => by
    cases i with
    | zero =>
      have e : x = o := Option.some.inj hi
      subst e
      exact ze_mk (ze_and h).1 rfl
    | succ i => rw [show a + (i + 1) = (a + 1) + i by omega]; exact wtst_get (ze_and h).2 i o hi
theorem wtst2_get : ∀ {l : List zO} {a : Nat}, wtst2 a l = true → ∀ i o, l[i]? = some o → wtst2 (a + i) [o] = true
  | [], _, _, i, o, h => by cases h
  | x :: l, a, h, i, o, hi => by
    cases i with
    | zero =>
      have e : x = o := Option.some.inj hi
      subst e
      exact ze_mk (ze_and h).1 rfl
    | succ i => rw [show a + (i + 1) = (a + 1) + i by omega]; exact wtst2_get (ze_and h).2 i o hi
theorem ctor_w : wr0 5000 = some (none, zh 416 (yst yI 24 22 yT), 415, 64185) := by
  have q0 := q_0
  have q1 := q_1
  have q2 := q_2
  generalize wr0 5000 = r at q0 q1 q2
  match r with
  | none => cases q0
  | some (some v, r) => cases q0
  | some (none, H', nc, ns) =>
    obtain ⟨a1, a2⟩ := ze_and q0
    obtain ⟨a3, a4⟩ := ze_and q1
    have q2 : wtst2 0 H' = true := q2
    have a3 := Nat.eq_of_beq_eq_true a3
    rw [Nat.eq_of_beq_eq_true a1, Nat.eq_of_beq_eq_true a2]
    have e : H' = zh 416 (yst yI 24 22 yT) := by
      refine List.ext_getElem? fun i => ?_
      by_cases hi : i < 416
      · rw [zh_get hi, List.getElem?_eq_getElem (by omega)]
        have b1 := wtst_get a4 i H'[i] (List.getElem?_eq_getElem (by omega))
        have b2 := wtst2_get q2 i H'[i] (List.getElem?_eq_getElem (by omega))
        rw [Nat.zero_add] at b1 b2
        rw [wcell_eq b1 b2]
      · rw [List.getElem?_eq_none (by omega), List.getElem?_eq_none (by rw [zh_len]; omega)]
    rw [e]
theorem ctor_z {sc : List Int32} {F d : Nat} (hF : 5000 ≤ F) (hd : 8 ≤ d) : zx zg_FD zg_MT sc F d 0 [.ref 0] [.inl (9, [.null, .null, .null, .null, .null, .null, .null, .int 0, .int 0, .int 0, .int 0, .int 0])] = some (none, zh 416 (yst yI 24 22 yT), 415, 64185) :=
  wx_le hF hd 0 [.ref 0] [.inl (9, [.null, .null, .null, .null, .null, .null, .null, .int 0, .int 0, .int 0, .int 0, .int 0])] _ ctor_w
