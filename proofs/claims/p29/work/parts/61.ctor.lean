/-! the constructor, by the kernel: runs that don't touch the script -/
def zbad (op : Nat) (S : List Value) : Bool := match S with
  | .int _ :: .retAddr _ :: _ => Nat.beq op 42
  | .retAddr _ :: _ => Nat.beq op 48
  | _ => false
def w1 (d op x y z : Nat) : zF := fun L S h => cond (zbad op S) none (z1 [] d op x y z L S h)
def wrow (FD : List (List Value)) (X : zX) (d : Nat) (sw : List (List Nat)) (i : zI) (j : Nat) (ih : zN) (L : zL) (S : List Value) (h : List zO) (nc ns : Nat) : Option zR :=
  cond (or (Nat.ble i.2.2.1 51) (and (Nat.ble 102 i.2.2.1) (Nat.ble i.2.2.1 111))) (zq_m (w1 d i.2.2.1 i.2.2.2.1 i.2.2.2.2.1 i.2.2.2.2.2.1 L S h) fun t => ih (j + 1) t.1 t.2.1 t.2.2 nc ns)
  (cond (Nat.ble i.2.2.1 58) (znew i.2.2.1 i.2.2.2.1 j FD ih L S h nc ns)
  (cond (Nat.ble i.2.2.1 81) (zj i.2.2.1 i.2.2.2.1 i.2.2.2.2.2.1 j sw ih L S h nc ns)
  (cond (Nat.ble i.2.2.1 87) (zr i.2.2.1 i.2.2.2.2.2.1 S h nc ns)
  (cond (Nat.ble i.2.2.1 100) (zcall i.2.2.1 i.2.2.2.1 i.2.2.2.2.1 i.2.2.2.2.2.1 j X ih L S h nc ns) none))))
def wl (FD : List (List Value)) (X : zX) (d : Nat) (code : List zI) (sw : List (List Nat)) : Nat → zN
  | 0, _, _, _, _, _, _ => none
  | n + 1, j, L, S, h, nc, ns => zq_n code j fun i => wrow FD X d sw i j (wl FD X d code sw n) L S h nc ns
def wx (FD : List (List Value)) (MT : List (List zM)) (F : Nat) : Nat → zX
  | 0, _, _, _ => none
  | d + 1, k, as, h => zq_n MT (k / 16) fun g => zq_n g (k % 16) fun t => zq_b (Nat.ble (zsz as) t.2.2) (wl FD (wx FD MT F d) d t.1 t.2.1 F 0 (zargs 0 as) [] h 0 0)
section WMo
variable {sc : List Int32} {d d' : Nat} {L : zL} {S : List Value} {h : List zO}
theorem bleF {a b : Nat} (h : Nat.ble a b = false) : b < a := by
  rcases Nat.lt_or_ge b a with q | q
  · exact q
  · rw [Nat.ble_eq_true_of_le q] at h
    cases h
theorem z1_sc {op x y z : Nat} (h42 : op ≠ 42) (h48 : op ≠ 48) : z1 [] d op x y z = z1 sc d op x y z := by
  unfold z1 z1c
  cases h37 : Nat.ble op 37 with
  | true => rfl
  | false =>
    cases h51 : Nat.ble op 51 with
    | false => rfl
    | true =>
      cases h41 : Nat.ble op 41 with
      | true => rfl
      | false =>
        have k41 := bleF h41
        cases h43 : Nat.ble op 43 with
        | true =>
          have k43 := Nat.le_of_ble_eq_true h43
          cases q : Nat.ble op 42 with
          | true =>
            have := Nat.le_of_ble_eq_true q
            omega
          | false => rfl
        | false =>
          cases h47 : Nat.ble op 47 with
          | true => rfl
          | false =>
            have k47 := bleF h47
            cases q : Nat.ble op 48 with
            | true =>
              have := Nat.le_of_ble_eq_true q
              omega
            | false => rfl
theorem w1_le {op x y z : Nat} (hd : d ≤ d') : zle (w1 d op x y z L S h) (z1 sc d' op x y z L S h) := by
  intro r hr
  unfold w1 at hr
  cases hb : zbad op S with
  | true => rw [hb] at hr; cases hr
  | false =>
    rw [hb] at hr
    have hr : z1 [] d op x y z L S h = some r := hr
    refine z1_le hd r ?_
    by_cases h42 : op = 42
    · subst h42
      have e : ∀ s, z1 s d 42 x y z L S h = zo_iald s L S h := fun _ => rfl
      rw [e] at hr ⊢
      unfold zo_iald zq_i at hr ⊢
      cases S with
      | nil => cases hr
      | cons v S =>
        cases v with
        | int i =>
          cases S with
          | nil => cases hr
          | cons v2 S2 =>
            cases v2 with
            | retAddr q => cases hb
            | ref a => exact hr
            | _ => cases hr
        | _ => cases hr
    · by_cases h48 : op = 48
      · subst h48
        have e : ∀ s, z1 s d 48 x y z L S h = zo_alen s L S h := fun _ => rfl
        rw [e] at hr ⊢
        unfold zo_alen at hr ⊢
        cases S with
        | nil => cases hr
        | cons v S =>
          cases v with
          | retAddr q => cases hb
          | ref a => exact hr
          | _ => cases hr
      · rw [← z1_sc h42 h48]
        exact hr
variable {FD : List (List Value)} {X X' : zX} {ih ih' : zN} {nc ns j : Nat} {sw : List (List Nat)}
theorem wrow_le {i : zI} (hd : d ≤ d') (hX : ∀ k as h, zle (X k as h) (X' k as h)) (hi : ∀ j L S h nc ns, zle (ih j L S h nc ns) (ih' j L S h nc ns)) : zle (wrow FD X d sw i j ih L S h nc ns) (zrow FD X' d' sc sw i j ih' L S h nc ns) := by
  unfold wrow zrow
  exact zle_c (zle_m (w1_le hd) fun _ => hi _ _ _ _ _ _) (zle_c (znew_le hi) (zle_c (zj_le hi) (zle_c zle_refl (zle_c (zcall_le hX hi) zle_refl))))
theorem wl_le {code : List zI} (hd : d ≤ d') (hX : ∀ k as h, zle (X k as h) (X' k as h)) : ∀ {n n' : Nat}, n ≤ n' → ∀ (j : Nat) (L : zL) (S : List Value) (h : List zO) (nc ns : Nat), zle (wl FD X d code sw n j L S h nc ns) (zl FD X' d' sc code sw n' j L S h nc ns)
  | 0, _, _, j, L, S, h, nc, ns => by
    intro r hr
    cases hr
  | n + 1, n', hn, j, L, S, h, nc, ns => by
    obtain ⟨n', rfl⟩ : ∃ k, n' = k + 1 := ⟨n' - 1, by omega⟩
    exact zle_n fun i => wrow_le hd hX (fun j L S h nc ns => wl_le hd hX (by omega) j L S h nc ns)
end WMo
theorem wx_le {FD : List (List Value)} {MT : List (List zM)} {sc : List Int32} {F F' : Nat} (hF : F ≤ F') : ∀ {d d' : Nat}, d ≤ d' → ∀ (k : Nat) (as : List Value) (h : List zO), zle (wx FD MT F d k as h) (zx FD MT sc F' d' k as h)
  | 0, _, _, k, as, h => by
    intro r hr
    cases hr
  | d + 1, d', hd, k, as, h => by
    obtain ⟨d', rfl⟩ : ∃ q, d' = q + 1 := ⟨d' - 1, by omega⟩
    exact zle_n fun g => zle_n fun t => zle_b (fun q => q) (wl_le (by omega) (fun k as h => wx_le hF (by omega) k as h) hF _ _ _ _ _ _)
/-- the numbers of a new object -/
def yI : yM := fun a i =>
  if a = 0 then (if i = 8 then 1 else if i = 9 then 800 else if i = 10 then 10 else 0)
  else if a = 1 then (if i = 0 then 5 else if i = 4 then 1 else 0)
  else if a = 2 then (if i = 0 then -1 else 0)
  else if a = 4 then (if i = 0 then 31 else if i = 1 then 2 else if i = 2 then 4 else if i = 3 then 8 else if i = 4 then 16 else 0)
  else if a = 6 then -1
  else if a = 21 then (if i = 2 then 512 else 0)
  else if a = 211 ∨ a = 321 then -1
  else 0
def yT : Nat → zO := fun _ => .inr (.inl [])
/-- is it a row of so many zeros -/
def wz (xs : List Int32) (n : Nat) : Bool := and (Nat.beq xs.length n) (xs.all fun x => Nat.beq x.toUInt32.toBitVec.toNat 0)
theorem wz_eq {n : Nat} {f : Nat → Int} (hf : ∀ i, f i = 0) {xs : List Int32} (h : wz xs n = true) : xs = yrow f n := by
  obtain ⟨h1, h2⟩ := ze_and h
  have h1 := Nat.eq_of_beq_eq_true h1
  refine List.ext_getElem? fun i => ?_
  by_cases hi : i < n
  · rw [yrow_get hi, hf, List.getElem?_eq_getElem (by omega)]
    have h3 := List.all_eq_true.mp h2 xs[i] (List.getElem_mem (by omega))
    have h4 := Nat.eq_of_beq_eq_true h3
    refine congrArg some ?_
    generalize xs[i] = x at h4 ⊢
    obtain ⟨⟨⟨⟨v, hv⟩⟩⟩⟩ := x
    have h5 : v = 0 := h4
    subst h5
    rfl
  · rw [List.getElem?_eq_none (by omega), List.getElem?_eq_none (by rw [yrow_len]; omega)]
def wr0 (F : Nat) : Option zR := wx zg_FD zg_MT F 8 0 [.ref 0] [.inl (9, [.null, .null, .null, .null, .null, .null, .null, .int 0, .int 0, .int 0, .int 0, .int 0])]
def wck0 (r : Option zR) : Bool := match r with
  | some (none, _, nc', ns') => and (Nat.beq nc' 415) (Nat.beq ns' 64185)
  | _ => false
theorem q_0 : wck0 (wr0 5000) = true := by decide +kernel
def wsm (g : Nat → Nat) : Nat → List Int32 → Bool
  | _, [] => true
  | i, x :: xs => and (Nat.beq x.toUInt32.toBitVec.toNat (g i)) (wsm g (i + 1) xs)
def wg (a i : Nat) : Nat :=
  cond (Nat.beq a 2) (cond (Nat.beq i 0) 4294967295 0)
  (cond (Nat.beq a 4) (cond (Nat.beq i 0) 31 (cond (Nat.beq i 1) 2 (cond (Nat.beq i 2) 4 (cond (Nat.beq i 3) 8 (cond (Nat.beq i 4) 16 0)))))
  (cond (or (Nat.beq a 6) (or (Nat.beq a 211) (Nat.beq a 321))) 4294967295 0))
def wtst : Nat → List zO → Bool
  | _, [] => true
  | a, o :: l => and (match o with
    | .inl (c, fs) => true
    | .inr (.inl xs) => cond (or (Nat.beq a 6) (or (Nat.beq a 211) (Nat.beq a 321))) (Nat.beq xs.length (yln a)) (wsm (wg a) 0 xs)
    | .inr (.inr (.inl _)) => false
    | .inr (.inr (.inr (t, xs))) => true) (wtst (a + 1) l)
def wck1 (r : Option zR) : Bool := match r with
  | some (none, H', _, _) => and (Nat.beq H'.length 416) (wtst 0 H')
  | _ => false
theorem q_1 : wck1 (wr0 5000) = true := by decide +kernel
def wtst2 : Nat → List zO → Bool
  | _, [] => true
  | a, o :: l => and (match o with
    | .inl (c, fs) => (match zfs a with
      | some (c', fs') => and (Nat.beq c c') (decide (fs = yfl yI 24 22 a fs'))
      | none => false)
    | .inr (.inl xs) => and (cond (Nat.beq a 22) true (zisN a)) (cond (or (Nat.beq a 6) (or (Nat.beq a 211) (Nat.beq a 321))) (wsm (wg a) 0 xs) (Nat.beq xs.length (cond (Nat.beq a 22) 512 (yln a))))
    | .inr (.inr (.inl _)) => false
    | .inr (.inr (.inr (t, xs))) => (match zqr a with
      | some (n, t', b, s) => and (Nat.beq t t') (decide (xs = yqs n b s))
      | none => false)) (wtst2 (a + 1) l)
def wck2 (r : Option zR) : Bool := match r with
  | some (none, H', _, _) => wtst2 0 H'
  | _ => false
theorem q_2 : wck2 (wr0 5000) = true := by decide +kernel
