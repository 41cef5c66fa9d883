/-! the law: the executor up to its loop, and from there -/
def xv_code1 : List xv_I := [(0, 3, 56, 15, 0, 0, 8), (3, 1, 34, 0, 0, 0, 0), (4, 3, 98, 0, 0, 15, 90), (7, 1, 16, 1, 0, 0, 0), (8, 3, 56, 25, 0, 0, 91), (11, 1, 34, 0, 0, 0, 0), (12, 3, 98, 101, 0, 25, 93), (15, 1, 16, 2, 0, 0, 0), (16, 1, 0, 2147483649, 0, 0, 0), (17, 2, 57, 5, 0, 0, 0), (19, 1, 16, 3, 0, 0, 0), (20, 1, 0, 2147483648, 0, 0, 0), (21, 2, 15, 4, 0, 0, 0), (23, 2, 89, 0, 0, 0, 0)]
def xv_E9 : xv_L := [(4, (0, 2147483648, 2147483648)), (3, (1, 429, 0)), (2, (1, 416, 0)), (1, (1, 0, 0)), (0, (7, 0, 0))]
noncomputable def xv_p1 : Option xv_R := xl xg_FD xv_E9 (xx xg_FD xg_MT [] 40) 40 [] xv_code1 [] [] 1000000 xv_code1 [(0, (7, 0, 0))] [] [] 0 0
noncomputable def xv_p2 (sc : List xv_V) (h : List xv_O) (nc ns : Nat) : Option xv_R := xl xg_FD [] (xx xg_FD xg_MT sc 40) 40 sc xg_c183 xg_w183 [] 1000000 (xq_drop 13 xg_c183) xv_E9 [] h nc ns
noncomputable def xv_fin (o : Option xv_R) : Bool := Option.rec (motive := fun _ => Bool) false (fun r => and (Nat.beq r.1 1) (and (Nat.beq r.2.1.1 0) (and (Nat.beq r.2.1.2.1 2147483649) (and (Nat.beq r.2.1.2.2 2147483649) (and (Nat.ble r.2.2.2.1 600000) (Nat.ble r.2.2.2.2 7300000)))))) o
noncomputable def xv_run (f : List xv_O → Nat → Nat → Bool) : Bool := Option.rec (motive := fun _ => Bool) false (fun r => and (Nat.beq r.1 9) (and (Nat.ble r.2.2.2.1 600000) (and (Nat.ble r.2.2.2.2 7300000) (f r.2.2.1 r.2.2.2.1 r.2.2.2.2)))) xv_p1
theorem xv_finOf {o : Option xv_R} (h : xv_fin o = true) : ∃ (r : xv_R), o = some r ∧ r.1 = 1 ∧ r.2.1 = (0, 2147483649, 2147483649) ∧ r.2.2.2.1 ≤ 600000 ∧ r.2.2.2.2 ≤ 7300000 := by
  cases o with
  | none => cases h
  | some r =>
    obtain ⟨r1, ⟨t, a, b⟩, hh, nc, ns⟩ := r
    have h : and (Nat.beq r1 1) (and (Nat.beq t 0) (and (Nat.beq a 2147483649) (and (Nat.beq b 2147483649) (and (Nat.ble nc 600000) (Nat.ble ns 7300000))))) = true := h
    obtain ⟨h1, h⟩ := xe_and h
    obtain ⟨h2, h⟩ := xe_and h
    obtain ⟨h3, h⟩ := xe_and h
    obtain ⟨h4, h⟩ := xe_and h
    obtain ⟨h5, h6⟩ := xe_and h
    have h2 := xe_beq h2
    have h3 := xe_beq h3
    have h4 := xe_beq h4
    subst h2; subst h3; subst h4
    exact ⟨_, rfl, xe_beq h1, rfl, xe_ble h5, xe_ble h6⟩
theorem xv_runOf {f : List xv_O → Nat → Nat → Bool} (h : xv_run f = true) : ∃ (r : xv_R), xv_p1 = some r ∧ r.1 = 9 ∧ r.2.2.2.1 ≤ 600000 ∧ r.2.2.2.2 ≤ 7300000 ∧ f r.2.2.1 r.2.2.2.1 r.2.2.2.2 = true := by
  unfold xv_run at h
  cases ho : xv_p1 with
  | none => rw [ho] at h; cases h
  | some r =>
    rw [ho] at h
    obtain ⟨h1, h⟩ := xe_and (a := Nat.beq r.1 9) h
    obtain ⟨h2, h⟩ := xe_and (a := Nat.ble r.2.2.2.1 600000) h
    obtain ⟨h3, h4⟩ := xe_and (a := Nat.ble r.2.2.2.2 7300000) h
    exact ⟨r, rfl, xe_beq h1, xe_ble h2, xe_ble h3, h4⟩
abbrev xv_En : Type := Nat × xv_V × List Nat × List Nat × List Nat
noncomputable def xv_parts (cs : List Nat) (lo : Nat) : List xv_V := List.rec (motive := fun _ => Nat → List xv_V) (fun lo => [(0, lo, 4294967295)]) (fun c _ ih lo => (0, lo, c - 1) :: ih c) cs lo
noncomputable def xv_ent (h : List xv_O) (nc ns : Nat) (t : xv_En) : Bool := (xv_parts t.2.2.1 0).all fun q2 => (xv_parts t.2.2.2.1 0).all fun q3 => (xv_parts t.2.2.2.2 0).all fun q4 => xv_fin (xv_p2 [(0, 2147483653, 2147483653), (5, t.1, 0), t.2.1, q2, q3, q4] h nc ns)
noncomputable def xv_short (h : List xv_O) (nc ns : Nat) (n : Nat) : Bool := xv_fin (xv_p2 [(0, n + 2147483648, n + 2147483648)] h nc ns)
