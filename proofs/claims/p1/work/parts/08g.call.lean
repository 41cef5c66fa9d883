/-! how a frame goes on: inversions -/
theorem xp_eqb {a b : xv_V} {k : Bool → Option xv_R} {r : xv_R} (h : xc_eq a b k = some r) : ∃ t, k t = some r := by
  obtain ⟨-, h2⟩ := xe_cond h
  rcases xe_ite h2 with h3 | h3
  · exact ⟨_, h3⟩
  rcases xe_ite h3 with h4 | h4
  · exact ⟨_, h4⟩
  · obtain ⟨-, h5⟩ := xe_cond h4
    exact ⟨_, h5⟩
theorem xp_ltb {a b : xv_V} {k : Bool → Option xv_R} {r : xv_R} (h : xc_lt a b k = some r) : ∃ t, k t = some r := by
  obtain ⟨-, h2⟩ := xe_cond h
  rcases xe_ite h2 with h3 | h3
  · exact ⟨_, h3⟩
  · obtain ⟨-, h5⟩ := xe_cond h3
    exact ⟨_, h5⟩
theorem xp_opb {c : Nat} {a b : xv_V} {k : Bool → Option xv_R} {r : xv_R} (h : xc_op c a b k = some r) : ∃ t, k t = some r := by
  rcases xe_ite h with h1 | h1
  · obtain ⟨t, h2⟩ := xp_eqb h1
    exact ⟨_, h2⟩
  rcases xe_ite h1 with h3 | h3
  · obtain ⟨t, h2⟩ := xp_ltb h3
    exact ⟨_, h2⟩
  · obtain ⟨t, h2⟩ := xp_ltb h3
    exact ⟨_, h2⟩
theorem xp_refb {a b : xv_V} {k : Bool → Option xv_R} {r : xv_R} (h : xc_ref a b k = some r) : ∃ t, k t = some r := by
  obtain ⟨-, h2⟩ := xe_cond h
  obtain ⟨-, h3⟩ := xe_condN h2
  exact ⟨_, h3⟩
theorem xp_nullb {a : xv_V} {k : Bool → Option xv_R} {r : xv_R} (h : xc_null a k = some r) : ∃ t, k t = some r := by
  obtain ⟨-, h2⟩ := xe_cond h
  exact ⟨_, h2⟩
theorem xp_swb {w : List Nat} {a : xv_V} {k : Nat → Option xv_R} {r : xv_R} (h : xj_sw w a k = some r) : ∃ t, k t = some r := by
  obtain ⟨_, -, h1⟩ := xe_nth h
  obtain ⟨_, -, h2⟩ := xe_nth h1
  obtain ⟨-, h3⟩ := xe_cond h2
  rcases xe_ite h3 with h4 | h4
  · exact ⟨_, h4⟩
  rcases xe_ite h4 with h5 | h5
  · exact ⟨_, h5⟩
  · obtain ⟨-, h6⟩ := xe_cond h5
    obtain ⟨_, -, h7⟩ := xe_nth h6
    exact ⟨_, h7⟩
theorem xp_j {c x : Nat} {code rest : List xv_I} {ih : List xv_I → xk_N} {L : xv_L} {S : List xv_V} {h : List xv_O} {nc ns : Nat} {r : xv_R} (hf : xj c x code rest ih L S h nc ns = some r) : ∃ is S', ih is L S' h nc ns = some r := by
  rcases xe_ite hf with h1 | h1
  · obtain ⟨_, _, -, h2⟩ := xe_pop h1
    obtain ⟨t, h3⟩ := xp_opb h2
    exact ⟨_, _, h3⟩
  rcases xe_ite h1 with h1 | h1
  · obtain ⟨_, _, -, h2⟩ := xe_pop h1
    obtain ⟨_, _, -, h3⟩ := xe_pop h2
    obtain ⟨t, h4⟩ := xp_opb h3
    exact ⟨_, _, h4⟩
  rcases xe_ite h1 with h1 | h1
  · obtain ⟨_, _, -, h2⟩ := xe_pop h1
    obtain ⟨_, _, -, h3⟩ := xe_pop h2
    obtain ⟨t, h4⟩ := xp_refb h3
    exact ⟨_, _, h4⟩
  rcases xe_ite h1 with h1 | h1
  · obtain ⟨_, _, -, h2⟩ := xe_pop h1
    obtain ⟨t, h3⟩ := xp_nullb h2
    exact ⟨_, _, h3⟩
  · exact ⟨_, _, h1⟩
theorem xp_hand {ex : List (Nat × Nat × Nat × Nat)} {pc E : Nat} {k : Option Nat → Option xv_R} {r : xv_R} (h : xq_hand ex pc E k = some r) : ∃ o, k o = some r := by
  induction ex with
  | nil => exact ⟨_, h⟩
  | cons a ex ih =>
    have h' : cond (and (Nat.ble a.1 pc) (Nat.ble (Nat.succ pc) a.2.1)) (cond (Nat.beq a.2.2.2 E) (k (some a.2.2.1)) (xq_hand ex pc E k)) (xq_hand ex pc E k) = some r := h
    rcases xe_ite h' with h1 | h1
    · rcases xe_ite h1 with h2 | h2
      · exact ⟨_, h2⟩
      · exact ih h2
    · exact ih h1
/-- behind a call: what the executor does -/
theorem xe_xa {R : xv_R} {pc : Nat} {code rest : List xv_I} {ex : List (Nat × Nat × Nat × Nat)} {ih : List xv_I → xk_N} {L : xv_L} {S : List xv_V} {nc ns : Nat} {r : xv_R} (h : xa R pc code rest ex ih L S nc ns = some r) :
    (R.1 = 0 ∧ ih rest L S R.2.2.1 (nc + R.2.2.2.1) (ns + R.2.2.2.2) = some r) ∨ (R.1 = 1 ∧ ih rest L (R.2.1 :: S) R.2.2.1 (nc + R.2.2.2.1) (ns + R.2.2.2.2) = some r) ∨
    (2 ≤ R.1 ∧ xq_hand ex pc (R.1 - 2) (fun o => Option.rec (motive := fun _ => Option xv_R) (some (R.1, (2, 0, 0), R.2.2.1, nc + R.2.2.2.1, ns + R.2.2.2.2)) (fun t => ih (xq_drop t code) L [(8, 0, 0)] R.2.2.1 (nc + R.2.2.2.1) (ns + R.2.2.2.2)) o) = some r) := by
  unfold xa at h
  cases h0 : Nat.beq R.1 0 with
  | true => rw [h0] at h; exact Or.inl ⟨xe_beq h0, h⟩
  | false =>
    rw [h0] at h
    have h' : cond (Nat.beq R.1 1) (ih rest L (R.2.1 :: S) R.2.2.1 (nc + R.2.2.2.1) (ns + R.2.2.2.2)) (xq_hand ex pc (R.1 - 2) fun o => Option.rec (motive := fun _ => Option xv_R) (some (R.1, (2, 0, 0), R.2.2.1, nc + R.2.2.2.1, ns + R.2.2.2.2)) (fun t => ih (xq_drop t code) L [(8, 0, 0)] R.2.2.1 (nc + R.2.2.2.1) (ns + R.2.2.2.2)) o) = some r := h
    cases h1 : Nat.beq R.1 1 with
    | true => rw [h1] at h'; exact Or.inr (Or.inl ⟨xe_beq h1, h'⟩)
    | false =>
      rw [h1] at h'
      have n0 := xe_bne h0
      have n1 := xe_bne h1
      exact Or.inr (Or.inr ⟨by omega, h'⟩)
theorem xp_a {R : xv_R} {pc : Nat} {code rest : List xv_I} {ex : List (Nat × Nat × Nat × Nat)} {ih : List xv_I → xk_N} {L : xv_L} {S : List xv_V} {nc ns : Nat} {r : xv_R} (h : xa R pc code rest ex ih L S nc ns = some r) :
    (∃ is L' S' h', ih is L' S' h' (nc + R.2.2.2.1) (ns + R.2.2.2.2) = some r) ∨ r = (R.1, (2, 0, 0), R.2.2.1, nc + R.2.2.2.1, ns + R.2.2.2.2) := by
  rcases xe_xa h with ⟨-, h1⟩ | ⟨-, h1⟩ | ⟨-, h1⟩
  · exact Or.inl ⟨_, _, _, _, h1⟩
  · exact Or.inl ⟨_, _, _, _, h1⟩
  · obtain ⟨o, h2⟩ := xp_hand h1
    cases o with
    | none => exact Or.inr (Option.some.inj h2).symm
    | some t => exact Or.inl ⟨_, _, _, _, h2⟩
theorem xe_opt {β : Type} {o : Option β} {k : β → Option xv_R} {r : xv_R} (h : xq_opt o k = some r) : ∃ a, o = some a ∧ k a = some r := by
  cases o with
  | none => cases h
  | some a => exact ⟨a, rfl, h⟩
theorem xp_r {op z : Nat} {S : List xv_V} {h : List xv_O} {nc ns : Nat} {r : xv_R} (hf : xr op z S h nc ns = some r) : r.2.2.2.1 = nc ∧ r.2.2.2.2 = ns := by
  have hg : ∀ {v : xv_V} {ok : Bool}, xr_get v ok h nc ns = some r → r.2.2.2.1 = nc ∧ r.2.2.2.2 = ns := by
    intro v ok hh
    obtain ⟨-, h2⟩ := xe_cond hh
    cases h2; exact ⟨rfl, rfl⟩
  rcases xe_ite hf with h1 | h1
  · obtain ⟨-, h2⟩ := xe_cond h1
    cases h2; exact ⟨rfl, rfl⟩
  · obtain ⟨_, _, -, h2⟩ := xe_pop h1
    obtain ⟨-, h3⟩ := xe_cond h2
    rcases xe_ite h3 with h4 | h4
    · exact hg h4
    rcases xe_ite h4 with h5 | h5
    · exact hg h5
    rcases xe_ite h5 with h6 | h6
    · exact hg h6
    · exact hg h6
/-- an instruction beyond 52 -/
noncomputable def xl_far (FD : List (List xv_V)) (E9 : xv_L) (X : xk_X) (d : Nat) (sc : List xv_V) (code : List xv_I) (sw : List (List Nat)) (ex : List (Nat × Nat × Nat × Nat)) (n pc op x y z : Nat) (r : List xv_I) (L : xv_L) (S : List xv_V) (h : List xv_O) (nc ns : Nat) : Option xv_R :=
  (cond (Nat.ble op 58)
    (cond (Nat.ble op 56) (xq_nth FD x fun fs => xl FD E9 X d sc code sw ex n r L ((1, xq_len h, 0) :: S) (xq_app h [(0, x, fs)]) (nc + 1) (ns + xq_len fs))
      (xq_pop S fun v S => xq_one v fun m => cond (and (Nat.ble xq_B m) (Nat.ble m 2147549184)) (xl FD E9 X d sc code sw ex n r L ((1, xq_len h, 0) :: S) (xq_app h [(1, x, xq_rep (m - xq_B) (cond (Nat.beq x 0) (0, xq_B, xq_B) (cond (Nat.beq x 5) (3, xq_BL, 0) (2, 0, 0))))]) (nc + 1) (ns + (m - xq_B))) none))
  (cond (Nat.ble op 80) (xj op x code r (fun is => xl FD E9 X d sc code sw ex n is) L S h nc ns)
  (cond (Nat.ble op 81) (xq_pop S fun a S => xq_nth sw x fun w => xj_sw w a fun t => xl FD E9 X d sc code sw ex n (xq_drop t code) L S h nc ns)
  (cond (Nat.ble op 88) (xr op z S h nc ns)
  (cond (Nat.ble op 89) (cond (and (xq_eqL L E9) (Nat.beq (xq_len S) 0)) (some (9, (2, 0, 0), h, nc, ns)) none)
  (cond (Nat.ble op 91) (cond (and (Nat.ble 6 d) (Nat.ble (xq_len S) 4)) (some (2 + x, (2, 0, 0), h, nc + 1, ns + 6)) none)
  (cond (Nat.ble op 101) (xq_take y S [] fun as S => cond (Nat.ble op 97) (cond (Nat.ble (xq_len S) 4) (xq_opt (X x as h) fun R => xa R pc code r ex (fun is => xl FD E9 X d sc code sw ex n is) L S nc ns) none)
      (xq_pop S fun o S => xq_obj h o fun t c _ => cond (and (Nat.beq t 0) (and (or (Nat.ble op 99) (Nat.beq c z)) (Nat.ble (xq_len S) 4))) (xq_opt (X x (o :: as) h) fun R => xa R pc code r ex (fun is => xl FD E9 X d sc code sw ex n is) L S nc ns) none)) none)))))))
theorem xl_near {FD : List (List xv_V)} {E9 : xv_L} {X : xk_X} {d : Nat} {sc : List xv_V} {code : List xv_I} {sw : List (List Nat)} {ex : List (Nat × Nat × Nat × Nat)} {n pc ln op x y z w : Nat} {rest : List xv_I} {L : xv_L} {S : List xv_V} {h : List xv_O} {nc ns : Nat} {r : xv_R} (hf : xl FD E9 X d sc code sw ex (n + 1) ((pc, ln, op, x, y, z, w) :: rest) L S h nc ns = some r) :
    (op ≤ 52 ∧ xs d op x y z sc L S h (fun L S h => xl FD E9 X d sc code sw ex n rest L S h nc ns) = some r) ∨ (52 < op ∧ xl_far FD E9 X d sc code sw ex n pc op x y z rest L S h nc ns = some r) := by
  have hf' : cond (Nat.ble op 52) (xs d op x y z sc L S h (fun L S h => xl FD E9 X d sc code sw ex n rest L S h nc ns)) (xl_far FD E9 X d sc code sw ex n pc op x y z rest L S h nc ns) = some r := hf
  cases hb : Nat.ble op 52 with
  | true => rw [hb] at hf'; exact Or.inl ⟨xe_ble hb, hf'⟩
  | false => rw [hb] at hf'; exact Or.inr ⟨xe_nble hb, hf'⟩
/-- the counts grow -/
theorem xl_mono {FD : List (List xv_V)} {E9 : xv_L} {X : xk_X} {d : Nat} {sc : List xv_V} {code : List xv_I} {sw : List (List Nat)} {ex : List (Nat × Nat × Nat × Nat)} : ∀ (n : Nat) {is : List xv_I} {L : xv_L} {S : List xv_V} {h : List xv_O} {nc ns : Nat} {r : xv_R}, xl FD E9 X d sc code sw ex n is L S h nc ns = some r → nc ≤ r.2.2.2.1 ∧ ns ≤ r.2.2.2.2
  | 0, _, _, _, _, _, _, _, hf => nomatch hf
  | n + 1, [], _, _, _, _, _, _, hf => nomatch hf
  | n + 1, (pc, ln, op, x, y, z, w) :: rest, L, S, h, nc, ns, r, hf => by
    have ih := @xl_mono FD E9 X d sc code sw ex n
    rcases xl_near hf with ⟨hop, h1⟩ | ⟨-, h1⟩
    · obtain ⟨_, _, _, hk⟩ := xp_all hop L S h _ r h1
      exact ih hk
    rcases xe_ite h1 with h1 | h1
    · rcases xe_ite h1 with h2 | h2
      · obtain ⟨fs, -, hk⟩ := xe_nth h2
        have := ih hk
        omega
      · obtain ⟨_, _, -, h3⟩ := xe_pop h2
        obtain ⟨_, -, h4⟩ := xe_one h3
        obtain ⟨-, h5⟩ := xe_cond h4
        have := ih h5
        omega
    rcases xe_ite h1 with h1 | h1
    · obtain ⟨_, _, hk⟩ := xp_j h1
      exact ih hk
    rcases xe_ite h1 with h1 | h1
    · obtain ⟨_, _, -, h2⟩ := xe_pop h1
      obtain ⟨_, -, h3⟩ := xe_nth h2
      obtain ⟨_, h4⟩ := xp_swb h3
      exact ih h4
    rcases xe_ite h1 with h1 | h1
    · have := xp_r h1
      omega
    rcases xe_ite h1 with h1 | h1
    · obtain ⟨-, h2⟩ := xe_cond h1
      cases h2
      exact ⟨Nat.le_refl _, Nat.le_refl _⟩
    rcases xe_ite h1 with h1 | h1
    · obtain ⟨-, h2⟩ := xe_cond h1
      cases h2
      exact ⟨Nat.le_succ _, Nat.le_add_right _ _⟩
    obtain ⟨-, h2⟩ := xe_cond h1
    obtain ⟨as, S', -, -, h3⟩ := xe_take _ h2
    have hx : ∀ {R0 : xv_R} {S2 : List xv_V}, xa R0 pc code rest ex (fun is => xl FD E9 X d sc code sw ex n is) L S2 nc ns = some r → nc ≤ r.2.2.2.1 ∧ ns ≤ r.2.2.2.2 := by
      intro R0 S2 h4
      rcases xp_a h4 with ⟨_, _, _, _, h5⟩ | h5
      · have := ih h5
        omega
      · rw [h5]; exact ⟨Nat.le_add_right _ _, Nat.le_add_right _ _⟩
    rcases xe_ite h3 with h4 | h4
    · obtain ⟨-, h5⟩ := xe_cond h4
      obtain ⟨R0, -, h6⟩ := xe_opt h5
      exact hx h6
    · obtain ⟨_, _, -, h5⟩ := xe_pop h4
      obtain ⟨-, _, _, _, -, h6⟩ := xe_obj h5
      obtain ⟨-, h7⟩ := xe_cond h6
      obtain ⟨R0, -, h8⟩ := xe_opt h7
      exact hx h8
