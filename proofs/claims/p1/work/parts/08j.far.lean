/-! a frame by the executor: the instructions beyond 52 -/
section XO
variable {p : Program} {l : Launch} {e : Env} {R : Room} {s : State} {m : MethodId} {args : Array Value} {below : List Frame} {meth : Method} {c : Code} {Q : State → Prop} {cc : ByteArray} {nL : Nat} {own : String} {ini : Bool} {A : Nat → Prop} {E : xm_E} {D : va_G} {W0 : va_W} {d : Nat} {sc : List xv_V}
variable {code : List xv_I} {sw : List (List Nat)} {ex : List (Nat × Nat × Nat × Nat)} {r : xv_R}
theorem xo_56 {E9 : xv_L} {X : xk_X} {n j pc ln  x y z w : Nat} {rest : List xv_I} {L : xv_L} {S : List xv_V} {h : List xv_O} {nc ns : Nat} (C : xf_C p R s m args meth c cc nL own ini A E d sc) (hF : xf_F s) (hX : ∀ (k : Nat) (as : List xv_V) (h : List xv_O) (R0 : xv_R), X k as h = some R0 → ∃ d', d = d' + 1 ∧ xw_M l E D A sc d' k as h R0)
    (hT : xh_T own code ex c r) (hO : xh_out p l e R s m args below meth c Q own A E D W0 r)
    (hret : ∀ (j pc ln op x y z w : Nat), code[j]? = some (pc, ln, op, x, y, z, w) → 84 ≤ op → op ≤ 88 → ∀ (L : xv_L) (S : List xv_V) (h : List xv_O) (nc ns : Nat), xr op z S h nc ns = some r → xf_G p l e R s m args below meth c Q nL A E D W0 pc L S h nc ns)
    (hnew : ∀ (j pc ln op x y z w : Nat), code[j]? = some (pc, ln, op, x, y, z, w) → (op = 90 ∨ op = 91) → 6 ≤ d → ∀ (L : xv_L) (S : List xv_V) (h : List xv_O) (nc ns : Nat), S.length ≤ 4 → r = (2 + x, (2, 0, 0), h, nc + 1, ns + 6) → xf_G p l e R s m args below meth c Q nL A E D W0 pc L S h nc ns)
    (hi : code[j]? = some (pc, ln, 56, x, y, z, w)) (hdec : decode cc pc = .ok (xe_ins code sw (pc, ln, 56, x, y, z, w), ln)) (hcnd : xe_cnd nL ini sw (pc, ln, 56, x, y, z, w) = true) (hsite : xi_need 56 = true → xi_site own (56, x, y, z, w))
    (hm : ∀ {is : List xv_I} {L : xv_L} {S : List xv_V} {h : List xv_O} {nc ns : Nat}, xl xg_FD E9 X d sc code sw ex n is L S h nc ns = some r → nc ≤ r.2.2.2.1 ∧ ns ≤ r.2.2.2.2)
    (hnext : xh_go p l e R s m args below meth c Q nL A E D W0 (fun is => xl xg_FD E9 X d sc code sw ex n is) rest (pc + ln) r) (hjump : ∀ t, xh_go p l e R s m args below meth c Q nL A E D W0 (fun is => xl xg_FD E9 X d sc code sw ex n is) (xq_drop t code) (xe_pc (code.drop t)) r)
    (h1 : xl_far xg_FD E9 X d sc code sw ex n pc 56 x y z rest L S h nc ns = some r) (hc : r.2.2.2.1 ≤ R.cells) (hs : r.2.2.2.2 ≤ R.slots) : xf_G p l e R s m args below meth c Q nL A E D W0 pc L S h nc ns := by
  have hln : ln = 3 := xe_lnOf hcnd rfl; subst hln
  have h2 : xq_nth xg_FD x (fun fs => xl xg_FD E9 X d sc code sw ex n rest L ((1, xq_len h, 0) :: S) (xq_app h [(0, x, fs)]) (nc + 1) (ns + xq_len fs)) = some r := h1
  obtain ⟨fs, hfs, hk⟩ := xe_nth h2
  rw [xq_len_eq, xq_len_eq, xq_app_eq] at hk
  have hb := hm hk
  exact xn_new C (hsite rfl) hdec hfs (by omega) (by omega) (hnext _ _ _ _ _ hk)
theorem xo_57 {E9 : xv_L} {X : xk_X} {n j pc ln  x y z w : Nat} {rest : List xv_I} {L : xv_L} {S : List xv_V} {h : List xv_O} {nc ns : Nat} (C : xf_C p R s m args meth c cc nL own ini A E d sc) (hF : xf_F s) (hX : ∀ (k : Nat) (as : List xv_V) (h : List xv_O) (R0 : xv_R), X k as h = some R0 → ∃ d', d = d' + 1 ∧ xw_M l E D A sc d' k as h R0)
    (hT : xh_T own code ex c r) (hO : xh_out p l e R s m args below meth c Q own A E D W0 r)
    (hret : ∀ (j pc ln op x y z w : Nat), code[j]? = some (pc, ln, op, x, y, z, w) → 84 ≤ op → op ≤ 88 → ∀ (L : xv_L) (S : List xv_V) (h : List xv_O) (nc ns : Nat), xr op z S h nc ns = some r → xf_G p l e R s m args below meth c Q nL A E D W0 pc L S h nc ns)
    (hnew : ∀ (j pc ln op x y z w : Nat), code[j]? = some (pc, ln, op, x, y, z, w) → (op = 90 ∨ op = 91) → 6 ≤ d → ∀ (L : xv_L) (S : List xv_V) (h : List xv_O) (nc ns : Nat), S.length ≤ 4 → r = (2 + x, (2, 0, 0), h, nc + 1, ns + 6) → xf_G p l e R s m args below meth c Q nL A E D W0 pc L S h nc ns)
    (hi : code[j]? = some (pc, ln, 57, x, y, z, w)) (hdec : decode cc pc = .ok (xe_ins code sw (pc, ln, 57, x, y, z, w), ln)) (hcnd : xe_cnd nL ini sw (pc, ln, 57, x, y, z, w) = true) (hsite : xi_need 57 = true → xi_site own (57, x, y, z, w))
    (hm : ∀ {is : List xv_I} {L : xv_L} {S : List xv_V} {h : List xv_O} {nc ns : Nat}, xl xg_FD E9 X d sc code sw ex n is L S h nc ns = some r → nc ≤ r.2.2.2.1 ∧ ns ≤ r.2.2.2.2)
    (hnext : xh_go p l e R s m args below meth c Q nL A E D W0 (fun is => xl xg_FD E9 X d sc code sw ex n is) rest (pc + ln) r) (hjump : ∀ t, xh_go p l e R s m args below meth c Q nL A E D W0 (fun is => xl xg_FD E9 X d sc code sw ex n is) (xq_drop t code) (xe_pc (code.drop t)) r)
    (h1 : xl_far xg_FD E9 X d sc code sw ex n pc 57 x y z rest L S h nc ns = some r) (hc : r.2.2.2.1 ≤ R.cells) (hs : r.2.2.2.2 ≤ R.slots) : xf_G p l e R s m args below meth c Q nL A E D W0 pc L S h nc ns := by
  have hln : ln = 2 := xe_lnOf hcnd rfl; subst hln
  have h2 : (xq_pop S fun v S => xq_one v fun m => cond (and (Nat.ble xq_B m) (Nat.ble m 2147549184)) (xl xg_FD E9 X d sc code sw ex n rest L ((1, xq_len h, 0) :: S) (xq_app h [(1, x, xq_rep (m - xq_B) (cond (Nat.beq x 0) (0, xq_B, xq_B) (cond (Nat.beq x 5) (3, xq_BL, 0) (2, 0, 0))))]) (nc + 1) (ns + (m - xq_B))) none) = some r := h1
  obtain ⟨v, S1, rfl, h3⟩ := xe_pop h2
  obtain ⟨q, rfl, h4⟩ := xe_one h3
  obtain ⟨h5, hk⟩ := xe_cond h4
  obtain ⟨g1, g2⟩ := xe_and h5
  rw [xq_len_eq, xq_app_eq, xq_rep_eq] at hk
  have hb := hm hk
  exact xn_newa C (hsite rfl) hdec (xe_ble g1) (xe_ble g2) (by omega) (by omega) (hnext _ _ _ _ _ hk)
theorem xo_58 {E9 : xv_L} {X : xk_X} {n j pc ln  x y z w : Nat} {rest : List xv_I} {L : xv_L} {S : List xv_V} {h : List xv_O} {nc ns : Nat} (C : xf_C p R s m args meth c cc nL own ini A E d sc) (hF : xf_F s) (hX : ∀ (k : Nat) (as : List xv_V) (h : List xv_O) (R0 : xv_R), X k as h = some R0 → ∃ d', d = d' + 1 ∧ xw_M l E D A sc d' k as h R0)
    (hT : xh_T own code ex c r) (hO : xh_out p l e R s m args below meth c Q own A E D W0 r)
    (hret : ∀ (j pc ln op x y z w : Nat), code[j]? = some (pc, ln, op, x, y, z, w) → 84 ≤ op → op ≤ 88 → ∀ (L : xv_L) (S : List xv_V) (h : List xv_O) (nc ns : Nat), xr op z S h nc ns = some r → xf_G p l e R s m args below meth c Q nL A E D W0 pc L S h nc ns)
    (hnew : ∀ (j pc ln op x y z w : Nat), code[j]? = some (pc, ln, op, x, y, z, w) → (op = 90 ∨ op = 91) → 6 ≤ d → ∀ (L : xv_L) (S : List xv_V) (h : List xv_O) (nc ns : Nat), S.length ≤ 4 → r = (2 + x, (2, 0, 0), h, nc + 1, ns + 6) → xf_G p l e R s m args below meth c Q nL A E D W0 pc L S h nc ns)
    (hi : code[j]? = some (pc, ln, 58, x, y, z, w)) (hdec : decode cc pc = .ok (xe_ins code sw (pc, ln, 58, x, y, z, w), ln)) (hcnd : xe_cnd nL ini sw (pc, ln, 58, x, y, z, w) = true) (hsite : xi_need 58 = true → xi_site own (58, x, y, z, w))
    (hm : ∀ {is : List xv_I} {L : xv_L} {S : List xv_V} {h : List xv_O} {nc ns : Nat}, xl xg_FD E9 X d sc code sw ex n is L S h nc ns = some r → nc ≤ r.2.2.2.1 ∧ ns ≤ r.2.2.2.2)
    (hnext : xh_go p l e R s m args below meth c Q nL A E D W0 (fun is => xl xg_FD E9 X d sc code sw ex n is) rest (pc + ln) r) (hjump : ∀ t, xh_go p l e R s m args below meth c Q nL A E D W0 (fun is => xl xg_FD E9 X d sc code sw ex n is) (xq_drop t code) (xe_pc (code.drop t)) r)
    (h1 : xl_far xg_FD E9 X d sc code sw ex n pc 58 x y z rest L S h nc ns = some r) (hc : r.2.2.2.1 ≤ R.cells) (hs : r.2.2.2.2 ≤ R.slots) : xf_G p l e R s m args below meth c Q nL A E D W0 pc L S h nc ns := by
  have hln : ln = 3 := xe_lnOf hcnd rfl; subst hln
  have h2 : (xq_pop S fun v S => xq_one v fun m => cond (and (Nat.ble xq_B m) (Nat.ble m 2147549184)) (xl xg_FD E9 X d sc code sw ex n rest L ((1, xq_len h, 0) :: S) (xq_app h [(1, x, xq_rep (m - xq_B) (cond (Nat.beq x 0) (0, xq_B, xq_B) (cond (Nat.beq x 5) (3, xq_BL, 0) (2, 0, 0))))]) (nc + 1) (ns + (m - xq_B))) none) = some r := h1
  obtain ⟨v, S1, rfl, h3⟩ := xe_pop h2
  obtain ⟨q, rfl, h4⟩ := xe_one h3
  obtain ⟨h5, hk⟩ := xe_cond h4
  obtain ⟨g1, g2⟩ := xe_and h5
  rw [xq_len_eq, xq_app_eq, xq_rep_eq] at hk
  have hb := hm hk
  have hw : xs_nwq own w x := hsite rfl
  have ex0 : cond (Nat.beq x 0) ((0, xq_B, xq_B) : xv_V) (cond (Nat.beq x 5) (3, xq_BL, 0) (2, 0, 0)) = (2, 0, 0) := by
    obtain ⟨x1, x2, -⟩ := hw
    rcases (show x = 1 ∨ x = 2 ∨ x = 3 ∨ x = 4 by omega) with rfl | rfl | rfl | rfl <;> rfl
  rw [ex0] at hk
  exact xn_newq C hw hdec (xe_ble g1) (xe_ble g2) (by omega) (by omega) (hnext _ _ _ _ _ hk)
theorem xo_64 {E9 : xv_L} {X : xk_X} {n j pc ln  x y z w : Nat} {rest : List xv_I} {L : xv_L} {S : List xv_V} {h : List xv_O} {nc ns : Nat} (C : xf_C p R s m args meth c cc nL own ini A E d sc) (hF : xf_F s) (hX : ∀ (k : Nat) (as : List xv_V) (h : List xv_O) (R0 : xv_R), X k as h = some R0 → ∃ d', d = d' + 1 ∧ xw_M l E D A sc d' k as h R0)
    (hT : xh_T own code ex c r) (hO : xh_out p l e R s m args below meth c Q own A E D W0 r)
    (hret : ∀ (j pc ln op x y z w : Nat), code[j]? = some (pc, ln, op, x, y, z, w) → 84 ≤ op → op ≤ 88 → ∀ (L : xv_L) (S : List xv_V) (h : List xv_O) (nc ns : Nat), xr op z S h nc ns = some r → xf_G p l e R s m args below meth c Q nL A E D W0 pc L S h nc ns)
    (hnew : ∀ (j pc ln op x y z w : Nat), code[j]? = some (pc, ln, op, x, y, z, w) → (op = 90 ∨ op = 91) → 6 ≤ d → ∀ (L : xv_L) (S : List xv_V) (h : List xv_O) (nc ns : Nat), S.length ≤ 4 → r = (2 + x, (2, 0, 0), h, nc + 1, ns + 6) → xf_G p l e R s m args below meth c Q nL A E D W0 pc L S h nc ns)
    (hi : code[j]? = some (pc, ln, 64, x, y, z, w)) (hdec : decode cc pc = .ok (xe_ins code sw (pc, ln, 64, x, y, z, w), ln)) (hcnd : xe_cnd nL ini sw (pc, ln, 64, x, y, z, w) = true) (hsite : xi_need 64 = true → xi_site own (64, x, y, z, w))
    (hm : ∀ {is : List xv_I} {L : xv_L} {S : List xv_V} {h : List xv_O} {nc ns : Nat}, xl xg_FD E9 X d sc code sw ex n is L S h nc ns = some r → nc ≤ r.2.2.2.1 ∧ ns ≤ r.2.2.2.2)
    (hnext : xh_go p l e R s m args below meth c Q nL A E D W0 (fun is => xl xg_FD E9 X d sc code sw ex n is) rest (pc + ln) r) (hjump : ∀ t, xh_go p l e R s m args below meth c Q nL A E D W0 (fun is => xl xg_FD E9 X d sc code sw ex n is) (xq_drop t code) (xe_pc (code.drop t)) r)
    (h1 : xl_far xg_FD E9 X d sc code sw ex n pc 64 x y z rest L S h nc ns = some r) (hc : r.2.2.2.1 ≤ R.cells) (hs : r.2.2.2.2 ≤ R.slots) : xf_G p l e R s m args below meth c Q nL A E D W0 pc L S h nc ns := by
  have hln : ln = 3 := xe_lnOf hcnd rfl; subst hln
  have ht : (pc : Int) + xe_off code pc x = (xe_pc (code.drop x) : Int) := by unfold xe_off; omega
  exact xn_if C (q := 0) (by decide) hdec ht (k := (fun (t : Bool) (S : List xv_V) => xl xg_FD E9 X d sc code sw ex n (cond t (xq_drop x code) rest) L S h nc ns)) h1 (fun t S1 hk => by
      cases t with
      | true => exact hjump x L S1 h nc ns hk
      | false => exact hnext L S1 h nc ns hk)
theorem xo_65 {E9 : xv_L} {X : xk_X} {n j pc ln  x y z w : Nat} {rest : List xv_I} {L : xv_L} {S : List xv_V} {h : List xv_O} {nc ns : Nat} (C : xf_C p R s m args meth c cc nL own ini A E d sc) (hF : xf_F s) (hX : ∀ (k : Nat) (as : List xv_V) (h : List xv_O) (R0 : xv_R), X k as h = some R0 → ∃ d', d = d' + 1 ∧ xw_M l E D A sc d' k as h R0)
    (hT : xh_T own code ex c r) (hO : xh_out p l e R s m args below meth c Q own A E D W0 r)
    (hret : ∀ (j pc ln op x y z w : Nat), code[j]? = some (pc, ln, op, x, y, z, w) → 84 ≤ op → op ≤ 88 → ∀ (L : xv_L) (S : List xv_V) (h : List xv_O) (nc ns : Nat), xr op z S h nc ns = some r → xf_G p l e R s m args below meth c Q nL A E D W0 pc L S h nc ns)
    (hnew : ∀ (j pc ln op x y z w : Nat), code[j]? = some (pc, ln, op, x, y, z, w) → (op = 90 ∨ op = 91) → 6 ≤ d → ∀ (L : xv_L) (S : List xv_V) (h : List xv_O) (nc ns : Nat), S.length ≤ 4 → r = (2 + x, (2, 0, 0), h, nc + 1, ns + 6) → xf_G p l e R s m args below meth c Q nL A E D W0 pc L S h nc ns)
    (hi : code[j]? = some (pc, ln, 65, x, y, z, w)) (hdec : decode cc pc = .ok (xe_ins code sw (pc, ln, 65, x, y, z, w), ln)) (hcnd : xe_cnd nL ini sw (pc, ln, 65, x, y, z, w) = true) (hsite : xi_need 65 = true → xi_site own (65, x, y, z, w))
    (hm : ∀ {is : List xv_I} {L : xv_L} {S : List xv_V} {h : List xv_O} {nc ns : Nat}, xl xg_FD E9 X d sc code sw ex n is L S h nc ns = some r → nc ≤ r.2.2.2.1 ∧ ns ≤ r.2.2.2.2)
    (hnext : xh_go p l e R s m args below meth c Q nL A E D W0 (fun is => xl xg_FD E9 X d sc code sw ex n is) rest (pc + ln) r) (hjump : ∀ t, xh_go p l e R s m args below meth c Q nL A E D W0 (fun is => xl xg_FD E9 X d sc code sw ex n is) (xq_drop t code) (xe_pc (code.drop t)) r)
    (h1 : xl_far xg_FD E9 X d sc code sw ex n pc 65 x y z rest L S h nc ns = some r) (hc : r.2.2.2.1 ≤ R.cells) (hs : r.2.2.2.2 ≤ R.slots) : xf_G p l e R s m args below meth c Q nL A E D W0 pc L S h nc ns := by
  have hln : ln = 3 := xe_lnOf hcnd rfl; subst hln
  have ht : (pc : Int) + xe_off code pc x = (xe_pc (code.drop x) : Int) := by unfold xe_off; omega
  exact xn_if C (q := 1) (by decide) hdec ht (k := (fun (t : Bool) (S : List xv_V) => xl xg_FD E9 X d sc code sw ex n (cond t (xq_drop x code) rest) L S h nc ns)) h1 (fun t S1 hk => by
      cases t with
      | true => exact hjump x L S1 h nc ns hk
      | false => exact hnext L S1 h nc ns hk)
theorem xo_66 {E9 : xv_L} {X : xk_X} {n j pc ln  x y z w : Nat} {rest : List xv_I} {L : xv_L} {S : List xv_V} {h : List xv_O} {nc ns : Nat} (C : xf_C p R s m args meth c cc nL own ini A E d sc) (hF : xf_F s) (hX : ∀ (k : Nat) (as : List xv_V) (h : List xv_O) (R0 : xv_R), X k as h = some R0 → ∃ d', d = d' + 1 ∧ xw_M l E D A sc d' k as h R0)
    (hT : xh_T own code ex c r) (hO : xh_out p l e R s m args below meth c Q own A E D W0 r)
    (hret : ∀ (j pc ln op x y z w : Nat), code[j]? = some (pc, ln, op, x, y, z, w) → 84 ≤ op → op ≤ 88 → ∀ (L : xv_L) (S : List xv_V) (h : List xv_O) (nc ns : Nat), xr op z S h nc ns = some r → xf_G p l e R s m args below meth c Q nL A E D W0 pc L S h nc ns)
    (hnew : ∀ (j pc ln op x y z w : Nat), code[j]? = some (pc, ln, op, x, y, z, w) → (op = 90 ∨ op = 91) → 6 ≤ d → ∀ (L : xv_L) (S : List xv_V) (h : List xv_O) (nc ns : Nat), S.length ≤ 4 → r = (2 + x, (2, 0, 0), h, nc + 1, ns + 6) → xf_G p l e R s m args below meth c Q nL A E D W0 pc L S h nc ns)
    (hi : code[j]? = some (pc, ln, 66, x, y, z, w)) (hdec : decode cc pc = .ok (xe_ins code sw (pc, ln, 66, x, y, z, w), ln)) (hcnd : xe_cnd nL ini sw (pc, ln, 66, x, y, z, w) = true) (hsite : xi_need 66 = true → xi_site own (66, x, y, z, w))
    (hm : ∀ {is : List xv_I} {L : xv_L} {S : List xv_V} {h : List xv_O} {nc ns : Nat}, xl xg_FD E9 X d sc code sw ex n is L S h nc ns = some r → nc ≤ r.2.2.2.1 ∧ ns ≤ r.2.2.2.2)
    (hnext : xh_go p l e R s m args below meth c Q nL A E D W0 (fun is => xl xg_FD E9 X d sc code sw ex n is) rest (pc + ln) r) (hjump : ∀ t, xh_go p l e R s m args below meth c Q nL A E D W0 (fun is => xl xg_FD E9 X d sc code sw ex n is) (xq_drop t code) (xe_pc (code.drop t)) r)
    (h1 : xl_far xg_FD E9 X d sc code sw ex n pc 66 x y z rest L S h nc ns = some r) (hc : r.2.2.2.1 ≤ R.cells) (hs : r.2.2.2.2 ≤ R.slots) : xf_G p l e R s m args below meth c Q nL A E D W0 pc L S h nc ns := by
  have hln : ln = 3 := xe_lnOf hcnd rfl; subst hln
  have ht : (pc : Int) + xe_off code pc x = (xe_pc (code.drop x) : Int) := by unfold xe_off; omega
  exact xn_if C (q := 2) (by decide) hdec ht (k := (fun (t : Bool) (S : List xv_V) => xl xg_FD E9 X d sc code sw ex n (cond t (xq_drop x code) rest) L S h nc ns)) h1 (fun t S1 hk => by
      cases t with
      | true => exact hjump x L S1 h nc ns hk
      | false => exact hnext L S1 h nc ns hk)
theorem xo_67 {E9 : xv_L} {X : xk_X} {n j pc ln  x y z w : Nat} {rest : List xv_I} {L : xv_L} {S : List xv_V} {h : List xv_O} {nc ns : Nat} (C : xf_C p R s m args meth c cc nL own ini A E d sc) (hF : xf_F s) (hX : ∀ (k : Nat) (as : List xv_V) (h : List xv_O) (R0 : xv_R), X k as h = some R0 → ∃ d', d = d' + 1 ∧ xw_M l E D A sc d' k as h R0)
    (hT : xh_T own code ex c r) (hO : xh_out p l e R s m args below meth c Q own A E D W0 r)
    (hret : ∀ (j pc ln op x y z w : Nat), code[j]? = some (pc, ln, op, x, y, z, w) → 84 ≤ op → op ≤ 88 → ∀ (L : xv_L) (S : List xv_V) (h : List xv_O) (nc ns : Nat), xr op z S h nc ns = some r → xf_G p l e R s m args below meth c Q nL A E D W0 pc L S h nc ns)
    (hnew : ∀ (j pc ln op x y z w : Nat), code[j]? = some (pc, ln, op, x, y, z, w) → (op = 90 ∨ op = 91) → 6 ≤ d → ∀ (L : xv_L) (S : List xv_V) (h : List xv_O) (nc ns : Nat), S.length ≤ 4 → r = (2 + x, (2, 0, 0), h, nc + 1, ns + 6) → xf_G p l e R s m args below meth c Q nL A E D W0 pc L S h nc ns)
    (hi : code[j]? = some (pc, ln, 67, x, y, z, w)) (hdec : decode cc pc = .ok (xe_ins code sw (pc, ln, 67, x, y, z, w), ln)) (hcnd : xe_cnd nL ini sw (pc, ln, 67, x, y, z, w) = true) (hsite : xi_need 67 = true → xi_site own (67, x, y, z, w))
    (hm : ∀ {is : List xv_I} {L : xv_L} {S : List xv_V} {h : List xv_O} {nc ns : Nat}, xl xg_FD E9 X d sc code sw ex n is L S h nc ns = some r → nc ≤ r.2.2.2.1 ∧ ns ≤ r.2.2.2.2)
    (hnext : xh_go p l e R s m args below meth c Q nL A E D W0 (fun is => xl xg_FD E9 X d sc code sw ex n is) rest (pc + ln) r) (hjump : ∀ t, xh_go p l e R s m args below meth c Q nL A E D W0 (fun is => xl xg_FD E9 X d sc code sw ex n is) (xq_drop t code) (xe_pc (code.drop t)) r)
    (h1 : xl_far xg_FD E9 X d sc code sw ex n pc 67 x y z rest L S h nc ns = some r) (hc : r.2.2.2.1 ≤ R.cells) (hs : r.2.2.2.2 ≤ R.slots) : xf_G p l e R s m args below meth c Q nL A E D W0 pc L S h nc ns := by
  have hln : ln = 3 := xe_lnOf hcnd rfl; subst hln
  have ht : (pc : Int) + xe_off code pc x = (xe_pc (code.drop x) : Int) := by unfold xe_off; omega
  exact xn_if C (q := 3) (by decide) hdec ht (k := (fun (t : Bool) (S : List xv_V) => xl xg_FD E9 X d sc code sw ex n (cond t (xq_drop x code) rest) L S h nc ns)) h1 (fun t S1 hk => by
      cases t with
      | true => exact hjump x L S1 h nc ns hk
      | false => exact hnext L S1 h nc ns hk)
theorem xo_68 {E9 : xv_L} {X : xk_X} {n j pc ln  x y z w : Nat} {rest : List xv_I} {L : xv_L} {S : List xv_V} {h : List xv_O} {nc ns : Nat} (C : xf_C p R s m args meth c cc nL own ini A E d sc) (hF : xf_F s) (hX : ∀ (k : Nat) (as : List xv_V) (h : List xv_O) (R0 : xv_R), X k as h = some R0 → ∃ d', d = d' + 1 ∧ xw_M l E D A sc d' k as h R0)
    (hT : xh_T own code ex c r) (hO : xh_out p l e R s m args below meth c Q own A E D W0 r)
    (hret : ∀ (j pc ln op x y z w : Nat), code[j]? = some (pc, ln, op, x, y, z, w) → 84 ≤ op → op ≤ 88 → ∀ (L : xv_L) (S : List xv_V) (h : List xv_O) (nc ns : Nat), xr op z S h nc ns = some r → xf_G p l e R s m args below meth c Q nL A E D W0 pc L S h nc ns)
    (hnew : ∀ (j pc ln op x y z w : Nat), code[j]? = some (pc, ln, op, x, y, z, w) → (op = 90 ∨ op = 91) → 6 ≤ d → ∀ (L : xv_L) (S : List xv_V) (h : List xv_O) (nc ns : Nat), S.length ≤ 4 → r = (2 + x, (2, 0, 0), h, nc + 1, ns + 6) → xf_G p l e R s m args below meth c Q nL A E D W0 pc L S h nc ns)
    (hi : code[j]? = some (pc, ln, 68, x, y, z, w)) (hdec : decode cc pc = .ok (xe_ins code sw (pc, ln, 68, x, y, z, w), ln)) (hcnd : xe_cnd nL ini sw (pc, ln, 68, x, y, z, w) = true) (hsite : xi_need 68 = true → xi_site own (68, x, y, z, w))
    (hm : ∀ {is : List xv_I} {L : xv_L} {S : List xv_V} {h : List xv_O} {nc ns : Nat}, xl xg_FD E9 X d sc code sw ex n is L S h nc ns = some r → nc ≤ r.2.2.2.1 ∧ ns ≤ r.2.2.2.2)
    (hnext : xh_go p l e R s m args below meth c Q nL A E D W0 (fun is => xl xg_FD E9 X d sc code sw ex n is) rest (pc + ln) r) (hjump : ∀ t, xh_go p l e R s m args below meth c Q nL A E D W0 (fun is => xl xg_FD E9 X d sc code sw ex n is) (xq_drop t code) (xe_pc (code.drop t)) r)
    (h1 : xl_far xg_FD E9 X d sc code sw ex n pc 68 x y z rest L S h nc ns = some r) (hc : r.2.2.2.1 ≤ R.cells) (hs : r.2.2.2.2 ≤ R.slots) : xf_G p l e R s m args below meth c Q nL A E D W0 pc L S h nc ns := by
  have hln : ln = 3 := xe_lnOf hcnd rfl; subst hln
  have ht : (pc : Int) + xe_off code pc x = (xe_pc (code.drop x) : Int) := by unfold xe_off; omega
  exact xn_if C (q := 4) (by decide) hdec ht (k := (fun (t : Bool) (S : List xv_V) => xl xg_FD E9 X d sc code sw ex n (cond t (xq_drop x code) rest) L S h nc ns)) h1 (fun t S1 hk => by
      cases t with
      | true => exact hjump x L S1 h nc ns hk
      | false => exact hnext L S1 h nc ns hk)
theorem xo_69 {E9 : xv_L} {X : xk_X} {n j pc ln  x y z w : Nat} {rest : List xv_I} {L : xv_L} {S : List xv_V} {h : List xv_O} {nc ns : Nat} (C : xf_C p R s m args meth c cc nL own ini A E d sc) (hF : xf_F s) (hX : ∀ (k : Nat) (as : List xv_V) (h : List xv_O) (R0 : xv_R), X k as h = some R0 → ∃ d', d = d' + 1 ∧ xw_M l E D A sc d' k as h R0)
    (hT : xh_T own code ex c r) (hO : xh_out p l e R s m args below meth c Q own A E D W0 r)
    (hret : ∀ (j pc ln op x y z w : Nat), code[j]? = some (pc, ln, op, x, y, z, w) → 84 ≤ op → op ≤ 88 → ∀ (L : xv_L) (S : List xv_V) (h : List xv_O) (nc ns : Nat), xr op z S h nc ns = some r → xf_G p l e R s m args below meth c Q nL A E D W0 pc L S h nc ns)
    (hnew : ∀ (j pc ln op x y z w : Nat), code[j]? = some (pc, ln, op, x, y, z, w) → (op = 90 ∨ op = 91) → 6 ≤ d → ∀ (L : xv_L) (S : List xv_V) (h : List xv_O) (nc ns : Nat), S.length ≤ 4 → r = (2 + x, (2, 0, 0), h, nc + 1, ns + 6) → xf_G p l e R s m args below meth c Q nL A E D W0 pc L S h nc ns)
    (hi : code[j]? = some (pc, ln, 69, x, y, z, w)) (hdec : decode cc pc = .ok (xe_ins code sw (pc, ln, 69, x, y, z, w), ln)) (hcnd : xe_cnd nL ini sw (pc, ln, 69, x, y, z, w) = true) (hsite : xi_need 69 = true → xi_site own (69, x, y, z, w))
    (hm : ∀ {is : List xv_I} {L : xv_L} {S : List xv_V} {h : List xv_O} {nc ns : Nat}, xl xg_FD E9 X d sc code sw ex n is L S h nc ns = some r → nc ≤ r.2.2.2.1 ∧ ns ≤ r.2.2.2.2)
    (hnext : xh_go p l e R s m args below meth c Q nL A E D W0 (fun is => xl xg_FD E9 X d sc code sw ex n is) rest (pc + ln) r) (hjump : ∀ t, xh_go p l e R s m args below meth c Q nL A E D W0 (fun is => xl xg_FD E9 X d sc code sw ex n is) (xq_drop t code) (xe_pc (code.drop t)) r)
    (h1 : xl_far xg_FD E9 X d sc code sw ex n pc 69 x y z rest L S h nc ns = some r) (hc : r.2.2.2.1 ≤ R.cells) (hs : r.2.2.2.2 ≤ R.slots) : xf_G p l e R s m args below meth c Q nL A E D W0 pc L S h nc ns := by
  have hln : ln = 3 := xe_lnOf hcnd rfl; subst hln
  have ht : (pc : Int) + xe_off code pc x = (xe_pc (code.drop x) : Int) := by unfold xe_off; omega
  exact xn_if C (q := 5) (by decide) hdec ht (k := (fun (t : Bool) (S : List xv_V) => xl xg_FD E9 X d sc code sw ex n (cond t (xq_drop x code) rest) L S h nc ns)) h1 (fun t S1 hk => by
      cases t with
      | true => exact hjump x L S1 h nc ns hk
      | false => exact hnext L S1 h nc ns hk)
theorem xo_70 {E9 : xv_L} {X : xk_X} {n j pc ln  x y z w : Nat} {rest : List xv_I} {L : xv_L} {S : List xv_V} {h : List xv_O} {nc ns : Nat} (C : xf_C p R s m args meth c cc nL own ini A E d sc) (hF : xf_F s) (hX : ∀ (k : Nat) (as : List xv_V) (h : List xv_O) (R0 : xv_R), X k as h = some R0 → ∃ d', d = d' + 1 ∧ xw_M l E D A sc d' k as h R0)
    (hT : xh_T own code ex c r) (hO : xh_out p l e R s m args below meth c Q own A E D W0 r)
    (hret : ∀ (j pc ln op x y z w : Nat), code[j]? = some (pc, ln, op, x, y, z, w) → 84 ≤ op → op ≤ 88 → ∀ (L : xv_L) (S : List xv_V) (h : List xv_O) (nc ns : Nat), xr op z S h nc ns = some r → xf_G p l e R s m args below meth c Q nL A E D W0 pc L S h nc ns)
    (hnew : ∀ (j pc ln op x y z w : Nat), code[j]? = some (pc, ln, op, x, y, z, w) → (op = 90 ∨ op = 91) → 6 ≤ d → ∀ (L : xv_L) (S : List xv_V) (h : List xv_O) (nc ns : Nat), S.length ≤ 4 → r = (2 + x, (2, 0, 0), h, nc + 1, ns + 6) → xf_G p l e R s m args below meth c Q nL A E D W0 pc L S h nc ns)
    (hi : code[j]? = some (pc, ln, 70, x, y, z, w)) (hdec : decode cc pc = .ok (xe_ins code sw (pc, ln, 70, x, y, z, w), ln)) (hcnd : xe_cnd nL ini sw (pc, ln, 70, x, y, z, w) = true) (hsite : xi_need 70 = true → xi_site own (70, x, y, z, w))
    (hm : ∀ {is : List xv_I} {L : xv_L} {S : List xv_V} {h : List xv_O} {nc ns : Nat}, xl xg_FD E9 X d sc code sw ex n is L S h nc ns = some r → nc ≤ r.2.2.2.1 ∧ ns ≤ r.2.2.2.2)
    (hnext : xh_go p l e R s m args below meth c Q nL A E D W0 (fun is => xl xg_FD E9 X d sc code sw ex n is) rest (pc + ln) r) (hjump : ∀ t, xh_go p l e R s m args below meth c Q nL A E D W0 (fun is => xl xg_FD E9 X d sc code sw ex n is) (xq_drop t code) (xe_pc (code.drop t)) r)
    (h1 : xl_far xg_FD E9 X d sc code sw ex n pc 70 x y z rest L S h nc ns = some r) (hc : r.2.2.2.1 ≤ R.cells) (hs : r.2.2.2.2 ≤ R.slots) : xf_G p l e R s m args below meth c Q nL A E D W0 pc L S h nc ns := by
  have hln : ln = 3 := xe_lnOf hcnd rfl; subst hln
  have ht : (pc : Int) + xe_off code pc x = (xe_pc (code.drop x) : Int) := by unfold xe_off; omega
  exact xn_ic C (q := 0) (by decide) hdec ht (k := (fun (t : Bool) (S : List xv_V) => xl xg_FD E9 X d sc code sw ex n (cond t (xq_drop x code) rest) L S h nc ns)) h1 (fun t S1 hk => by
      cases t with
      | true => exact hjump x L S1 h nc ns hk
      | false => exact hnext L S1 h nc ns hk)
theorem xo_71 {E9 : xv_L} {X : xk_X} {n j pc ln  x y z w : Nat} {rest : List xv_I} {L : xv_L} {S : List xv_V} {h : List xv_O} {nc ns : Nat} (C : xf_C p R s m args meth c cc nL own ini A E d sc) (hF : xf_F s) (hX : ∀ (k : Nat) (as : List xv_V) (h : List xv_O) (R0 : xv_R), X k as h = some R0 → ∃ d', d = d' + 1 ∧ xw_M l E D A sc d' k as h R0)
    (hT : xh_T own code ex c r) (hO : xh_out p l e R s m args below meth c Q own A E D W0 r)
    (hret : ∀ (j pc ln op x y z w : Nat), code[j]? = some (pc, ln, op, x, y, z, w) → 84 ≤ op → op ≤ 88 → ∀ (L : xv_L) (S : List xv_V) (h : List xv_O) (nc ns : Nat), xr op z S h nc ns = some r → xf_G p l e R s m args below meth c Q nL A E D W0 pc L S h nc ns)
    (hnew : ∀ (j pc ln op x y z w : Nat), code[j]? = some (pc, ln, op, x, y, z, w) → (op = 90 ∨ op = 91) → 6 ≤ d → ∀ (L : xv_L) (S : List xv_V) (h : List xv_O) (nc ns : Nat), S.length ≤ 4 → r = (2 + x, (2, 0, 0), h, nc + 1, ns + 6) → xf_G p l e R s m args below meth c Q nL A E D W0 pc L S h nc ns)
    (hi : code[j]? = some (pc, ln, 71, x, y, z, w)) (hdec : decode cc pc = .ok (xe_ins code sw (pc, ln, 71, x, y, z, w), ln)) (hcnd : xe_cnd nL ini sw (pc, ln, 71, x, y, z, w) = true) (hsite : xi_need 71 = true → xi_site own (71, x, y, z, w))
    (hm : ∀ {is : List xv_I} {L : xv_L} {S : List xv_V} {h : List xv_O} {nc ns : Nat}, xl xg_FD E9 X d sc code sw ex n is L S h nc ns = some r → nc ≤ r.2.2.2.1 ∧ ns ≤ r.2.2.2.2)
    (hnext : xh_go p l e R s m args below meth c Q nL A E D W0 (fun is => xl xg_FD E9 X d sc code sw ex n is) rest (pc + ln) r) (hjump : ∀ t, xh_go p l e R s m args below meth c Q nL A E D W0 (fun is => xl xg_FD E9 X d sc code sw ex n is) (xq_drop t code) (xe_pc (code.drop t)) r)
    (h1 : xl_far xg_FD E9 X d sc code sw ex n pc 71 x y z rest L S h nc ns = some r) (hc : r.2.2.2.1 ≤ R.cells) (hs : r.2.2.2.2 ≤ R.slots) : xf_G p l e R s m args below meth c Q nL A E D W0 pc L S h nc ns := by
  have hln : ln = 3 := xe_lnOf hcnd rfl; subst hln
  have ht : (pc : Int) + xe_off code pc x = (xe_pc (code.drop x) : Int) := by unfold xe_off; omega
  exact xn_ic C (q := 1) (by decide) hdec ht (k := (fun (t : Bool) (S : List xv_V) => xl xg_FD E9 X d sc code sw ex n (cond t (xq_drop x code) rest) L S h nc ns)) h1 (fun t S1 hk => by
      cases t with
      | true => exact hjump x L S1 h nc ns hk
      | false => exact hnext L S1 h nc ns hk)
theorem xo_72 {E9 : xv_L} {X : xk_X} {n j pc ln  x y z w : Nat} {rest : List xv_I} {L : xv_L} {S : List xv_V} {h : List xv_O} {nc ns : Nat} (C : xf_C p R s m args meth c cc nL own ini A E d sc) (hF : xf_F s) (hX : ∀ (k : Nat) (as : List xv_V) (h : List xv_O) (R0 : xv_R), X k as h = some R0 → ∃ d', d = d' + 1 ∧ xw_M l E D A sc d' k as h R0)
    (hT : xh_T own code ex c r) (hO : xh_out p l e R s m args below meth c Q own A E D W0 r)
    (hret : ∀ (j pc ln op x y z w : Nat), code[j]? = some (pc, ln, op, x, y, z, w) → 84 ≤ op → op ≤ 88 → ∀ (L : xv_L) (S : List xv_V) (h : List xv_O) (nc ns : Nat), xr op z S h nc ns = some r → xf_G p l e R s m args below meth c Q nL A E D W0 pc L S h nc ns)
    (hnew : ∀ (j pc ln op x y z w : Nat), code[j]? = some (pc, ln, op, x, y, z, w) → (op = 90 ∨ op = 91) → 6 ≤ d → ∀ (L : xv_L) (S : List xv_V) (h : List xv_O) (nc ns : Nat), S.length ≤ 4 → r = (2 + x, (2, 0, 0), h, nc + 1, ns + 6) → xf_G p l e R s m args below meth c Q nL A E D W0 pc L S h nc ns)
    (hi : code[j]? = some (pc, ln, 72, x, y, z, w)) (hdec : decode cc pc = .ok (xe_ins code sw (pc, ln, 72, x, y, z, w), ln)) (hcnd : xe_cnd nL ini sw (pc, ln, 72, x, y, z, w) = true) (hsite : xi_need 72 = true → xi_site own (72, x, y, z, w))
    (hm : ∀ {is : List xv_I} {L : xv_L} {S : List xv_V} {h : List xv_O} {nc ns : Nat}, xl xg_FD E9 X d sc code sw ex n is L S h nc ns = some r → nc ≤ r.2.2.2.1 ∧ ns ≤ r.2.2.2.2)
    (hnext : xh_go p l e R s m args below meth c Q nL A E D W0 (fun is => xl xg_FD E9 X d sc code sw ex n is) rest (pc + ln) r) (hjump : ∀ t, xh_go p l e R s m args below meth c Q nL A E D W0 (fun is => xl xg_FD E9 X d sc code sw ex n is) (xq_drop t code) (xe_pc (code.drop t)) r)
    (h1 : xl_far xg_FD E9 X d sc code sw ex n pc 72 x y z rest L S h nc ns = some r) (hc : r.2.2.2.1 ≤ R.cells) (hs : r.2.2.2.2 ≤ R.slots) : xf_G p l e R s m args below meth c Q nL A E D W0 pc L S h nc ns := by
  have hln : ln = 3 := xe_lnOf hcnd rfl; subst hln
  have ht : (pc : Int) + xe_off code pc x = (xe_pc (code.drop x) : Int) := by unfold xe_off; omega
  exact xn_ic C (q := 2) (by decide) hdec ht (k := (fun (t : Bool) (S : List xv_V) => xl xg_FD E9 X d sc code sw ex n (cond t (xq_drop x code) rest) L S h nc ns)) h1 (fun t S1 hk => by
      cases t with
      | true => exact hjump x L S1 h nc ns hk
      | false => exact hnext L S1 h nc ns hk)
theorem xo_73 {E9 : xv_L} {X : xk_X} {n j pc ln  x y z w : Nat} {rest : List xv_I} {L : xv_L} {S : List xv_V} {h : List xv_O} {nc ns : Nat} (C : xf_C p R s m args meth c cc nL own ini A E d sc) (hF : xf_F s) (hX : ∀ (k : Nat) (as : List xv_V) (h : List xv_O) (R0 : xv_R), X k as h = some R0 → ∃ d', d = d' + 1 ∧ xw_M l E D A sc d' k as h R0)
    (hT : xh_T own code ex c r) (hO : xh_out p l e R s m args below meth c Q own A E D W0 r)
    (hret : ∀ (j pc ln op x y z w : Nat), code[j]? = some (pc, ln, op, x, y, z, w) → 84 ≤ op → op ≤ 88 → ∀ (L : xv_L) (S : List xv_V) (h : List xv_O) (nc ns : Nat), xr op z S h nc ns = some r → xf_G p l e R s m args below meth c Q nL A E D W0 pc L S h nc ns)
    (hnew : ∀ (j pc ln op x y z w : Nat), code[j]? = some (pc, ln, op, x, y, z, w) → (op = 90 ∨ op = 91) → 6 ≤ d → ∀ (L : xv_L) (S : List xv_V) (h : List xv_O) (nc ns : Nat), S.length ≤ 4 → r = (2 + x, (2, 0, 0), h, nc + 1, ns + 6) → xf_G p l e R s m args below meth c Q nL A E D W0 pc L S h nc ns)
    (hi : code[j]? = some (pc, ln, 73, x, y, z, w)) (hdec : decode cc pc = .ok (xe_ins code sw (pc, ln, 73, x, y, z, w), ln)) (hcnd : xe_cnd nL ini sw (pc, ln, 73, x, y, z, w) = true) (hsite : xi_need 73 = true → xi_site own (73, x, y, z, w))
    (hm : ∀ {is : List xv_I} {L : xv_L} {S : List xv_V} {h : List xv_O} {nc ns : Nat}, xl xg_FD E9 X d sc code sw ex n is L S h nc ns = some r → nc ≤ r.2.2.2.1 ∧ ns ≤ r.2.2.2.2)
    (hnext : xh_go p l e R s m args below meth c Q nL A E D W0 (fun is => xl xg_FD E9 X d sc code sw ex n is) rest (pc + ln) r) (hjump : ∀ t, xh_go p l e R s m args below meth c Q nL A E D W0 (fun is => xl xg_FD E9 X d sc code sw ex n is) (xq_drop t code) (xe_pc (code.drop t)) r)
    (h1 : xl_far xg_FD E9 X d sc code sw ex n pc 73 x y z rest L S h nc ns = some r) (hc : r.2.2.2.1 ≤ R.cells) (hs : r.2.2.2.2 ≤ R.slots) : xf_G p l e R s m args below meth c Q nL A E D W0 pc L S h nc ns := by
  have hln : ln = 3 := xe_lnOf hcnd rfl; subst hln
  have ht : (pc : Int) + xe_off code pc x = (xe_pc (code.drop x) : Int) := by unfold xe_off; omega
  exact xn_ic C (q := 3) (by decide) hdec ht (k := (fun (t : Bool) (S : List xv_V) => xl xg_FD E9 X d sc code sw ex n (cond t (xq_drop x code) rest) L S h nc ns)) h1 (fun t S1 hk => by
      cases t with
      | true => exact hjump x L S1 h nc ns hk
      | false => exact hnext L S1 h nc ns hk)
theorem xo_74 {E9 : xv_L} {X : xk_X} {n j pc ln  x y z w : Nat} {rest : List xv_I} {L : xv_L} {S : List xv_V} {h : List xv_O} {nc ns : Nat} (C : xf_C p R s m args meth c cc nL own ini A E d sc) (hF : xf_F s) (hX : ∀ (k : Nat) (as : List xv_V) (h : List xv_O) (R0 : xv_R), X k as h = some R0 → ∃ d', d = d' + 1 ∧ xw_M l E D A sc d' k as h R0)
    (hT : xh_T own code ex c r) (hO : xh_out p l e R s m args below meth c Q own A E D W0 r)
    (hret : ∀ (j pc ln op x y z w : Nat), code[j]? = some (pc, ln, op, x, y, z, w) → 84 ≤ op → op ≤ 88 → ∀ (L : xv_L) (S : List xv_V) (h : List xv_O) (nc ns : Nat), xr op z S h nc ns = some r → xf_G p l e R s m args below meth c Q nL A E D W0 pc L S h nc ns)
    (hnew : ∀ (j pc ln op x y z w : Nat), code[j]? = some (pc, ln, op, x, y, z, w) → (op = 90 ∨ op = 91) → 6 ≤ d → ∀ (L : xv_L) (S : List xv_V) (h : List xv_O) (nc ns : Nat), S.length ≤ 4 → r = (2 + x, (2, 0, 0), h, nc + 1, ns + 6) → xf_G p l e R s m args below meth c Q nL A E D W0 pc L S h nc ns)
    (hi : code[j]? = some (pc, ln, 74, x, y, z, w)) (hdec : decode cc pc = .ok (xe_ins code sw (pc, ln, 74, x, y, z, w), ln)) (hcnd : xe_cnd nL ini sw (pc, ln, 74, x, y, z, w) = true) (hsite : xi_need 74 = true → xi_site own (74, x, y, z, w))
    (hm : ∀ {is : List xv_I} {L : xv_L} {S : List xv_V} {h : List xv_O} {nc ns : Nat}, xl xg_FD E9 X d sc code sw ex n is L S h nc ns = some r → nc ≤ r.2.2.2.1 ∧ ns ≤ r.2.2.2.2)
    (hnext : xh_go p l e R s m args below meth c Q nL A E D W0 (fun is => xl xg_FD E9 X d sc code sw ex n is) rest (pc + ln) r) (hjump : ∀ t, xh_go p l e R s m args below meth c Q nL A E D W0 (fun is => xl xg_FD E9 X d sc code sw ex n is) (xq_drop t code) (xe_pc (code.drop t)) r)
    (h1 : xl_far xg_FD E9 X d sc code sw ex n pc 74 x y z rest L S h nc ns = some r) (hc : r.2.2.2.1 ≤ R.cells) (hs : r.2.2.2.2 ≤ R.slots) : xf_G p l e R s m args below meth c Q nL A E D W0 pc L S h nc ns := by
  have hln : ln = 3 := xe_lnOf hcnd rfl; subst hln
  have ht : (pc : Int) + xe_off code pc x = (xe_pc (code.drop x) : Int) := by unfold xe_off; omega
  exact xn_ic C (q := 4) (by decide) hdec ht (k := (fun (t : Bool) (S : List xv_V) => xl xg_FD E9 X d sc code sw ex n (cond t (xq_drop x code) rest) L S h nc ns)) h1 (fun t S1 hk => by
      cases t with
      | true => exact hjump x L S1 h nc ns hk
      | false => exact hnext L S1 h nc ns hk)
theorem xo_75 {E9 : xv_L} {X : xk_X} {n j pc ln  x y z w : Nat} {rest : List xv_I} {L : xv_L} {S : List xv_V} {h : List xv_O} {nc ns : Nat} (C : xf_C p R s m args meth c cc nL own ini A E d sc) (hF : xf_F s) (hX : ∀ (k : Nat) (as : List xv_V) (h : List xv_O) (R0 : xv_R), X k as h = some R0 → ∃ d', d = d' + 1 ∧ xw_M l E D A sc d' k as h R0)
    (hT : xh_T own code ex c r) (hO : xh_out p l e R s m args below meth c Q own A E D W0 r)
    (hret : ∀ (j pc ln op x y z w : Nat), code[j]? = some (pc, ln, op, x, y, z, w) → 84 ≤ op → op ≤ 88 → ∀ (L : xv_L) (S : List xv_V) (h : List xv_O) (nc ns : Nat), xr op z S h nc ns = some r → xf_G p l e R s m args below meth c Q nL A E D W0 pc L S h nc ns)
    (hnew : ∀ (j pc ln op x y z w : Nat), code[j]? = some (pc, ln, op, x, y, z, w) → (op = 90 ∨ op = 91) → 6 ≤ d → ∀ (L : xv_L) (S : List xv_V) (h : List xv_O) (nc ns : Nat), S.length ≤ 4 → r = (2 + x, (2, 0, 0), h, nc + 1, ns + 6) → xf_G p l e R s m args below meth c Q nL A E D W0 pc L S h nc ns)
    (hi : code[j]? = some (pc, ln, 75, x, y, z, w)) (hdec : decode cc pc = .ok (xe_ins code sw (pc, ln, 75, x, y, z, w), ln)) (hcnd : xe_cnd nL ini sw (pc, ln, 75, x, y, z, w) = true) (hsite : xi_need 75 = true → xi_site own (75, x, y, z, w))
    (hm : ∀ {is : List xv_I} {L : xv_L} {S : List xv_V} {h : List xv_O} {nc ns : Nat}, xl xg_FD E9 X d sc code sw ex n is L S h nc ns = some r → nc ≤ r.2.2.2.1 ∧ ns ≤ r.2.2.2.2)
    (hnext : xh_go p l e R s m args below meth c Q nL A E D W0 (fun is => xl xg_FD E9 X d sc code sw ex n is) rest (pc + ln) r) (hjump : ∀ t, xh_go p l e R s m args below meth c Q nL A E D W0 (fun is => xl xg_FD E9 X d sc code sw ex n is) (xq_drop t code) (xe_pc (code.drop t)) r)
    (h1 : xl_far xg_FD E9 X d sc code sw ex n pc 75 x y z rest L S h nc ns = some r) (hc : r.2.2.2.1 ≤ R.cells) (hs : r.2.2.2.2 ≤ R.slots) : xf_G p l e R s m args below meth c Q nL A E D W0 pc L S h nc ns := by
  have hln : ln = 3 := xe_lnOf hcnd rfl; subst hln
  have ht : (pc : Int) + xe_off code pc x = (xe_pc (code.drop x) : Int) := by unfold xe_off; omega
  exact xn_ic C (q := 5) (by decide) hdec ht (k := (fun (t : Bool) (S : List xv_V) => xl xg_FD E9 X d sc code sw ex n (cond t (xq_drop x code) rest) L S h nc ns)) h1 (fun t S1 hk => by
      cases t with
      | true => exact hjump x L S1 h nc ns hk
      | false => exact hnext L S1 h nc ns hk)
theorem xo_76 {E9 : xv_L} {X : xk_X} {n j pc ln  x y z w : Nat} {rest : List xv_I} {L : xv_L} {S : List xv_V} {h : List xv_O} {nc ns : Nat} (C : xf_C p R s m args meth c cc nL own ini A E d sc) (hF : xf_F s) (hX : ∀ (k : Nat) (as : List xv_V) (h : List xv_O) (R0 : xv_R), X k as h = some R0 → ∃ d', d = d' + 1 ∧ xw_M l E D A sc d' k as h R0)
    (hT : xh_T own code ex c r) (hO : xh_out p l e R s m args below meth c Q own A E D W0 r)
    (hret : ∀ (j pc ln op x y z w : Nat), code[j]? = some (pc, ln, op, x, y, z, w) → 84 ≤ op → op ≤ 88 → ∀ (L : xv_L) (S : List xv_V) (h : List xv_O) (nc ns : Nat), xr op z S h nc ns = some r → xf_G p l e R s m args below meth c Q nL A E D W0 pc L S h nc ns)
    (hnew : ∀ (j pc ln op x y z w : Nat), code[j]? = some (pc, ln, op, x, y, z, w) → (op = 90 ∨ op = 91) → 6 ≤ d → ∀ (L : xv_L) (S : List xv_V) (h : List xv_O) (nc ns : Nat), S.length ≤ 4 → r = (2 + x, (2, 0, 0), h, nc + 1, ns + 6) → xf_G p l e R s m args below meth c Q nL A E D W0 pc L S h nc ns)
    (hi : code[j]? = some (pc, ln, 76, x, y, z, w)) (hdec : decode cc pc = .ok (xe_ins code sw (pc, ln, 76, x, y, z, w), ln)) (hcnd : xe_cnd nL ini sw (pc, ln, 76, x, y, z, w) = true) (hsite : xi_need 76 = true → xi_site own (76, x, y, z, w))
    (hm : ∀ {is : List xv_I} {L : xv_L} {S : List xv_V} {h : List xv_O} {nc ns : Nat}, xl xg_FD E9 X d sc code sw ex n is L S h nc ns = some r → nc ≤ r.2.2.2.1 ∧ ns ≤ r.2.2.2.2)
    (hnext : xh_go p l e R s m args below meth c Q nL A E D W0 (fun is => xl xg_FD E9 X d sc code sw ex n is) rest (pc + ln) r) (hjump : ∀ t, xh_go p l e R s m args below meth c Q nL A E D W0 (fun is => xl xg_FD E9 X d sc code sw ex n is) (xq_drop t code) (xe_pc (code.drop t)) r)
    (h1 : xl_far xg_FD E9 X d sc code sw ex n pc 76 x y z rest L S h nc ns = some r) (hc : r.2.2.2.1 ≤ R.cells) (hs : r.2.2.2.2 ≤ R.slots) : xf_G p l e R s m args below meth c Q nL A E D W0 pc L S h nc ns := by
  have hln : ln = 3 := xe_lnOf hcnd rfl; subst hln
  have ht : (pc : Int) + xe_off code pc x = (xe_pc (code.drop x) : Int) := by unfold xe_off; omega
  exact xn_ref C (isE := true) hdec ht (k := (fun (t : Bool) (S : List xv_V) => xl xg_FD E9 X d sc code sw ex n (cond t (xq_drop x code) rest) L S h nc ns)) h1 (fun t S1 hk => by
      cases t with
      | true => exact hjump x L S1 h nc ns hk
      | false => exact hnext L S1 h nc ns hk)
theorem xo_77 {E9 : xv_L} {X : xk_X} {n j pc ln  x y z w : Nat} {rest : List xv_I} {L : xv_L} {S : List xv_V} {h : List xv_O} {nc ns : Nat} (C : xf_C p R s m args meth c cc nL own ini A E d sc) (hF : xf_F s) (hX : ∀ (k : Nat) (as : List xv_V) (h : List xv_O) (R0 : xv_R), X k as h = some R0 → ∃ d', d = d' + 1 ∧ xw_M l E D A sc d' k as h R0)
    (hT : xh_T own code ex c r) (hO : xh_out p l e R s m args below meth c Q own A E D W0 r)
    (hret : ∀ (j pc ln op x y z w : Nat), code[j]? = some (pc, ln, op, x, y, z, w) → 84 ≤ op → op ≤ 88 → ∀ (L : xv_L) (S : List xv_V) (h : List xv_O) (nc ns : Nat), xr op z S h nc ns = some r → xf_G p l e R s m args below meth c Q nL A E D W0 pc L S h nc ns)
    (hnew : ∀ (j pc ln op x y z w : Nat), code[j]? = some (pc, ln, op, x, y, z, w) → (op = 90 ∨ op = 91) → 6 ≤ d → ∀ (L : xv_L) (S : List xv_V) (h : List xv_O) (nc ns : Nat), S.length ≤ 4 → r = (2 + x, (2, 0, 0), h, nc + 1, ns + 6) → xf_G p l e R s m args below meth c Q nL A E D W0 pc L S h nc ns)
    (hi : code[j]? = some (pc, ln, 77, x, y, z, w)) (hdec : decode cc pc = .ok (xe_ins code sw (pc, ln, 77, x, y, z, w), ln)) (hcnd : xe_cnd nL ini sw (pc, ln, 77, x, y, z, w) = true) (hsite : xi_need 77 = true → xi_site own (77, x, y, z, w))
    (hm : ∀ {is : List xv_I} {L : xv_L} {S : List xv_V} {h : List xv_O} {nc ns : Nat}, xl xg_FD E9 X d sc code sw ex n is L S h nc ns = some r → nc ≤ r.2.2.2.1 ∧ ns ≤ r.2.2.2.2)
    (hnext : xh_go p l e R s m args below meth c Q nL A E D W0 (fun is => xl xg_FD E9 X d sc code sw ex n is) rest (pc + ln) r) (hjump : ∀ t, xh_go p l e R s m args below meth c Q nL A E D W0 (fun is => xl xg_FD E9 X d sc code sw ex n is) (xq_drop t code) (xe_pc (code.drop t)) r)
    (h1 : xl_far xg_FD E9 X d sc code sw ex n pc 77 x y z rest L S h nc ns = some r) (hc : r.2.2.2.1 ≤ R.cells) (hs : r.2.2.2.2 ≤ R.slots) : xf_G p l e R s m args below meth c Q nL A E D W0 pc L S h nc ns := by
  have hln : ln = 3 := xe_lnOf hcnd rfl; subst hln
  have ht : (pc : Int) + xe_off code pc x = (xe_pc (code.drop x) : Int) := by unfold xe_off; omega
  exact xn_ref C (isE := false) hdec ht (k := (fun (t : Bool) (S : List xv_V) => xl xg_FD E9 X d sc code sw ex n (cond t (xq_drop x code) rest) L S h nc ns)) h1 (fun t S1 hk => by
      cases t with
      | true => exact hjump x L S1 h nc ns hk
      | false => exact hnext L S1 h nc ns hk)
theorem xo_78 {E9 : xv_L} {X : xk_X} {n j pc ln  x y z w : Nat} {rest : List xv_I} {L : xv_L} {S : List xv_V} {h : List xv_O} {nc ns : Nat} (C : xf_C p R s m args meth c cc nL own ini A E d sc) (hF : xf_F s) (hX : ∀ (k : Nat) (as : List xv_V) (h : List xv_O) (R0 : xv_R), X k as h = some R0 → ∃ d', d = d' + 1 ∧ xw_M l E D A sc d' k as h R0)
    (hT : xh_T own code ex c r) (hO : xh_out p l e R s m args below meth c Q own A E D W0 r)
    (hret : ∀ (j pc ln op x y z w : Nat), code[j]? = some (pc, ln, op, x, y, z, w) → 84 ≤ op → op ≤ 88 → ∀ (L : xv_L) (S : List xv_V) (h : List xv_O) (nc ns : Nat), xr op z S h nc ns = some r → xf_G p l e R s m args below meth c Q nL A E D W0 pc L S h nc ns)
    (hnew : ∀ (j pc ln op x y z w : Nat), code[j]? = some (pc, ln, op, x, y, z, w) → (op = 90 ∨ op = 91) → 6 ≤ d → ∀ (L : xv_L) (S : List xv_V) (h : List xv_O) (nc ns : Nat), S.length ≤ 4 → r = (2 + x, (2, 0, 0), h, nc + 1, ns + 6) → xf_G p l e R s m args below meth c Q nL A E D W0 pc L S h nc ns)
    (hi : code[j]? = some (pc, ln, 78, x, y, z, w)) (hdec : decode cc pc = .ok (xe_ins code sw (pc, ln, 78, x, y, z, w), ln)) (hcnd : xe_cnd nL ini sw (pc, ln, 78, x, y, z, w) = true) (hsite : xi_need 78 = true → xi_site own (78, x, y, z, w))
    (hm : ∀ {is : List xv_I} {L : xv_L} {S : List xv_V} {h : List xv_O} {nc ns : Nat}, xl xg_FD E9 X d sc code sw ex n is L S h nc ns = some r → nc ≤ r.2.2.2.1 ∧ ns ≤ r.2.2.2.2)
    (hnext : xh_go p l e R s m args below meth c Q nL A E D W0 (fun is => xl xg_FD E9 X d sc code sw ex n is) rest (pc + ln) r) (hjump : ∀ t, xh_go p l e R s m args below meth c Q nL A E D W0 (fun is => xl xg_FD E9 X d sc code sw ex n is) (xq_drop t code) (xe_pc (code.drop t)) r)
    (h1 : xl_far xg_FD E9 X d sc code sw ex n pc 78 x y z rest L S h nc ns = some r) (hc : r.2.2.2.1 ≤ R.cells) (hs : r.2.2.2.2 ≤ R.slots) : xf_G p l e R s m args below meth c Q nL A E D W0 pc L S h nc ns := by
  have hln : ln = 3 := xe_lnOf hcnd rfl; subst hln
  have ht : (pc : Int) + xe_off code pc x = (xe_pc (code.drop x) : Int) := by unfold xe_off; omega
  exact xn_null C (isE := true) hdec ht (k := (fun (t : Bool) (S : List xv_V) => xl xg_FD E9 X d sc code sw ex n (cond t (xq_drop x code) rest) L S h nc ns)) h1 (fun t S1 hk => by
      cases t with
      | true => exact hjump x L S1 h nc ns hk
      | false => exact hnext L S1 h nc ns hk)
theorem xo_79 {E9 : xv_L} {X : xk_X} {n j pc ln  x y z w : Nat} {rest : List xv_I} {L : xv_L} {S : List xv_V} {h : List xv_O} {nc ns : Nat} (C : xf_C p R s m args meth c cc nL own ini A E d sc) (hF : xf_F s) (hX : ∀ (k : Nat) (as : List xv_V) (h : List xv_O) (R0 : xv_R), X k as h = some R0 → ∃ d', d = d' + 1 ∧ xw_M l E D A sc d' k as h R0)
    (hT : xh_T own code ex c r) (hO : xh_out p l e R s m args below meth c Q own A E D W0 r)
    (hret : ∀ (j pc ln op x y z w : Nat), code[j]? = some (pc, ln, op, x, y, z, w) → 84 ≤ op → op ≤ 88 → ∀ (L : xv_L) (S : List xv_V) (h : List xv_O) (nc ns : Nat), xr op z S h nc ns = some r → xf_G p l e R s m args below meth c Q nL A E D W0 pc L S h nc ns)
    (hnew : ∀ (j pc ln op x y z w : Nat), code[j]? = some (pc, ln, op, x, y, z, w) → (op = 90 ∨ op = 91) → 6 ≤ d → ∀ (L : xv_L) (S : List xv_V) (h : List xv_O) (nc ns : Nat), S.length ≤ 4 → r = (2 + x, (2, 0, 0), h, nc + 1, ns + 6) → xf_G p l e R s m args below meth c Q nL A E D W0 pc L S h nc ns)
    (hi : code[j]? = some (pc, ln, 79, x, y, z, w)) (hdec : decode cc pc = .ok (xe_ins code sw (pc, ln, 79, x, y, z, w), ln)) (hcnd : xe_cnd nL ini sw (pc, ln, 79, x, y, z, w) = true) (hsite : xi_need 79 = true → xi_site own (79, x, y, z, w))
    (hm : ∀ {is : List xv_I} {L : xv_L} {S : List xv_V} {h : List xv_O} {nc ns : Nat}, xl xg_FD E9 X d sc code sw ex n is L S h nc ns = some r → nc ≤ r.2.2.2.1 ∧ ns ≤ r.2.2.2.2)
    (hnext : xh_go p l e R s m args below meth c Q nL A E D W0 (fun is => xl xg_FD E9 X d sc code sw ex n is) rest (pc + ln) r) (hjump : ∀ t, xh_go p l e R s m args below meth c Q nL A E D W0 (fun is => xl xg_FD E9 X d sc code sw ex n is) (xq_drop t code) (xe_pc (code.drop t)) r)
    (h1 : xl_far xg_FD E9 X d sc code sw ex n pc 79 x y z rest L S h nc ns = some r) (hc : r.2.2.2.1 ≤ R.cells) (hs : r.2.2.2.2 ≤ R.slots) : xf_G p l e R s m args below meth c Q nL A E D W0 pc L S h nc ns := by
  have hln : ln = 3 := xe_lnOf hcnd rfl; subst hln
  have ht : (pc : Int) + xe_off code pc x = (xe_pc (code.drop x) : Int) := by unfold xe_off; omega
  exact xn_null C (isE := false) hdec ht (k := (fun (t : Bool) (S : List xv_V) => xl xg_FD E9 X d sc code sw ex n (cond t (xq_drop x code) rest) L S h nc ns)) h1 (fun t S1 hk => by
      cases t with
      | true => exact hjump x L S1 h nc ns hk
      | false => exact hnext L S1 h nc ns hk)
theorem xo_80 {E9 : xv_L} {X : xk_X} {n j pc ln  x y z w : Nat} {rest : List xv_I} {L : xv_L} {S : List xv_V} {h : List xv_O} {nc ns : Nat} (C : xf_C p R s m args meth c cc nL own ini A E d sc) (hF : xf_F s) (hX : ∀ (k : Nat) (as : List xv_V) (h : List xv_O) (R0 : xv_R), X k as h = some R0 → ∃ d', d = d' + 1 ∧ xw_M l E D A sc d' k as h R0)
    (hT : xh_T own code ex c r) (hO : xh_out p l e R s m args below meth c Q own A E D W0 r)
    (hret : ∀ (j pc ln op x y z w : Nat), code[j]? = some (pc, ln, op, x, y, z, w) → 84 ≤ op → op ≤ 88 → ∀ (L : xv_L) (S : List xv_V) (h : List xv_O) (nc ns : Nat), xr op z S h nc ns = some r → xf_G p l e R s m args below meth c Q nL A E D W0 pc L S h nc ns)
    (hnew : ∀ (j pc ln op x y z w : Nat), code[j]? = some (pc, ln, op, x, y, z, w) → (op = 90 ∨ op = 91) → 6 ≤ d → ∀ (L : xv_L) (S : List xv_V) (h : List xv_O) (nc ns : Nat), S.length ≤ 4 → r = (2 + x, (2, 0, 0), h, nc + 1, ns + 6) → xf_G p l e R s m args below meth c Q nL A E D W0 pc L S h nc ns)
    (hi : code[j]? = some (pc, ln, 80, x, y, z, w)) (hdec : decode cc pc = .ok (xe_ins code sw (pc, ln, 80, x, y, z, w), ln)) (hcnd : xe_cnd nL ini sw (pc, ln, 80, x, y, z, w) = true) (hsite : xi_need 80 = true → xi_site own (80, x, y, z, w))
    (hm : ∀ {is : List xv_I} {L : xv_L} {S : List xv_V} {h : List xv_O} {nc ns : Nat}, xl xg_FD E9 X d sc code sw ex n is L S h nc ns = some r → nc ≤ r.2.2.2.1 ∧ ns ≤ r.2.2.2.2)
    (hnext : xh_go p l e R s m args below meth c Q nL A E D W0 (fun is => xl xg_FD E9 X d sc code sw ex n is) rest (pc + ln) r) (hjump : ∀ t, xh_go p l e R s m args below meth c Q nL A E D W0 (fun is => xl xg_FD E9 X d sc code sw ex n is) (xq_drop t code) (xe_pc (code.drop t)) r)
    (h1 : xl_far xg_FD E9 X d sc code sw ex n pc 80 x y z rest L S h nc ns = some r) (hc : r.2.2.2.1 ≤ R.cells) (hs : r.2.2.2.2 ≤ R.slots) : xf_G p l e R s m args below meth c Q nL A E D W0 pc L S h nc ns := by
  have hln : ln = 3 := xe_lnOf hcnd rfl; subst hln
  have ht : (pc : Int) + xe_off code pc x = (xe_pc (code.drop x) : Int) := by unfold xe_off; omega
  exact xn_goto C hdec ht (hjump x L S h nc ns h1)
theorem xo_81 {E9 : xv_L} {X : xk_X} {n j pc ln  x y z w : Nat} {rest : List xv_I} {L : xv_L} {S : List xv_V} {h : List xv_O} {nc ns : Nat} (C : xf_C p R s m args meth c cc nL own ini A E d sc) (hF : xf_F s) (hX : ∀ (k : Nat) (as : List xv_V) (h : List xv_O) (R0 : xv_R), X k as h = some R0 → ∃ d', d = d' + 1 ∧ xw_M l E D A sc d' k as h R0)
    (hT : xh_T own code ex c r) (hO : xh_out p l e R s m args below meth c Q own A E D W0 r)
    (hret : ∀ (j pc ln op x y z w : Nat), code[j]? = some (pc, ln, op, x, y, z, w) → 84 ≤ op → op ≤ 88 → ∀ (L : xv_L) (S : List xv_V) (h : List xv_O) (nc ns : Nat), xr op z S h nc ns = some r → xf_G p l e R s m args below meth c Q nL A E D W0 pc L S h nc ns)
    (hnew : ∀ (j pc ln op x y z w : Nat), code[j]? = some (pc, ln, op, x, y, z, w) → (op = 90 ∨ op = 91) → 6 ≤ d → ∀ (L : xv_L) (S : List xv_V) (h : List xv_O) (nc ns : Nat), S.length ≤ 4 → r = (2 + x, (2, 0, 0), h, nc + 1, ns + 6) → xf_G p l e R s m args below meth c Q nL A E D W0 pc L S h nc ns)
    (hi : code[j]? = some (pc, ln, 81, x, y, z, w)) (hdec : decode cc pc = .ok (xe_ins code sw (pc, ln, 81, x, y, z, w), ln)) (hcnd : xe_cnd nL ini sw (pc, ln, 81, x, y, z, w) = true) (hsite : xi_need 81 = true → xi_site own (81, x, y, z, w))
    (hm : ∀ {is : List xv_I} {L : xv_L} {S : List xv_V} {h : List xv_O} {nc ns : Nat}, xl xg_FD E9 X d sc code sw ex n is L S h nc ns = some r → nc ≤ r.2.2.2.1 ∧ ns ≤ r.2.2.2.2)
    (hnext : xh_go p l e R s m args below meth c Q nL A E D W0 (fun is => xl xg_FD E9 X d sc code sw ex n is) rest (pc + ln) r) (hjump : ∀ t, xh_go p l e R s m args below meth c Q nL A E D W0 (fun is => xl xg_FD E9 X d sc code sw ex n is) (xq_drop t code) (xe_pc (code.drop t)) r)
    (h1 : xl_far xg_FD E9 X d sc code sw ex n pc 81 x y z rest L S h nc ns = some r) (hc : r.2.2.2.1 ≤ R.cells) (hs : r.2.2.2.2 ≤ R.slots) : xf_G p l e R s m args below meth c Q nL A E D W0 pc L S h nc ns := by
  have h2 : (xq_pop S fun a S => xq_nth sw x fun w => xj_sw w a fun t => xl xg_FD E9 X d sc code sw ex n (xq_drop t code) L S h nc ns) = some r := h1
  obtain ⟨a, S1, rfl, h3⟩ := xe_pop h2
  obtain ⟨w0, hw0, h4⟩ := xe_nth h3
  obtain ⟨lo, hlo, -⟩ := xe_nth h4
  have e1 : sw.getD x [] = w0 := by rw [List.getD_eq_getElem?_getD, hw0]; rfl
  have e2 : w0.getD 0 0 = lo := by rw [List.getD_eq_getElem?_getD, hlo]; rfl
  have hdec2 : decode cc pc = .ok (.tableswitch (xe_off code pc ((sw.getD x []).getD 1 0)) (((sw.getD x []).getD 0 0 : Nat) - 2147483648) (((sw.getD x []).getD 0 0 : Nat) - 2147483648 + (((sw.getD x []).length - 2 : Nat) : Int) - 1) (((sw.getD x []).drop 2).map fun t => xe_off code pc t).toArray, ln) := hdec
  rw [e1, e2] at hdec2
  exact xn_sw C (w := w0) (pcOf := fun t => xe_pc (code.drop t)) hlo hdec2 (k := fun t S => xl xg_FD E9 X d sc code sw ex n (xq_drop t code) L S h nc ns) (show (xq_pop (a :: S1) fun a S => xj_sw w0 a fun t => xl xg_FD E9 X d sc code sw ex n (xq_drop t code) L S h nc ns) = some r from h4) (fun t S2 hk => hjump t L S2 h nc ns hk)
theorem xo_84 {E9 : xv_L} {X : xk_X} {n j pc ln  x y z w : Nat} {rest : List xv_I} {L : xv_L} {S : List xv_V} {h : List xv_O} {nc ns : Nat} (C : xf_C p R s m args meth c cc nL own ini A E d sc) (hF : xf_F s) (hX : ∀ (k : Nat) (as : List xv_V) (h : List xv_O) (R0 : xv_R), X k as h = some R0 → ∃ d', d = d' + 1 ∧ xw_M l E D A sc d' k as h R0)
    (hT : xh_T own code ex c r) (hO : xh_out p l e R s m args below meth c Q own A E D W0 r)
    (hret : ∀ (j pc ln op x y z w : Nat), code[j]? = some (pc, ln, op, x, y, z, w) → 84 ≤ op → op ≤ 88 → ∀ (L : xv_L) (S : List xv_V) (h : List xv_O) (nc ns : Nat), xr op z S h nc ns = some r → xf_G p l e R s m args below meth c Q nL A E D W0 pc L S h nc ns)
    (hnew : ∀ (j pc ln op x y z w : Nat), code[j]? = some (pc, ln, op, x, y, z, w) → (op = 90 ∨ op = 91) → 6 ≤ d → ∀ (L : xv_L) (S : List xv_V) (h : List xv_O) (nc ns : Nat), S.length ≤ 4 → r = (2 + x, (2, 0, 0), h, nc + 1, ns + 6) → xf_G p l e R s m args below meth c Q nL A E D W0 pc L S h nc ns)
    (hi : code[j]? = some (pc, ln, 84, x, y, z, w)) (hdec : decode cc pc = .ok (xe_ins code sw (pc, ln, 84, x, y, z, w), ln)) (hcnd : xe_cnd nL ini sw (pc, ln, 84, x, y, z, w) = true) (hsite : xi_need 84 = true → xi_site own (84, x, y, z, w))
    (hm : ∀ {is : List xv_I} {L : xv_L} {S : List xv_V} {h : List xv_O} {nc ns : Nat}, xl xg_FD E9 X d sc code sw ex n is L S h nc ns = some r → nc ≤ r.2.2.2.1 ∧ ns ≤ r.2.2.2.2)
    (hnext : xh_go p l e R s m args below meth c Q nL A E D W0 (fun is => xl xg_FD E9 X d sc code sw ex n is) rest (pc + ln) r) (hjump : ∀ t, xh_go p l e R s m args below meth c Q nL A E D W0 (fun is => xl xg_FD E9 X d sc code sw ex n is) (xq_drop t code) (xe_pc (code.drop t)) r)
    (h1 : xl_far xg_FD E9 X d sc code sw ex n pc 84 x y z rest L S h nc ns = some r) (hc : r.2.2.2.1 ≤ R.cells) (hs : r.2.2.2.2 ≤ R.slots) : xf_G p l e R s m args below meth c Q nL A E D W0 pc L S h nc ns := by
  exact hret j pc ln 84 x y z w hi (by decide) (by decide) L S h nc ns h1
theorem xo_85 {E9 : xv_L} {X : xk_X} {n j pc ln  x y z w : Nat} {rest : List xv_I} {L : xv_L} {S : List xv_V} {h : List xv_O} {nc ns : Nat} (C : xf_C p R s m args meth c cc nL own ini A E d sc) (hF : xf_F s) (hX : ∀ (k : Nat) (as : List xv_V) (h : List xv_O) (R0 : xv_R), X k as h = some R0 → ∃ d', d = d' + 1 ∧ xw_M l E D A sc d' k as h R0)
    (hT : xh_T own code ex c r) (hO : xh_out p l e R s m args below meth c Q own A E D W0 r)
    (hret : ∀ (j pc ln op x y z w : Nat), code[j]? = some (pc, ln, op, x, y, z, w) → 84 ≤ op → op ≤ 88 → ∀ (L : xv_L) (S : List xv_V) (h : List xv_O) (nc ns : Nat), xr op z S h nc ns = some r → xf_G p l e R s m args below meth c Q nL A E D W0 pc L S h nc ns)
    (hnew : ∀ (j pc ln op x y z w : Nat), code[j]? = some (pc, ln, op, x, y, z, w) → (op = 90 ∨ op = 91) → 6 ≤ d → ∀ (L : xv_L) (S : List xv_V) (h : List xv_O) (nc ns : Nat), S.length ≤ 4 → r = (2 + x, (2, 0, 0), h, nc + 1, ns + 6) → xf_G p l e R s m args below meth c Q nL A E D W0 pc L S h nc ns)
    (hi : code[j]? = some (pc, ln, 85, x, y, z, w)) (hdec : decode cc pc = .ok (xe_ins code sw (pc, ln, 85, x, y, z, w), ln)) (hcnd : xe_cnd nL ini sw (pc, ln, 85, x, y, z, w) = true) (hsite : xi_need 85 = true → xi_site own (85, x, y, z, w))
    (hm : ∀ {is : List xv_I} {L : xv_L} {S : List xv_V} {h : List xv_O} {nc ns : Nat}, xl xg_FD E9 X d sc code sw ex n is L S h nc ns = some r → nc ≤ r.2.2.2.1 ∧ ns ≤ r.2.2.2.2)
    (hnext : xh_go p l e R s m args below meth c Q nL A E D W0 (fun is => xl xg_FD E9 X d sc code sw ex n is) rest (pc + ln) r) (hjump : ∀ t, xh_go p l e R s m args below meth c Q nL A E D W0 (fun is => xl xg_FD E9 X d sc code sw ex n is) (xq_drop t code) (xe_pc (code.drop t)) r)
    (h1 : xl_far xg_FD E9 X d sc code sw ex n pc 85 x y z rest L S h nc ns = some r) (hc : r.2.2.2.1 ≤ R.cells) (hs : r.2.2.2.2 ≤ R.slots) : xf_G p l e R s m args below meth c Q nL A E D W0 pc L S h nc ns := by
  exact hret j pc ln 85 x y z w hi (by decide) (by decide) L S h nc ns h1
theorem xo_86 {E9 : xv_L} {X : xk_X} {n j pc ln  x y z w : Nat} {rest : List xv_I} {L : xv_L} {S : List xv_V} {h : List xv_O} {nc ns : Nat} (C : xf_C p R s m args meth c cc nL own ini A E d sc) (hF : xf_F s) (hX : ∀ (k : Nat) (as : List xv_V) (h : List xv_O) (R0 : xv_R), X k as h = some R0 → ∃ d', d = d' + 1 ∧ xw_M l E D A sc d' k as h R0)
    (hT : xh_T own code ex c r) (hO : xh_out p l e R s m args below meth c Q own A E D W0 r)
    (hret : ∀ (j pc ln op x y z w : Nat), code[j]? = some (pc, ln, op, x, y, z, w) → 84 ≤ op → op ≤ 88 → ∀ (L : xv_L) (S : List xv_V) (h : List xv_O) (nc ns : Nat), xr op z S h nc ns = some r → xf_G p l e R s m args below meth c Q nL A E D W0 pc L S h nc ns)
    (hnew : ∀ (j pc ln op x y z w : Nat), code[j]? = some (pc, ln, op, x, y, z, w) → (op = 90 ∨ op = 91) → 6 ≤ d → ∀ (L : xv_L) (S : List xv_V) (h : List xv_O) (nc ns : Nat), S.length ≤ 4 → r = (2 + x, (2, 0, 0), h, nc + 1, ns + 6) → xf_G p l e R s m args below meth c Q nL A E D W0 pc L S h nc ns)
    (hi : code[j]? = some (pc, ln, 86, x, y, z, w)) (hdec : decode cc pc = .ok (xe_ins code sw (pc, ln, 86, x, y, z, w), ln)) (hcnd : xe_cnd nL ini sw (pc, ln, 86, x, y, z, w) = true) (hsite : xi_need 86 = true → xi_site own (86, x, y, z, w))
    (hm : ∀ {is : List xv_I} {L : xv_L} {S : List xv_V} {h : List xv_O} {nc ns : Nat}, xl xg_FD E9 X d sc code sw ex n is L S h nc ns = some r → nc ≤ r.2.2.2.1 ∧ ns ≤ r.2.2.2.2)
    (hnext : xh_go p l e R s m args below meth c Q nL A E D W0 (fun is => xl xg_FD E9 X d sc code sw ex n is) rest (pc + ln) r) (hjump : ∀ t, xh_go p l e R s m args below meth c Q nL A E D W0 (fun is => xl xg_FD E9 X d sc code sw ex n is) (xq_drop t code) (xe_pc (code.drop t)) r)
    (h1 : xl_far xg_FD E9 X d sc code sw ex n pc 86 x y z rest L S h nc ns = some r) (hc : r.2.2.2.1 ≤ R.cells) (hs : r.2.2.2.2 ≤ R.slots) : xf_G p l e R s m args below meth c Q nL A E D W0 pc L S h nc ns := by
  exact hret j pc ln 86 x y z w hi (by decide) (by decide) L S h nc ns h1
theorem xo_87 {E9 : xv_L} {X : xk_X} {n j pc ln  x y z w : Nat} {rest : List xv_I} {L : xv_L} {S : List xv_V} {h : List xv_O} {nc ns : Nat} (C : xf_C p R s m args meth c cc nL own ini A E d sc) (hF : xf_F s) (hX : ∀ (k : Nat) (as : List xv_V) (h : List xv_O) (R0 : xv_R), X k as h = some R0 → ∃ d', d = d' + 1 ∧ xw_M l E D A sc d' k as h R0)
    (hT : xh_T own code ex c r) (hO : xh_out p l e R s m args below meth c Q own A E D W0 r)
    (hret : ∀ (j pc ln op x y z w : Nat), code[j]? = some (pc, ln, op, x, y, z, w) → 84 ≤ op → op ≤ 88 → ∀ (L : xv_L) (S : List xv_V) (h : List xv_O) (nc ns : Nat), xr op z S h nc ns = some r → xf_G p l e R s m args below meth c Q nL A E D W0 pc L S h nc ns)
    (hnew : ∀ (j pc ln op x y z w : Nat), code[j]? = some (pc, ln, op, x, y, z, w) → (op = 90 ∨ op = 91) → 6 ≤ d → ∀ (L : xv_L) (S : List xv_V) (h : List xv_O) (nc ns : Nat), S.length ≤ 4 → r = (2 + x, (2, 0, 0), h, nc + 1, ns + 6) → xf_G p l e R s m args below meth c Q nL A E D W0 pc L S h nc ns)
    (hi : code[j]? = some (pc, ln, 87, x, y, z, w)) (hdec : decode cc pc = .ok (xe_ins code sw (pc, ln, 87, x, y, z, w), ln)) (hcnd : xe_cnd nL ini sw (pc, ln, 87, x, y, z, w) = true) (hsite : xi_need 87 = true → xi_site own (87, x, y, z, w))
    (hm : ∀ {is : List xv_I} {L : xv_L} {S : List xv_V} {h : List xv_O} {nc ns : Nat}, xl xg_FD E9 X d sc code sw ex n is L S h nc ns = some r → nc ≤ r.2.2.2.1 ∧ ns ≤ r.2.2.2.2)
    (hnext : xh_go p l e R s m args below meth c Q nL A E D W0 (fun is => xl xg_FD E9 X d sc code sw ex n is) rest (pc + ln) r) (hjump : ∀ t, xh_go p l e R s m args below meth c Q nL A E D W0 (fun is => xl xg_FD E9 X d sc code sw ex n is) (xq_drop t code) (xe_pc (code.drop t)) r)
    (h1 : xl_far xg_FD E9 X d sc code sw ex n pc 87 x y z rest L S h nc ns = some r) (hc : r.2.2.2.1 ≤ R.cells) (hs : r.2.2.2.2 ≤ R.slots) : xf_G p l e R s m args below meth c Q nL A E D W0 pc L S h nc ns := by
  exact hret j pc ln 87 x y z w hi (by decide) (by decide) L S h nc ns h1
theorem xo_88 {E9 : xv_L} {X : xk_X} {n j pc ln  x y z w : Nat} {rest : List xv_I} {L : xv_L} {S : List xv_V} {h : List xv_O} {nc ns : Nat} (C : xf_C p R s m args meth c cc nL own ini A E d sc) (hF : xf_F s) (hX : ∀ (k : Nat) (as : List xv_V) (h : List xv_O) (R0 : xv_R), X k as h = some R0 → ∃ d', d = d' + 1 ∧ xw_M l E D A sc d' k as h R0)
    (hT : xh_T own code ex c r) (hO : xh_out p l e R s m args below meth c Q own A E D W0 r)
    (hret : ∀ (j pc ln op x y z w : Nat), code[j]? = some (pc, ln, op, x, y, z, w) → 84 ≤ op → op ≤ 88 → ∀ (L : xv_L) (S : List xv_V) (h : List xv_O) (nc ns : Nat), xr op z S h nc ns = some r → xf_G p l e R s m args below meth c Q nL A E D W0 pc L S h nc ns)
    (hnew : ∀ (j pc ln op x y z w : Nat), code[j]? = some (pc, ln, op, x, y, z, w) → (op = 90 ∨ op = 91) → 6 ≤ d → ∀ (L : xv_L) (S : List xv_V) (h : List xv_O) (nc ns : Nat), S.length ≤ 4 → r = (2 + x, (2, 0, 0), h, nc + 1, ns + 6) → xf_G p l e R s m args below meth c Q nL A E D W0 pc L S h nc ns)
    (hi : code[j]? = some (pc, ln, 88, x, y, z, w)) (hdec : decode cc pc = .ok (xe_ins code sw (pc, ln, 88, x, y, z, w), ln)) (hcnd : xe_cnd nL ini sw (pc, ln, 88, x, y, z, w) = true) (hsite : xi_need 88 = true → xi_site own (88, x, y, z, w))
    (hm : ∀ {is : List xv_I} {L : xv_L} {S : List xv_V} {h : List xv_O} {nc ns : Nat}, xl xg_FD E9 X d sc code sw ex n is L S h nc ns = some r → nc ≤ r.2.2.2.1 ∧ ns ≤ r.2.2.2.2)
    (hnext : xh_go p l e R s m args below meth c Q nL A E D W0 (fun is => xl xg_FD E9 X d sc code sw ex n is) rest (pc + ln) r) (hjump : ∀ t, xh_go p l e R s m args below meth c Q nL A E D W0 (fun is => xl xg_FD E9 X d sc code sw ex n is) (xq_drop t code) (xe_pc (code.drop t)) r)
    (h1 : xl_far xg_FD E9 X d sc code sw ex n pc 88 x y z rest L S h nc ns = some r) (hc : r.2.2.2.1 ≤ R.cells) (hs : r.2.2.2.2 ≤ R.slots) : xf_G p l e R s m args below meth c Q nL A E D W0 pc L S h nc ns := by
  exact hret j pc ln 88 x y z w hi (by decide) (by decide) L S h nc ns h1
theorem xo_90 {E9 : xv_L} {X : xk_X} {n j pc ln  x y z w : Nat} {rest : List xv_I} {L : xv_L} {S : List xv_V} {h : List xv_O} {nc ns : Nat} (C : xf_C p R s m args meth c cc nL own ini A E d sc) (hF : xf_F s) (hX : ∀ (k : Nat) (as : List xv_V) (h : List xv_O) (R0 : xv_R), X k as h = some R0 → ∃ d', d = d' + 1 ∧ xw_M l E D A sc d' k as h R0)
    (hT : xh_T own code ex c r) (hO : xh_out p l e R s m args below meth c Q own A E D W0 r)
    (hret : ∀ (j pc ln op x y z w : Nat), code[j]? = some (pc, ln, op, x, y, z, w) → 84 ≤ op → op ≤ 88 → ∀ (L : xv_L) (S : List xv_V) (h : List xv_O) (nc ns : Nat), xr op z S h nc ns = some r → xf_G p l e R s m args below meth c Q nL A E D W0 pc L S h nc ns)
    (hnew : ∀ (j pc ln op x y z w : Nat), code[j]? = some (pc, ln, op, x, y, z, w) → (op = 90 ∨ op = 91) → 6 ≤ d → ∀ (L : xv_L) (S : List xv_V) (h : List xv_O) (nc ns : Nat), S.length ≤ 4 → r = (2 + x, (2, 0, 0), h, nc + 1, ns + 6) → xf_G p l e R s m args below meth c Q nL A E D W0 pc L S h nc ns)
    (hi : code[j]? = some (pc, ln, 90, x, y, z, w)) (hdec : decode cc pc = .ok (xe_ins code sw (pc, ln, 90, x, y, z, w), ln)) (hcnd : xe_cnd nL ini sw (pc, ln, 90, x, y, z, w) = true) (hsite : xi_need 90 = true → xi_site own (90, x, y, z, w))
    (hm : ∀ {is : List xv_I} {L : xv_L} {S : List xv_V} {h : List xv_O} {nc ns : Nat}, xl xg_FD E9 X d sc code sw ex n is L S h nc ns = some r → nc ≤ r.2.2.2.1 ∧ ns ≤ r.2.2.2.2)
    (hnext : xh_go p l e R s m args below meth c Q nL A E D W0 (fun is => xl xg_FD E9 X d sc code sw ex n is) rest (pc + ln) r) (hjump : ∀ t, xh_go p l e R s m args below meth c Q nL A E D W0 (fun is => xl xg_FD E9 X d sc code sw ex n is) (xq_drop t code) (xe_pc (code.drop t)) r)
    (h1 : xl_far xg_FD E9 X d sc code sw ex n pc 90 x y z rest L S h nc ns = some r) (hc : r.2.2.2.1 ≤ R.cells) (hs : r.2.2.2.2 ≤ R.slots) : xf_G p l e R s m args below meth c Q nL A E D W0 pc L S h nc ns := by
  have h2 : cond (and (Nat.ble 6 d) (Nat.ble (xq_len S) 4)) (some ((2 + x, (2, 0, 0), h, nc + 1, ns + 6) : xv_R)) none = some r := h1
  obtain ⟨g1, h3⟩ := xe_cond h2
  obtain ⟨g2, g3⟩ := xe_and g1
  have g3 := xe_ble g3
  rw [xq_len_eq] at g3
  exact hnew j pc ln 90 x y z w hi (Or.inl rfl) (xe_ble g2) L S h nc ns g3 (Option.some.inj h3).symm
theorem xo_91 {E9 : xv_L} {X : xk_X} {n j pc ln  x y z w : Nat} {rest : List xv_I} {L : xv_L} {S : List xv_V} {h : List xv_O} {nc ns : Nat} (C : xf_C p R s m args meth c cc nL own ini A E d sc) (hF : xf_F s) (hX : ∀ (k : Nat) (as : List xv_V) (h : List xv_O) (R0 : xv_R), X k as h = some R0 → ∃ d', d = d' + 1 ∧ xw_M l E D A sc d' k as h R0)
    (hT : xh_T own code ex c r) (hO : xh_out p l e R s m args below meth c Q own A E D W0 r)
    (hret : ∀ (j pc ln op x y z w : Nat), code[j]? = some (pc, ln, op, x, y, z, w) → 84 ≤ op → op ≤ 88 → ∀ (L : xv_L) (S : List xv_V) (h : List xv_O) (nc ns : Nat), xr op z S h nc ns = some r → xf_G p l e R s m args below meth c Q nL A E D W0 pc L S h nc ns)
    (hnew : ∀ (j pc ln op x y z w : Nat), code[j]? = some (pc, ln, op, x, y, z, w) → (op = 90 ∨ op = 91) → 6 ≤ d → ∀ (L : xv_L) (S : List xv_V) (h : List xv_O) (nc ns : Nat), S.length ≤ 4 → r = (2 + x, (2, 0, 0), h, nc + 1, ns + 6) → xf_G p l e R s m args below meth c Q nL A E D W0 pc L S h nc ns)
    (hi : code[j]? = some (pc, ln, 91, x, y, z, w)) (hdec : decode cc pc = .ok (xe_ins code sw (pc, ln, 91, x, y, z, w), ln)) (hcnd : xe_cnd nL ini sw (pc, ln, 91, x, y, z, w) = true) (hsite : xi_need 91 = true → xi_site own (91, x, y, z, w))
    (hm : ∀ {is : List xv_I} {L : xv_L} {S : List xv_V} {h : List xv_O} {nc ns : Nat}, xl xg_FD E9 X d sc code sw ex n is L S h nc ns = some r → nc ≤ r.2.2.2.1 ∧ ns ≤ r.2.2.2.2)
    (hnext : xh_go p l e R s m args below meth c Q nL A E D W0 (fun is => xl xg_FD E9 X d sc code sw ex n is) rest (pc + ln) r) (hjump : ∀ t, xh_go p l e R s m args below meth c Q nL A E D W0 (fun is => xl xg_FD E9 X d sc code sw ex n is) (xq_drop t code) (xe_pc (code.drop t)) r)
    (h1 : xl_far xg_FD E9 X d sc code sw ex n pc 91 x y z rest L S h nc ns = some r) (hc : r.2.2.2.1 ≤ R.cells) (hs : r.2.2.2.2 ≤ R.slots) : xf_G p l e R s m args below meth c Q nL A E D W0 pc L S h nc ns := by
  have h2 : cond (and (Nat.ble 6 d) (Nat.ble (xq_len S) 4)) (some ((2 + x, (2, 0, 0), h, nc + 1, ns + 6) : xv_R)) none = some r := h1
  obtain ⟨g1, h3⟩ := xe_cond h2
  obtain ⟨g2, g3⟩ := xe_and g1
  have g3 := xe_ble g3
  rw [xq_len_eq] at g3
  exact hnew j pc ln 91 x y z w hi (Or.inr rfl) (xe_ble g2) L S h nc ns g3 (Option.some.inj h3).symm
theorem xo_96 {E9 : xv_L} {X : xk_X} {n j pc ln  x y z w : Nat} {rest : List xv_I} {L : xv_L} {S : List xv_V} {h : List xv_O} {nc ns : Nat} (C : xf_C p R s m args meth c cc nL own ini A E d sc) (hF : xf_F s) (hX : ∀ (k : Nat) (as : List xv_V) (h : List xv_O) (R0 : xv_R), X k as h = some R0 → ∃ d', d = d' + 1 ∧ xw_M l E D A sc d' k as h R0)
    (hT : xh_T own code ex c r) (hO : xh_out p l e R s m args below meth c Q own A E D W0 r)
    (hret : ∀ (j pc ln op x y z w : Nat), code[j]? = some (pc, ln, op, x, y, z, w) → 84 ≤ op → op ≤ 88 → ∀ (L : xv_L) (S : List xv_V) (h : List xv_O) (nc ns : Nat), xr op z S h nc ns = some r → xf_G p l e R s m args below meth c Q nL A E D W0 pc L S h nc ns)
    (hnew : ∀ (j pc ln op x y z w : Nat), code[j]? = some (pc, ln, op, x, y, z, w) → (op = 90 ∨ op = 91) → 6 ≤ d → ∀ (L : xv_L) (S : List xv_V) (h : List xv_O) (nc ns : Nat), S.length ≤ 4 → r = (2 + x, (2, 0, 0), h, nc + 1, ns + 6) → xf_G p l e R s m args below meth c Q nL A E D W0 pc L S h nc ns)
    (hi : code[j]? = some (pc, ln, 96, x, y, z, w)) (hdec : decode cc pc = .ok (xe_ins code sw (pc, ln, 96, x, y, z, w), ln)) (hcnd : xe_cnd nL ini sw (pc, ln, 96, x, y, z, w) = true) (hsite : xi_need 96 = true → xi_site own (96, x, y, z, w))
    (hm : ∀ {is : List xv_I} {L : xv_L} {S : List xv_V} {h : List xv_O} {nc ns : Nat}, xl xg_FD E9 X d sc code sw ex n is L S h nc ns = some r → nc ≤ r.2.2.2.1 ∧ ns ≤ r.2.2.2.2)
    (hnext : xh_go p l e R s m args below meth c Q nL A E D W0 (fun is => xl xg_FD E9 X d sc code sw ex n is) rest (pc + ln) r) (hjump : ∀ t, xh_go p l e R s m args below meth c Q nL A E D W0 (fun is => xl xg_FD E9 X d sc code sw ex n is) (xq_drop t code) (xe_pc (code.drop t)) r)
    (h1 : xl_far xg_FD E9 X d sc code sw ex n pc 96 x y z rest L S h nc ns = some r) (hc : r.2.2.2.1 ≤ R.cells) (hs : r.2.2.2.2 ≤ R.slots) : xf_G p l e R s m args below meth c Q nL A E D W0 pc L S h nc ns := by
  have hln : ln = 3 := xe_lnOf hcnd rfl; subst hln
  have h2 : (xq_take y S [] fun as S => cond (Nat.ble (xq_len S) 4) (xq_opt (X x as h) fun R0 => xa R0 pc code rest ex (fun is => xl xg_FD E9 X d sc code sw ex n is) L S nc ns) none) = some r := h1
  obtain ⟨as, S1, hlen, rfl, h3⟩ := xe_take _ h2
  rw [List.append_nil] at h3
  obtain ⟨g1, h4⟩ := xe_cond h3
  have g1 := xe_ble g1
  rw [xq_len_eq] at g1
  obtain ⟨R0, hR0, h5⟩ := xe_opt h4
  obtain ⟨d1, rfl, hMt⟩ := hX _ _ _ _ hR0
  have hb : nc + R0.2.2.2.1 ≤ r.2.2.2.1 ∧ ns + R0.2.2.2.2 ≤ r.2.2.2.2 := by
    rcases xp_a h5 with ⟨_, _, _, _, h6⟩ | h6
    · exact hm h6
    · rw [h6]; exact ⟨Nat.le_refl _, Nat.le_refl _⟩
  intro ls stk H locs hR
  obtain ⟨ws, tys, lv, r1, r2, r3, r4, hK, hP, hD, hS, hM⟩ := hR
  obtain ⟨st, aa, q2, hr⟩ := xn_c96 C hF (hsite rfl) hdec hlen g1 hMt (Nat.le_trans hb.1 hc) (Nat.le_trans hb.2 hs) r1 r3 r4 hK hP hD hS
  exact xn_after C.2.2.2.1 C.2.2.2.2.1 hF hT hO hnext hjump r1 r2 q2 hS hM hr h5
theorem xo_97 {E9 : xv_L} {X : xk_X} {n j pc ln  x y z w : Nat} {rest : List xv_I} {L : xv_L} {S : List xv_V} {h : List xv_O} {nc ns : Nat} (C : xf_C p R s m args meth c cc nL own ini A E d sc) (hF : xf_F s) (hX : ∀ (k : Nat) (as : List xv_V) (h : List xv_O) (R0 : xv_R), X k as h = some R0 → ∃ d', d = d' + 1 ∧ xw_M l E D A sc d' k as h R0)
    (hT : xh_T own code ex c r) (hO : xh_out p l e R s m args below meth c Q own A E D W0 r)
    (hret : ∀ (j pc ln op x y z w : Nat), code[j]? = some (pc, ln, op, x, y, z, w) → 84 ≤ op → op ≤ 88 → ∀ (L : xv_L) (S : List xv_V) (h : List xv_O) (nc ns : Nat), xr op z S h nc ns = some r → xf_G p l e R s m args below meth c Q nL A E D W0 pc L S h nc ns)
    (hnew : ∀ (j pc ln op x y z w : Nat), code[j]? = some (pc, ln, op, x, y, z, w) → (op = 90 ∨ op = 91) → 6 ≤ d → ∀ (L : xv_L) (S : List xv_V) (h : List xv_O) (nc ns : Nat), S.length ≤ 4 → r = (2 + x, (2, 0, 0), h, nc + 1, ns + 6) → xf_G p l e R s m args below meth c Q nL A E D W0 pc L S h nc ns)
    (hi : code[j]? = some (pc, ln, 97, x, y, z, w)) (hdec : decode cc pc = .ok (xe_ins code sw (pc, ln, 97, x, y, z, w), ln)) (hcnd : xe_cnd nL ini sw (pc, ln, 97, x, y, z, w) = true) (hsite : xi_need 97 = true → xi_site own (97, x, y, z, w))
    (hm : ∀ {is : List xv_I} {L : xv_L} {S : List xv_V} {h : List xv_O} {nc ns : Nat}, xl xg_FD E9 X d sc code sw ex n is L S h nc ns = some r → nc ≤ r.2.2.2.1 ∧ ns ≤ r.2.2.2.2)
    (hnext : xh_go p l e R s m args below meth c Q nL A E D W0 (fun is => xl xg_FD E9 X d sc code sw ex n is) rest (pc + ln) r) (hjump : ∀ t, xh_go p l e R s m args below meth c Q nL A E D W0 (fun is => xl xg_FD E9 X d sc code sw ex n is) (xq_drop t code) (xe_pc (code.drop t)) r)
    (h1 : xl_far xg_FD E9 X d sc code sw ex n pc 97 x y z rest L S h nc ns = some r) (hc : r.2.2.2.1 ≤ R.cells) (hs : r.2.2.2.2 ≤ R.slots) : xf_G p l e R s m args below meth c Q nL A E D W0 pc L S h nc ns := by
  have hln : ln = 3 := xe_lnOf hcnd rfl; subst hln
  have h2 : (xq_take y S [] fun as S => cond (Nat.ble (xq_len S) 4) (xq_opt (X x as h) fun R0 => xa R0 pc code rest ex (fun is => xl xg_FD E9 X d sc code sw ex n is) L S nc ns) none) = some r := h1
  obtain ⟨as, S1, hlen, rfl, h3⟩ := xe_take _ h2
  rw [List.append_nil] at h3
  obtain ⟨g1, h4⟩ := xe_cond h3
  have g1 := xe_ble g1
  rw [xq_len_eq] at g1
  obtain ⟨R0, hR0, h5⟩ := xe_opt h4
  obtain ⟨d1, rfl, hMt⟩ := hX _ _ _ _ hR0
  have hb : nc + R0.2.2.2.1 ≤ r.2.2.2.1 ∧ ns + R0.2.2.2.2 ≤ r.2.2.2.2 := by
    rcases xp_a h5 with ⟨_, _, _, _, h6⟩ | h6
    · exact hm h6
    · rw [h6]; exact ⟨Nat.le_refl _, Nat.le_refl _⟩
  intro ls stk H locs hR
  obtain ⟨ws, tys, lv, r1, r2, r3, r4, hK, hP, hD, hS, hM⟩ := hR
  obtain ⟨st, aa, q2, hr⟩ := xn_c97 C hF (hsite rfl) hdec hlen g1 hMt (Nat.le_trans hb.1 hc) (Nat.le_trans hb.2 hs) r1 r3 r4 hK hP hD hS
  exact xn_after C.2.2.2.1 C.2.2.2.2.1 hF hT hO hnext hjump r1 r2 q2 hS hM hr h5
theorem xo_98 {E9 : xv_L} {X : xk_X} {n j pc ln  x y z w : Nat} {rest : List xv_I} {L : xv_L} {S : List xv_V} {h : List xv_O} {nc ns : Nat} (C : xf_C p R s m args meth c cc nL own ini A E d sc) (hF : xf_F s) (hX : ∀ (k : Nat) (as : List xv_V) (h : List xv_O) (R0 : xv_R), X k as h = some R0 → ∃ d', d = d' + 1 ∧ xw_M l E D A sc d' k as h R0)
    (hT : xh_T own code ex c r) (hO : xh_out p l e R s m args below meth c Q own A E D W0 r)
    (hret : ∀ (j pc ln op x y z w : Nat), code[j]? = some (pc, ln, op, x, y, z, w) → 84 ≤ op → op ≤ 88 → ∀ (L : xv_L) (S : List xv_V) (h : List xv_O) (nc ns : Nat), xr op z S h nc ns = some r → xf_G p l e R s m args below meth c Q nL A E D W0 pc L S h nc ns)
    (hnew : ∀ (j pc ln op x y z w : Nat), code[j]? = some (pc, ln, op, x, y, z, w) → (op = 90 ∨ op = 91) → 6 ≤ d → ∀ (L : xv_L) (S : List xv_V) (h : List xv_O) (nc ns : Nat), S.length ≤ 4 → r = (2 + x, (2, 0, 0), h, nc + 1, ns + 6) → xf_G p l e R s m args below meth c Q nL A E D W0 pc L S h nc ns)
    (hi : code[j]? = some (pc, ln, 98, x, y, z, w)) (hdec : decode cc pc = .ok (xe_ins code sw (pc, ln, 98, x, y, z, w), ln)) (hcnd : xe_cnd nL ini sw (pc, ln, 98, x, y, z, w) = true) (hsite : xi_need 98 = true → xi_site own (98, x, y, z, w))
    (hm : ∀ {is : List xv_I} {L : xv_L} {S : List xv_V} {h : List xv_O} {nc ns : Nat}, xl xg_FD E9 X d sc code sw ex n is L S h nc ns = some r → nc ≤ r.2.2.2.1 ∧ ns ≤ r.2.2.2.2)
    (hnext : xh_go p l e R s m args below meth c Q nL A E D W0 (fun is => xl xg_FD E9 X d sc code sw ex n is) rest (pc + ln) r) (hjump : ∀ t, xh_go p l e R s m args below meth c Q nL A E D W0 (fun is => xl xg_FD E9 X d sc code sw ex n is) (xq_drop t code) (xe_pc (code.drop t)) r)
    (h1 : xl_far xg_FD E9 X d sc code sw ex n pc 98 x y z rest L S h nc ns = some r) (hc : r.2.2.2.1 ≤ R.cells) (hs : r.2.2.2.2 ≤ R.slots) : xf_G p l e R s m args below meth c Q nL A E D W0 pc L S h nc ns := by
  have hln : ln = 3 := xe_lnOf hcnd rfl; subst hln
  have h2 : (xq_take y S [] fun as S => xq_pop S fun o S => xq_obj h o fun t c0 _ => cond (and (Nat.beq t 0) (and (or true (Nat.beq c0 z)) (Nat.ble (xq_len S) 4))) (xq_opt (X x (o :: as) h) fun R0 => xa R0 pc code rest ex (fun is => xl xg_FD E9 X d sc code sw ex n is) L S nc ns) none) = some r := h1
  obtain ⟨as, S0, hlen, rfl, h3⟩ := xe_take _ h2
  rw [List.append_nil] at h3
  obtain ⟨o, S1, rfl, h4⟩ := xe_pop h3
  obtain ⟨ho, t, c0, es, hh, h5⟩ := xe_obj h4
  obtain ⟨g1, h6⟩ := xe_cond h5
  obtain ⟨g2, g3⟩ := xe_and g1
  obtain ⟨g4, g5⟩ := xe_and g3
  have g5 := xe_ble g5
  rw [xq_len_eq] at g5
  obtain ⟨R0, hR0, h7⟩ := xe_opt h6
  obtain ⟨d1, rfl, hMt⟩ := hX _ _ _ _ hR0
  have hb : nc + R0.2.2.2.1 ≤ r.2.2.2.1 ∧ ns + R0.2.2.2.2 ≤ r.2.2.2.2 := by
    rcases xp_a h7 with ⟨_, _, _, _, h8⟩ | h8
    · exact hm h8
    · rw [h8]; exact ⟨Nat.le_refl _, Nat.le_refl _⟩
  intro ls stk H locs hR
  obtain ⟨ws, tys, lv, r1, r2, r3, r4, hK, hP, hD, hS, hM⟩ := hR
  obtain ⟨st, aa, q2, hr⟩ := xn_c98 C hF (hsite rfl) hdec hlen g5 ho hh (xe_beq g2) hMt (Nat.le_trans hb.1 hc) (Nat.le_trans hb.2 hs) r1 r3 r4 hK hP hD hS
  exact xn_after C.2.2.2.1 C.2.2.2.2.1 hF hT hO hnext hjump r1 r2 q2 hS hM hr h7
theorem xo_99 {E9 : xv_L} {X : xk_X} {n j pc ln  x y z w : Nat} {rest : List xv_I} {L : xv_L} {S : List xv_V} {h : List xv_O} {nc ns : Nat} (C : xf_C p R s m args meth c cc nL own ini A E d sc) (hF : xf_F s) (hX : ∀ (k : Nat) (as : List xv_V) (h : List xv_O) (R0 : xv_R), X k as h = some R0 → ∃ d', d = d' + 1 ∧ xw_M l E D A sc d' k as h R0)
    (hT : xh_T own code ex c r) (hO : xh_out p l e R s m args below meth c Q own A E D W0 r)
    (hret : ∀ (j pc ln op x y z w : Nat), code[j]? = some (pc, ln, op, x, y, z, w) → 84 ≤ op → op ≤ 88 → ∀ (L : xv_L) (S : List xv_V) (h : List xv_O) (nc ns : Nat), xr op z S h nc ns = some r → xf_G p l e R s m args below meth c Q nL A E D W0 pc L S h nc ns)
    (hnew : ∀ (j pc ln op x y z w : Nat), code[j]? = some (pc, ln, op, x, y, z, w) → (op = 90 ∨ op = 91) → 6 ≤ d → ∀ (L : xv_L) (S : List xv_V) (h : List xv_O) (nc ns : Nat), S.length ≤ 4 → r = (2 + x, (2, 0, 0), h, nc + 1, ns + 6) → xf_G p l e R s m args below meth c Q nL A E D W0 pc L S h nc ns)
    (hi : code[j]? = some (pc, ln, 99, x, y, z, w)) (hdec : decode cc pc = .ok (xe_ins code sw (pc, ln, 99, x, y, z, w), ln)) (hcnd : xe_cnd nL ini sw (pc, ln, 99, x, y, z, w) = true) (hsite : xi_need 99 = true → xi_site own (99, x, y, z, w))
    (hm : ∀ {is : List xv_I} {L : xv_L} {S : List xv_V} {h : List xv_O} {nc ns : Nat}, xl xg_FD E9 X d sc code sw ex n is L S h nc ns = some r → nc ≤ r.2.2.2.1 ∧ ns ≤ r.2.2.2.2)
    (hnext : xh_go p l e R s m args below meth c Q nL A E D W0 (fun is => xl xg_FD E9 X d sc code sw ex n is) rest (pc + ln) r) (hjump : ∀ t, xh_go p l e R s m args below meth c Q nL A E D W0 (fun is => xl xg_FD E9 X d sc code sw ex n is) (xq_drop t code) (xe_pc (code.drop t)) r)
    (h1 : xl_far xg_FD E9 X d sc code sw ex n pc 99 x y z rest L S h nc ns = some r) (hc : r.2.2.2.1 ≤ R.cells) (hs : r.2.2.2.2 ≤ R.slots) : xf_G p l e R s m args below meth c Q nL A E D W0 pc L S h nc ns := by
  have hln : ln = 3 := xe_lnOf hcnd rfl; subst hln
  have h2 : (xq_take y S [] fun as S => xq_pop S fun o S => xq_obj h o fun t c0 _ => cond (and (Nat.beq t 0) (and (or true (Nat.beq c0 z)) (Nat.ble (xq_len S) 4))) (xq_opt (X x (o :: as) h) fun R0 => xa R0 pc code rest ex (fun is => xl xg_FD E9 X d sc code sw ex n is) L S nc ns) none) = some r := h1
  obtain ⟨as, S0, hlen, rfl, h3⟩ := xe_take _ h2
  rw [List.append_nil] at h3
  obtain ⟨o, S1, rfl, h4⟩ := xe_pop h3
  obtain ⟨ho, t, c0, es, hh, h5⟩ := xe_obj h4
  obtain ⟨g1, h6⟩ := xe_cond h5
  obtain ⟨g2, g3⟩ := xe_and g1
  obtain ⟨g4, g5⟩ := xe_and g3
  have g5 := xe_ble g5
  rw [xq_len_eq] at g5
  obtain ⟨R0, hR0, h7⟩ := xe_opt h6
  obtain ⟨d1, rfl, hMt⟩ := hX _ _ _ _ hR0
  have hb : nc + R0.2.2.2.1 ≤ r.2.2.2.1 ∧ ns + R0.2.2.2.2 ≤ r.2.2.2.2 := by
    rcases xp_a h7 with ⟨_, _, _, _, h8⟩ | h8
    · exact hm h8
    · rw [h8]; exact ⟨Nat.le_refl _, Nat.le_refl _⟩
  intro ls stk H locs hR
  obtain ⟨ws, tys, lv, r1, r2, r3, r4, hK, hP, hD, hS, hM⟩ := hR
  obtain ⟨st, aa, q2, hr⟩ := xn_c99 C hF (hsite rfl) hdec hlen g5 ho hh (xe_beq g2) hMt (Nat.le_trans hb.1 hc) (Nat.le_trans hb.2 hs) r1 r3 r4 hK hP hD hS
  exact xn_after C.2.2.2.1 C.2.2.2.2.1 hF hT hO hnext hjump r1 r2 q2 hS hM hr h7
theorem xo_100 {E9 : xv_L} {X : xk_X} {n j pc ln  x y z w : Nat} {rest : List xv_I} {L : xv_L} {S : List xv_V} {h : List xv_O} {nc ns : Nat} (C : xf_C p R s m args meth c cc nL own ini A E d sc) (hF : xf_F s) (hX : ∀ (k : Nat) (as : List xv_V) (h : List xv_O) (R0 : xv_R), X k as h = some R0 → ∃ d', d = d' + 1 ∧ xw_M l E D A sc d' k as h R0)
    (hT : xh_T own code ex c r) (hO : xh_out p l e R s m args below meth c Q own A E D W0 r)
    (hret : ∀ (j pc ln op x y z w : Nat), code[j]? = some (pc, ln, op, x, y, z, w) → 84 ≤ op → op ≤ 88 → ∀ (L : xv_L) (S : List xv_V) (h : List xv_O) (nc ns : Nat), xr op z S h nc ns = some r → xf_G p l e R s m args below meth c Q nL A E D W0 pc L S h nc ns)
    (hnew : ∀ (j pc ln op x y z w : Nat), code[j]? = some (pc, ln, op, x, y, z, w) → (op = 90 ∨ op = 91) → 6 ≤ d → ∀ (L : xv_L) (S : List xv_V) (h : List xv_O) (nc ns : Nat), S.length ≤ 4 → r = (2 + x, (2, 0, 0), h, nc + 1, ns + 6) → xf_G p l e R s m args below meth c Q nL A E D W0 pc L S h nc ns)
    (hi : code[j]? = some (pc, ln, 100, x, y, z, w)) (hdec : decode cc pc = .ok (xe_ins code sw (pc, ln, 100, x, y, z, w), ln)) (hcnd : xe_cnd nL ini sw (pc, ln, 100, x, y, z, w) = true) (hsite : xi_need 100 = true → xi_site own (100, x, y, z, w))
    (hm : ∀ {is : List xv_I} {L : xv_L} {S : List xv_V} {h : List xv_O} {nc ns : Nat}, xl xg_FD E9 X d sc code sw ex n is L S h nc ns = some r → nc ≤ r.2.2.2.1 ∧ ns ≤ r.2.2.2.2)
    (hnext : xh_go p l e R s m args below meth c Q nL A E D W0 (fun is => xl xg_FD E9 X d sc code sw ex n is) rest (pc + ln) r) (hjump : ∀ t, xh_go p l e R s m args below meth c Q nL A E D W0 (fun is => xl xg_FD E9 X d sc code sw ex n is) (xq_drop t code) (xe_pc (code.drop t)) r)
    (h1 : xl_far xg_FD E9 X d sc code sw ex n pc 100 x y z rest L S h nc ns = some r) (hc : r.2.2.2.1 ≤ R.cells) (hs : r.2.2.2.2 ≤ R.slots) : xf_G p l e R s m args below meth c Q nL A E D W0 pc L S h nc ns := by
  have hln : ln = 3 := xe_lnOf hcnd rfl; subst hln
  have h2 : (xq_take y S [] fun as S => xq_pop S fun o S => xq_obj h o fun t c0 _ => cond (and (Nat.beq t 0) (and (or false (Nat.beq c0 z)) (Nat.ble (xq_len S) 4))) (xq_opt (X x (o :: as) h) fun R0 => xa R0 pc code rest ex (fun is => xl xg_FD E9 X d sc code sw ex n is) L S nc ns) none) = some r := h1
  obtain ⟨as, S0, hlen, rfl, h3⟩ := xe_take _ h2
  rw [List.append_nil] at h3
  obtain ⟨o, S1, rfl, h4⟩ := xe_pop h3
  obtain ⟨ho, t, c0, es, hh, h5⟩ := xe_obj h4
  obtain ⟨g1, h6⟩ := xe_cond h5
  obtain ⟨g2, g3⟩ := xe_and g1
  obtain ⟨g4, g5⟩ := xe_and g3
  have g5 := xe_ble g5
  rw [xq_len_eq] at g5
  have g6 : c0 = z := by
    rcases xe_or g4 with h | h
    · cases h
    · exact xe_beq h
  obtain ⟨R0, hR0, h7⟩ := xe_opt h6
  obtain ⟨d1, rfl, hMt⟩ := hX _ _ _ _ hR0
  have hb : nc + R0.2.2.2.1 ≤ r.2.2.2.1 ∧ ns + R0.2.2.2.2 ≤ r.2.2.2.2 := by
    rcases xp_a h7 with ⟨_, _, _, _, h8⟩ | h8
    · exact hm h8
    · rw [h8]; exact ⟨Nat.le_refl _, Nat.le_refl _⟩
  intro ls stk H locs hR
  obtain ⟨ws, tys, lv, r1, r2, r3, r4, hK, hP, hD, hS, hM⟩ := hR
  obtain ⟨st, aa, q2, hr⟩ := xn_c100 C hF (hsite rfl) hdec hlen g5 ho hh (xe_beq g2) g6 hMt (Nat.le_trans hb.1 hc) (Nat.le_trans hb.2 hs) r1 r3 r4 hK hP hD hS
  exact xn_after C.2.2.2.1 C.2.2.2.2.1 hF hT hO hnext hjump r1 r2 q2 hS hM hr h7
theorem xo_101 {E9 : xv_L} {X : xk_X} {n j pc ln  x y z w : Nat} {rest : List xv_I} {L : xv_L} {S : List xv_V} {h : List xv_O} {nc ns : Nat} (C : xf_C p R s m args meth c cc nL own ini A E d sc) (hF : xf_F s) (hX : ∀ (k : Nat) (as : List xv_V) (h : List xv_O) (R0 : xv_R), X k as h = some R0 → ∃ d', d = d' + 1 ∧ xw_M l E D A sc d' k as h R0)
    (hT : xh_T own code ex c r) (hO : xh_out p l e R s m args below meth c Q own A E D W0 r)
    (hret : ∀ (j pc ln op x y z w : Nat), code[j]? = some (pc, ln, op, x, y, z, w) → 84 ≤ op → op ≤ 88 → ∀ (L : xv_L) (S : List xv_V) (h : List xv_O) (nc ns : Nat), xr op z S h nc ns = some r → xf_G p l e R s m args below meth c Q nL A E D W0 pc L S h nc ns)
    (hnew : ∀ (j pc ln op x y z w : Nat), code[j]? = some (pc, ln, op, x, y, z, w) → (op = 90 ∨ op = 91) → 6 ≤ d → ∀ (L : xv_L) (S : List xv_V) (h : List xv_O) (nc ns : Nat), S.length ≤ 4 → r = (2 + x, (2, 0, 0), h, nc + 1, ns + 6) → xf_G p l e R s m args below meth c Q nL A E D W0 pc L S h nc ns)
    (hi : code[j]? = some (pc, ln, 101, x, y, z, w)) (hdec : decode cc pc = .ok (xe_ins code sw (pc, ln, 101, x, y, z, w), ln)) (hcnd : xe_cnd nL ini sw (pc, ln, 101, x, y, z, w) = true) (hsite : xi_need 101 = true → xi_site own (101, x, y, z, w))
    (hm : ∀ {is : List xv_I} {L : xv_L} {S : List xv_V} {h : List xv_O} {nc ns : Nat}, xl xg_FD E9 X d sc code sw ex n is L S h nc ns = some r → nc ≤ r.2.2.2.1 ∧ ns ≤ r.2.2.2.2)
    (hnext : xh_go p l e R s m args below meth c Q nL A E D W0 (fun is => xl xg_FD E9 X d sc code sw ex n is) rest (pc + ln) r) (hjump : ∀ t, xh_go p l e R s m args below meth c Q nL A E D W0 (fun is => xl xg_FD E9 X d sc code sw ex n is) (xq_drop t code) (xe_pc (code.drop t)) r)
    (h1 : xl_far xg_FD E9 X d sc code sw ex n pc 101 x y z rest L S h nc ns = some r) (hc : r.2.2.2.1 ≤ R.cells) (hs : r.2.2.2.2 ≤ R.slots) : xf_G p l e R s m args below meth c Q nL A E D W0 pc L S h nc ns := by
  have hln : ln = 5 := xe_lnOf hcnd rfl; subst hln
  have h2 : (xq_take y S [] fun as S => xq_pop S fun o S => xq_obj h o fun t c0 _ => cond (and (Nat.beq t 0) (and (or false (Nat.beq c0 z)) (Nat.ble (xq_len S) 4))) (xq_opt (X x (o :: as) h) fun R0 => xa R0 pc code rest ex (fun is => xl xg_FD E9 X d sc code sw ex n is) L S nc ns) none) = some r := h1
  obtain ⟨as, S0, hlen, rfl, h3⟩ := xe_take _ h2
  rw [List.append_nil] at h3
  obtain ⟨o, S1, rfl, h4⟩ := xe_pop h3
  obtain ⟨ho, t, c0, es, hh, h5⟩ := xe_obj h4
  obtain ⟨g1, h6⟩ := xe_cond h5
  obtain ⟨g2, g3⟩ := xe_and g1
  obtain ⟨g4, g5⟩ := xe_and g3
  have g5 := xe_ble g5
  rw [xq_len_eq] at g5
  have g6 : c0 = z := by
    rcases xe_or g4 with h | h
    · cases h
    · exact xe_beq h
  obtain ⟨R0, hR0, h7⟩ := xe_opt h6
  obtain ⟨d1, rfl, hMt⟩ := hX _ _ _ _ hR0
  have hb : nc + R0.2.2.2.1 ≤ r.2.2.2.1 ∧ ns + R0.2.2.2.2 ≤ r.2.2.2.2 := by
    rcases xp_a h7 with ⟨_, _, _, _, h8⟩ | h8
    · exact hm h8
    · rw [h8]; exact ⟨Nat.le_refl _, Nat.le_refl _⟩
  intro ls stk H locs hR
  obtain ⟨ws, tys, lv, r1, r2, r3, r4, hK, hP, hD, hS, hM⟩ := hR
  obtain ⟨st, aa, q2, hr⟩ := xn_c101 C hF (hsite rfl) hdec hlen g5 ho hh (xe_beq g2) g6 hMt (Nat.le_trans hb.1 hc) (Nat.le_trans hb.2 hs) r1 r3 r4 hK hP hD hS
  exact xn_after5 C.2.2.2.1 C.2.2.2.2.1 hF hT hO hnext hjump r1 r2 q2 hS hM hr h7
theorem xl_okF {E9 : xv_L} {X : xk_X} {n j pc ln op x y z w : Nat} {rest : List xv_I} {L : xv_L} {S : List xv_V} {h : List xv_O} {nc ns : Nat} (C : xf_C p R s m args meth c cc nL own ini A E d sc) (hF : xf_F s) (hX : ∀ (k : Nat) (as : List xv_V) (h : List xv_O) (R0 : xv_R), X k as h = some R0 → ∃ d', d = d' + 1 ∧ xw_M l E D A sc d' k as h R0)
    (hT : xh_T own code ex c r) (hO : xh_out p l e R s m args below meth c Q own A E D W0 r)
    (hret : ∀ (j pc ln op x y z w : Nat), code[j]? = some (pc, ln, op, x, y, z, w) → 84 ≤ op → op ≤ 88 → ∀ (L : xv_L) (S : List xv_V) (h : List xv_O) (nc ns : Nat), xr op z S h nc ns = some r → xf_G p l e R s m args below meth c Q nL A E D W0 pc L S h nc ns)
    (hnew : ∀ (j pc ln op x y z w : Nat), code[j]? = some (pc, ln, op, x, y, z, w) → (op = 90 ∨ op = 91) → 6 ≤ d → ∀ (L : xv_L) (S : List xv_V) (h : List xv_O) (nc ns : Nat), S.length ≤ 4 → r = (2 + x, (2, 0, 0), h, nc + 1, ns + 6) → xf_G p l e R s m args below meth c Q nL A E D W0 pc L S h nc ns)
    (hi : code[j]? = some (pc, ln, op, x, y, z, w)) (hdec : decode cc pc = .ok (xe_ins code sw (pc, ln, op, x, y, z, w), ln)) (hcnd : xe_cnd nL ini sw (pc, ln, op, x, y, z, w) = true) (hsite : xi_need op = true → xi_site own (op, x, y, z, w))
    (hm : ∀ {is : List xv_I} {L : xv_L} {S : List xv_V} {h : List xv_O} {nc ns : Nat}, xl xg_FD E9 X d sc code sw ex n is L S h nc ns = some r → nc ≤ r.2.2.2.1 ∧ ns ≤ r.2.2.2.2)
    (hnext : xh_go p l e R s m args below meth c Q nL A E D W0 (fun is => xl xg_FD E9 X d sc code sw ex n is) rest (pc + ln) r) (hjump : ∀ t, xh_go p l e R s m args below meth c Q nL A E D W0 (fun is => xl xg_FD E9 X d sc code sw ex n is) (xq_drop t code) (xe_pc (code.drop t)) r)
    (hops : op ∈ xe_far) (h1 : xl_far xg_FD E9 X d sc code sw ex n pc op x y z rest L S h nc ns = some r) (hc : r.2.2.2.1 ≤ R.cells) (hs : r.2.2.2.2 ≤ R.slots) : xf_G p l e R s m args below meth c Q nL A E D W0 pc L S h nc ns := by
  simp only [xe_far, List.mem_cons, List.not_mem_nil, or_false] at hops
  rcases hops with rfl | rfl | rfl | rfl | rfl | rfl | rfl | rfl | rfl | rfl | rfl | rfl | rfl | rfl | rfl | rfl | rfl | rfl | rfl | rfl | rfl | rfl | rfl | rfl | rfl | rfl | rfl | rfl | rfl | rfl | rfl | rfl | rfl | rfl
  · exact xo_56 C hF hX hT hO hret hnew hi hdec hcnd hsite hm hnext hjump h1 hc hs
  · exact xo_57 C hF hX hT hO hret hnew hi hdec hcnd hsite hm hnext hjump h1 hc hs
  · exact xo_58 C hF hX hT hO hret hnew hi hdec hcnd hsite hm hnext hjump h1 hc hs
  · exact xo_64 C hF hX hT hO hret hnew hi hdec hcnd hsite hm hnext hjump h1 hc hs
  · exact xo_65 C hF hX hT hO hret hnew hi hdec hcnd hsite hm hnext hjump h1 hc hs
  · exact xo_66 C hF hX hT hO hret hnew hi hdec hcnd hsite hm hnext hjump h1 hc hs
  · exact xo_67 C hF hX hT hO hret hnew hi hdec hcnd hsite hm hnext hjump h1 hc hs
  · exact xo_68 C hF hX hT hO hret hnew hi hdec hcnd hsite hm hnext hjump h1 hc hs
  · exact xo_69 C hF hX hT hO hret hnew hi hdec hcnd hsite hm hnext hjump h1 hc hs
  · exact xo_70 C hF hX hT hO hret hnew hi hdec hcnd hsite hm hnext hjump h1 hc hs
  · exact xo_71 C hF hX hT hO hret hnew hi hdec hcnd hsite hm hnext hjump h1 hc hs
  · exact xo_72 C hF hX hT hO hret hnew hi hdec hcnd hsite hm hnext hjump h1 hc hs
  · exact xo_73 C hF hX hT hO hret hnew hi hdec hcnd hsite hm hnext hjump h1 hc hs
  · exact xo_74 C hF hX hT hO hret hnew hi hdec hcnd hsite hm hnext hjump h1 hc hs
  · exact xo_75 C hF hX hT hO hret hnew hi hdec hcnd hsite hm hnext hjump h1 hc hs
  · exact xo_76 C hF hX hT hO hret hnew hi hdec hcnd hsite hm hnext hjump h1 hc hs
  · exact xo_77 C hF hX hT hO hret hnew hi hdec hcnd hsite hm hnext hjump h1 hc hs
  · exact xo_78 C hF hX hT hO hret hnew hi hdec hcnd hsite hm hnext hjump h1 hc hs
  · exact xo_79 C hF hX hT hO hret hnew hi hdec hcnd hsite hm hnext hjump h1 hc hs
  · exact xo_80 C hF hX hT hO hret hnew hi hdec hcnd hsite hm hnext hjump h1 hc hs
  · exact xo_81 C hF hX hT hO hret hnew hi hdec hcnd hsite hm hnext hjump h1 hc hs
  · exact xo_84 C hF hX hT hO hret hnew hi hdec hcnd hsite hm hnext hjump h1 hc hs
  · exact xo_85 C hF hX hT hO hret hnew hi hdec hcnd hsite hm hnext hjump h1 hc hs
  · exact xo_86 C hF hX hT hO hret hnew hi hdec hcnd hsite hm hnext hjump h1 hc hs
  · exact xo_87 C hF hX hT hO hret hnew hi hdec hcnd hsite hm hnext hjump h1 hc hs
  · exact xo_88 C hF hX hT hO hret hnew hi hdec hcnd hsite hm hnext hjump h1 hc hs
  · exact xo_90 C hF hX hT hO hret hnew hi hdec hcnd hsite hm hnext hjump h1 hc hs
  · exact xo_91 C hF hX hT hO hret hnew hi hdec hcnd hsite hm hnext hjump h1 hc hs
  · exact xo_96 C hF hX hT hO hret hnew hi hdec hcnd hsite hm hnext hjump h1 hc hs
  · exact xo_97 C hF hX hT hO hret hnew hi hdec hcnd hsite hm hnext hjump h1 hc hs
  · exact xo_98 C hF hX hT hO hret hnew hi hdec hcnd hsite hm hnext hjump h1 hc hs
  · exact xo_99 C hF hX hT hO hret hnew hi hdec hcnd hsite hm hnext hjump h1 hc hs
  · exact xo_100 C hF hX hT hO hret hnew hi hdec hcnd hsite hm hnext hjump h1 hc hs
  · exact xo_101 C hF hX hT hO hret hnew hi hdec hcnd hsite hm hnext hjump h1 hc hs
end XO
