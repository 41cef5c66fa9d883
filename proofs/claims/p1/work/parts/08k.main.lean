/-! a frame by the executor, whole -/
theorem xl_nil {FD : List (List xv_V)} {E9 : xv_L} {X : xk_X} {d : Nat} {sc : List xv_V} {code : List xv_I} {sw : List (List Nat)} {ex : List (Nat × Nat × Nat × Nat)} (n : Nat) {L : xv_L} {S : List xv_V} {h : List xv_O} {nc ns : Nat} {r : xv_R} (hf : xl FD E9 X d sc code sw ex n [] L S h nc ns = some r) : False := by
  cases n with
  | zero => cases hf
  | succ n => cases hf
section XZ
variable {p : Program} {l : Launch} {e : Env} {R : Room} {s : State} {m : MethodId} {args : Array Value} {below : List Frame} {meth : Method} {c : Code} {Q : State → Prop} {cc : ByteArray} {nL : Nat} {own : String} {ini : Bool} {A : Nat → Prop} {E : xm_E} {D : va_G} {W0 : va_W} {d : Nat} {sc : List xv_V}
variable {code : List xv_I} {sw : List (List Nat)} {ex : List (Nat × Nat × Nat × Nat)} {r : xv_R}
theorem xl_ok {E9 : xv_L} {X : xk_X} (C : xf_C p R s m args meth c cc nL own ini A E d sc) (hF : xf_F s) (hX : ∀ (k : Nat) (as : List xv_V) (h : List xv_O) (R0 : xv_R), X k as h = some R0 → ∃ d', d = d' + 1 ∧ xw_M l E D A sc d' k as h R0)
    (hG : xe_good own cc nL ini ex code sw) (hT : xh_T own code ex c r) (hO : xh_out p l e R s m args below meth c Q own A E D W0 r)
    (hret : ∀ (j pc ln op x y z w : Nat), code[j]? = some (pc, ln, op, x, y, z, w) → 84 ≤ op → op ≤ 88 → ∀ (L : xv_L) (S : List xv_V) (h : List xv_O) (nc ns : Nat), xr op z S h nc ns = some r → xf_G p l e R s m args below meth c Q nL A E D W0 pc L S h nc ns)
    (hnew : ∀ (j pc ln op x y z w : Nat), code[j]? = some (pc, ln, op, x, y, z, w) → (op = 90 ∨ op = 91) → 6 ≤ d → ∀ (L : xv_L) (S : List xv_V) (h : List xv_O) (nc ns : Nat), S.length ≤ 4 → r = (2 + x, (2, 0, 0), h, nc + 1, ns + 6) → xf_G p l e R s m args below meth c Q nL A E D W0 pc L S h nc ns)
    (hstop : ∀ (j pc ln x y z w : Nat), code[j]? = some (pc, ln, 89, x, y, z, w) → ∀ (L : xv_L) (h : List xv_O) (nc ns : Nat), xq_eqL L E9 = true → r = (9, (2, 0, 0), h, nc, ns) → xf_G p l e R s m args below meth c Q nL A E D W0 pc L [] h nc ns) :
    ∀ (n j : Nat) (L : xv_L) (S : List xv_V) (h : List xv_O) (nc ns : Nat), xl xg_FD E9 X d sc code sw ex n (code.drop j) L S h nc ns = some r → r.2.2.2.1 ≤ R.cells → r.2.2.2.2 ≤ R.slots → xf_G p l e R s m args below meth c Q nL A E D W0 (xe_pc (code.drop j)) L S h nc ns := by
  intro n
  induction n with
  | zero => intro j L S h nc ns hf; exact nomatch hf
  | succ n ih =>
    intro j L S h nc ns hf hc hs
    cases hdr : code.drop j with
    | nil => rw [hdr] at hf; exact nomatch hf
    | cons i rest =>
      rw [hdr] at hf
      have hi : code[j]? = some i := by
        have h1 : (code.drop j)[0]? = some i := by rw [hdr]; rfl
        rwa [List.getElem?_drop] at h1
      have hrest : rest = code.drop (j + 1) := by
        have h1 := congrArg List.tail hdr
        rw [List.tail_drop] at h1
        exact h1.symm
      obtain ⟨pc, ln, op, x, y, z, w⟩ := i
      show xf_G p l e R s m args below meth c Q nL A E D W0 pc L S h nc ns
      have hm : ∀ {is : List xv_I} {L : xv_L} {S : List xv_V} {h : List xv_O} {nc ns : Nat}, xl xg_FD E9 X d sc code sw ex n is L S h nc ns = some r → nc ≤ r.2.2.2.1 ∧ ns ≤ r.2.2.2.2 := fun q => xl_mono n q
      have hnext : xh_go p l e R s m args below meth c Q nL A E D W0 (fun is => xl xg_FD E9 X d sc code sw ex n is) rest (pc + ln) r := by
        intro L' S' h' nc' ns' hk
        have hpc : xe_pc (code.drop (j + 1)) = pc + ln := by
          rw [← hrest]
          cases hre : rest with
          | nil =>
            rw [hre] at hk
            exact (xl_nil n hk).elim
          | cons i' rest' =>
            have h2 : code[j + 1]? = some i' := by
              have h1 : (code.drop (j + 1))[0]? = some i' := by rw [← hrest, hre]; rfl
              rwa [List.getElem?_drop] at h1
            exact (hG.2 j _ _ hi h2).symm
        rw [← hpc]
        exact ih (j + 1) L' S' h' nc' ns' (hrest ▸ hk) hc hs
      have hjump : ∀ t, xh_go p l e R s m args below meth c Q nL A E D W0 (fun is => xl xg_FD E9 X d sc code sw ex n is) (xq_drop t code) (xe_pc (code.drop t)) r := fun t L' S' h' nc' ns' hk => ih t _ _ _ _ _ (by rw [← xq_drop_eq]; exact hk) hc hs
      have hgood := hG.1 j _ hi
      rcases xl_near hf with ⟨hop, h1⟩ | ⟨hop, h1⟩
      · rcases hgood with h0 | h0 | ⟨hdec, hcnd, hsite, -⟩
        · exact absurd (show op = 200 from h0) (by omega)
        · exact absurd (show op = 89 from h0) (by omega)
        · obtain ⟨L1, S1, h2, hk1⟩ := xp_all hop L S h _ r h1
          have hb := hm hk1
          exact xi_step hop hcnd hsite p l e R s m args below meth c Q cc A E D W0 C pc hdec L S h nc ns _ r (by omega) (by omega) h1 (fun L' S' h' hk => hnext L' S' h' nc ns hk)
      · rcases hgood with h0 | h0 | ⟨hdec, hcnd, hsite, h90, h91⟩
        · have h0 : op = 200 := h0
          subst h0
          exact nomatch h1
        · have h0 : op = 89 := h0
          subst h0
          have h2 : cond (and (xq_eqL L E9) (Nat.beq (xq_len S) 0)) (some ((9, (2, 0, 0), h, nc, ns) : xv_R)) none = some r := h1
          obtain ⟨g1, h3⟩ := xe_cond h2
          obtain ⟨g2, g3⟩ := xe_and g1
          have g3 := xe_beq g3
          rw [xq_len_eq] at g3
          have g4 := List.eq_nil_of_length_eq_zero g3
          subst g4
          exact hstop j _ _ _ _ _ _ hi L h nc ns g2 (Option.some.inj h3).symm
        · have hops := xe_opsOf hcnd hop
          exact xl_okF C hF hX hT hO hret hnew hi hdec hcnd hsite hm hnext hjump hops h1 hc hs
end XZ
