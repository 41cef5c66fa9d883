/-! every method by the executor, by its depth -/
theorem xw_meth {l : Launch} (hst : l.stackTraces = false) {A : Nat → Prop} {E : xm_E} {D : va_G} {sc : List xv_V} : ∀ (d k : Nat) (as : List xv_V) (h : List xv_O) (r : xv_R), xx xg_FD xg_MT sc d k as h = some r → ∃ d', d = d' + 1 ∧ xw_M l E D A sc d' k as h r
  | 0, _, _, _, _, hf => nomatch hf
  | d + 1, k, as, h, r, hf => by
    refine ⟨d, rfl, ?_⟩
    have hf' : xq_nth xg_MT (k / 16) (fun g => xq_nth g (k % 16) fun t => cond (Nat.ble (xq_sz as) t.2.2.2) (xl xg_FD [] (xx xg_FD xg_MT sc d) d sc t.1 t.2.1 t.2.2.1 1000000 t.1 (xq_args 0 as) [] h 0 0) none) = some r := hf
    obtain ⟨g, hg, h1⟩ := xe_nth hf'
    obtain ⟨t, ht, h2⟩ := xe_nth h1
    obtain ⟨hsz, h3⟩ := xe_cond h2
    have hok := xk_all k g t hg ht
    obtain ⟨code, sw, ex, ml⟩ := t
    obtain ⟨hG, hml0, hpc0, hpl, hrow, hhh⟩ := hok
    dsimp only at hG hml0 hpc0 hrow hhh hsz h3
    have hsz := xe_ble hsz
    rw [hml0] at hsz
    intro ws tys
    have body : ∀ (p : Program) (e : Env) (s : State) (m : MethodId) (args : Array Value) (below : List Frame) (meth : Method) (c : Code) (s₁ : State), BodyLoose p l (xg_Y k) (headSpec (xg_CW k :: xw_B) { frames := d, cells := r.2.2.2.1, slots := r.2.2.2.2, locals := 64 * d }) (xg_CC k) (xg_ML k) (xg_RT k) e s m args below meth c s₁ → c.maxLocals = xg_ML k → c.exceptionTable.toList = tableOf (xg_HH k) → xw_P E D A sc ws tys as h args s →
        W p l e { frames := d, cells := r.2.2.2.1, slots := r.2.2.2.2, locals := 64 * d } s m args below meth c s.heap [] 0 0 (vx_MQ below (xw_Q E D A ws r) (xw_X E D A ws r) args s r.2.2.2.1 r.2.2.2.2 A) (entryFrame m args (xg_ML k)) := by
      intro p e s m args below meth c s₁ B hml hT hP
      have hts0 := atoms_spec (ws := xg_CW k :: xw_B) B.pre
      have hts : ∀ w ∈ xw_B, w.before args s = true := fun w hw => hts0 w (List.mem_cons_of_mem _ hw)
      obtain ⟨q1, q2, hK, hPw, hD, hA, hE, hF⟩ := hP
      have C : xf_C p { frames := d, cells := r.2.2.2.1, slots := r.2.2.2.2, locals := 64 * d } s m args meth c (xg_CC k) (xg_ML k) (xg_Y k).cls (xq_ini k) A E d sc :=
        ⟨B.exec, B.bytes, hml, findClass_of_methodNamed B.named, hts, hA, Nat.le_refl _, Nat.le_refl _, B.notSynchronized, fun hi => (name_of_methodNamed B.named B.method).1.trans (of_decide_eq_true hi), hE⟩
      have e0 : entryFrame m args (xg_ML k) = F0 m 0 ((lg_sl args.toList ++ List.replicate (xg_ML k - (lg_sl args.toList).length) Slot.unset).toArray) [] := by
        have := lg_entry_eq m args.toList (xg_ML k)
        rwa [Array.toArray_toList] at this
      have hlv := lv_entry args.toList (n := xg_ML k) (by rw [xm_size q1]; exact hsz)
      have K := xl_ok (Q := vx_MQ below (xw_Q E D A ws r) (xw_X E D A ws r) args s r.2.2.2.1 r.2.2.2.2 A) (W0 := ws) (below := below) (l := l) (e := e) (r := r) (E9 := []) C hF (fun k as h R0 hh => xw_meth hst d k as h R0 hh) hG (Or.inl (by rw [hT]; exact hhh))
        (fun k2 pc h9 nc ns hr hk hpass q ce ws' tys' H locs ls rest hce hcv hcl hle hh hK hP hD hS => vx_outP C.2.2.2.1 C.2.2.2.2.2.2.2.2.1 hpass hce hcv hcl (fun t ht hal => ⟨k2, ws', tys', by rw [hr], hk, rfl, hle, by rw [hr]; exact hh, va_K.moved hal hK, by rw [ht]; exact hP, hD, hS.F ht⟩) hS.2.2 (by rw [hr]; exact Nat.le_refl _) (by rw [hr]; exact Nat.le_refl _))
        (fun j pc ln op x y z w hj h84 h88 L S h9 nc ns hr => by
          rcases hG.1 j _ hj with h0 | h0 | ⟨hdec, hcnd, -⟩
          · exact absurd (show op = 200 from h0) (by omega)
          · exact absurd (show op = 89 from h0) (by omega)
          · refine xn_ret C B.returns h84 h88 hdec ?_ ?_ hr
            · have := xe_lnOf hcnd (by cases hh : Nat.beq op 81 with
                | false => rfl
                | true => exact absurd (xe_beq hh) (by omega))
              rw [this]
              rcases (show op = 84 ∨ op = 85 ∨ op = 86 ∨ op = 87 ∨ op = 88 by omega) with rfl | rfl | rfl | rfl | rfl <;> rfl
            · rcases (hrow j _ hj).2 with h0 | h0
              · exact absurd (show op = 200 from h0) (by omega)
              · exact h0)
        (fun j pc ln op x y z w hj h90 hd6 L S h9 nc ns hS4 hr => by
          rcases hG.1 j _ hj with h0 | h0 | ⟨hdec, hcnd, hsite, g90, g91⟩
          · exact absurd (show op = 200 from h0) (by omega)
          · exact absurd (show op = 89 from h0) (by omega)
          · rcases h90 with rfl | rfl
            · obtain ⟨he, hth⟩ := g90 rfl
              have hno : c.exceptionTable.toList = [] := by
                rw [hT]; rw [he] at hhh; exact xf_2_nil hhh
              have hln : ln = 3 := xe_lnOf hcnd rfl
              subst hln
              exact xn_throw hst C hF hd6 (hsite rfl) hno hdec (Or.inl hth) hS4 hr (Nat.le_refl _) (Nat.le_refl _)
            · obtain ⟨he, hth⟩ := g91 rfl
              have hno : c.exceptionTable.toList = [] := by
                rw [hT]; rw [he] at hhh; exact xf_2_nil hhh
              have hln : ln = 3 := xe_lnOf hcnd rfl
              subst hln
              exact xn_throw hst C hF hd6 (hsite rfl) hno hdec (Or.inr hth) hS4 hr (Nat.le_refl _) (Nat.le_refl _))
        (fun j pc ln x y z w hj => absurd rfl (hrow j _ hj).1)
        1000000 0 (xq_args 0 as) [] h 0 0 h3 (Nat.le_refl _) (Nat.le_refl _)
      have K2 := K _ [] s.heap [] ⟨ws, tys, lv_args 0 args.toList, hlv, xm_args 0 q1, trivial, q2, hK, hPw, hD, va_S.rf, xm_le_rfl ws⟩
      rw [e0]
      have e1 : xe_pc (code.drop 0) = 0 := hpc0
      rw [e1] at K2
      exact K2
    cases hWH : xg_WH k with
    | false =>
      refine vx_ofW (cc := xg_CC k) (maxL := xg_ML k) (ret := xg_RT k) hpl (by rw [xg_CW0 hWH]) (fun p e s m args below meth c s₁ B hml hex hP => ?_)
      refine body p e s m args below meth c s₁ B hml ?_ hP
      have e1 : c.exceptionTable.toList = [] := List.eq_nil_iff_forall_not_mem.mpr hex
      have e2 : xg_HH k = [] := by
        have : (!(xg_HH k).isEmpty) = false := hWH
        exact List.isEmpty_iff.mp (by simpa using this)
      rw [e1, e2]; rfl
    | true =>
      refine vx_ofWH (cc := xg_CC k) (maxL := xg_ML k) (ret := xg_RT k) (hh := xg_HH k) hpl (by rw [xg_CW1 hWH]) (fun p e s m args below meth c s₁ B hml hP => ?_)
      refine body p e s m args below meth c s₁ B hml ?_ hP
      have h9 := atoms_spec (ws := xg_CW k :: xw_B) B.pre (xg_CW k) List.mem_cons_self
      rw [xg_CW1 hWH] at h9
      exact vx_table (x := xg_Y k) B h9
