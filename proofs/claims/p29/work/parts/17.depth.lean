/-! every method by the model, by its depth -/
theorem zm_args {E : Nat} {ws : va_W} : ∀ {as vs : List Value} (i : Nat), xf_2 (zm_V E ws) as vs → zm_L E ws (zargs i as) (lv_args i vs)
  | [], [], _, _ => fun _ _ h => nomatch h
  | a :: as, v :: vs, i, h => by
    intro j u hu
    have hu' : (if j = i then some a else zargs (i + a.category) as j) = some u := hu
    have hc := zm_cat h.1
    by_cases hj : j = i
    · rw [if_pos hj] at hu'
      cases hu'; subst hj
      exact ⟨v, List.mem_cons_self, h.1⟩
    · rw [if_neg hj] at hu'
      obtain ⟨w, h1, h2⟩ := zm_args (i + a.category) h.2 j u hu'
      refine ⟨w, List.mem_cons_of_mem _ ?_, h2⟩
      have e : (if v.category = 2 then i + 2 else i + 1) = i + a.category := by
        rw [hc]
        rcases lv_cat v with e1 | e1
        · rw [hc] at e1; rw [e1]; rfl
        · rw [hc] at e1; rw [e1]; rfl
      rw [e]; exact h1
  | [], _ :: _, _, h => h.elim
  | _ :: _, [], _, h => h.elim
theorem zm_size {E : Nat} {ws : va_W} : ∀ {as vs : List Value}, xf_2 (zm_V E ws) as vs → (lg_sl vs).length = zsz as
  | [], [], _ => rfl
  | a :: as, v :: vs, h => by
    have ih := zm_size h.2
    have hc := zm_cat h.1
    unfold zsz at ih ⊢
    rw [List.map_cons, List.sum_cons, ← ih, ← hc]
    unfold lg_sl
    rw [List.flatMap_cons, List.length_append]
    rcases lv_cat v with e1 | e1 <;> rw [e1] <;> simp <;> omega
  | [], _ :: _, h => h.elim
  | _ :: _, [], h => h.elim
theorem zk_all (k : Nat) (g : List zM) (t : zM) (hg : zg_MT[k / 16]? = some g) (ht : g[k % 16]? = some t) : zokM k t := by
  have hk : k = 16 * (k / 16) + k % 16 := (Nat.div_add_mod k 16).symm
  generalize k / 16 = q at hg hk
  generalize k % 16 = i at ht hk
  subst hk
  unfold zg_MT at hg
  match q, hg with
  | 0, hg => cases hg; exact zk_g0 i t ht
  | 1, hg => cases hg; exact zk_g1 i t ht
  | 2, hg => cases hg; exact zk_g2 i t ht
  | 3, hg => cases hg; exact zk_g3 i t ht
  | 4, hg => cases hg; exact zk_g4 i t ht
  | 5, hg => cases hg; exact zk_g5 i t ht
  | 6, hg => cases hg; exact zk_g6 i t ht
  | 7, hg => cases hg; exact zk_g7 i t ht
  | 8, hg => cases hg; exact zk_g8 i t ht
  | 9, hg => cases hg; exact zk_g9 i t ht
  | 10, hg => cases hg; exact zk_g10 i t ht
  | q + 11, hg => cases hg
theorem zx_meth {l : Launch} {A : Nat → Prop} {E : Nat} {D : va_G} {sc : List Int32} {F : Nat} : ∀ (d k : Nat) (as : List Value) (h : List zO) (r : zR), zx zg_FD zg_MT sc F d k as h = some r → ∃ d', d = d' + 1 ∧ zw_M l E D A sc d' k as h r
  | 0, _, _, _, _, hf => nomatch hf
  | d + 1, k, as, h, r, hf => by
    refine ⟨d, rfl, ?_⟩
    obtain ⟨g, hg, h1⟩ := ze_n (show zq_n zg_MT (k / 16) (fun g => zq_n g (k % 16) fun t => zq_b (Nat.ble (zsz as) t.2.2) (zl zg_FD (zx zg_FD zg_MT sc F d) d sc t.1 t.2.1 F 0 (zargs 0 as) [] h 0 0)) = some r from hf)
    obtain ⟨t, ht, h2⟩ := ze_n h1
    obtain ⟨hsz, h3⟩ := ze_b h2
    obtain ⟨hG, hml0, hpc0, hpl, hrow⟩ := zk_all k g t hg ht
    obtain ⟨code, sw, ml⟩ := t
    dsimp only at hG hml0 hpc0 hrow hsz h3
    have hsz := Nat.le_of_ble_eq_true hsz
    rw [hml0] at hsz
    intro ws tys
    refine Met.ofW (cc := zg_CC k) (maxL := zg_ML k) (ret := zg_RT k) hpl (by rfl) (fun p e s m args below meth c s₁ B hml hP => ?_)
    have hts0 := atoms_spec (ws := zg_CW k :: zw_B) B.pre
    have hts : ∀ w ∈ zw_B, w.before args s = true := fun w hw => hts0 w (List.mem_cons_of_mem _ hw)
    obtain ⟨q1, q2, hK, hPw, hD, hA, hE⟩ := hP
    have C : zf_C p { frames := d, cells := r.2.2.1, slots := r.2.2.2, locals := 64 * d } s m args meth c (zg_CC k) (zg_ML k) (zg_Y k).cls (zini k) A E d sc :=
      ⟨B.exec, B.bytes, hml, findClass_of_methodNamed B.named, hts, hA, Nat.le_refl _, Nat.le_refl _, B.notSynchronized, fun hi => (name_of_methodNamed B.named B.method).1.trans (of_decide_eq_true hi), hE⟩
    have e0 : entryFrame m args (zg_ML k) = F0 m 0 ((lg_sl args.toList ++ List.replicate (zg_ML k - (lg_sl args.toList).length) Slot.unset).toArray) [] := by
      have := lg_entry_eq m args.toList (zg_ML k)
      rwa [Array.toArray_toList] at this
    have hlv := lv_entry args.toList (n := zg_ML k) (by rw [zm_size q1]; exact hsz)
    have K := zl_ok (Q := MQ below (zw_Q E D A ws r) args s r.2.2.1 r.2.2.2 A) (W0 := ws) (below := below) (l := l) (e := e) (r := r) C (fun k as h R0 hh => zx_meth d k as h R0 hh) hG
      (fun j pc ln op x y z w hj h84 h87 L S h9 nc ns hr => by
        rcases hG.1 j _ hj with h0 | ⟨hdec, hcnd, -, -⟩
        · exact absurd (show op = 200 from h0) (by omega)
        · refine zn_ret C B.returns h84 h87 hdec ?_ ?_ hr
          · rcases ze_or (ze_and hcnd).1 with hh | hh
            · exact absurd (Nat.eq_of_beq_eq_true hh) (by omega)
            · rw [Nat.eq_of_beq_eq_true hh]
              rcases (show op = 84 ∨ op = 85 ∨ op = 86 ∨ op = 87 by omega) with rfl | rfl | rfl | rfl <;> rfl
          · rcases hrow j _ hj with h0 | h0
            · exact absurd (show op = 200 from h0) (by omega)
            · exact h0)
      F 0 (zargs 0 as) [] h 0 0 h3 (Nat.le_refl _) (Nat.le_refl _)
    have K2 := K _ [] s.heap [] ⟨ws, tys, lv_args 0 args.toList, hlv, zm_args 0 q1, trivial, q2, hK, hPw, hD, va_S.rf, xm_le_rfl ws⟩
    rw [e0]
    rw [hpc0] at K2
    exact K2
