/-! rows copied -/
theorem zcpy_len {α : Type} {xs ys : List α} {s d n : Nat} (h1 : s + n ≤ xs.length) (h2 : d + n ≤ ys.length) : (zcpy xs ys s d n).length = ys.length := by
  unfold zcpy
  simp only [List.length_append, List.length_take, List.length_drop]
  omega
theorem zcpy_get {α : Type} {xs ys : List α} {s d n : Nat} (h1 : s + n ≤ xs.length) (h2 : d + n ≤ ys.length) (j : Nat) : (zcpy xs ys s d n)[j]? = if d ≤ j ∧ j < d + n then xs[s + (j - d)]? else ys[j]? := by
  have l1 : (ys.take d).length = d := by rw [List.length_take]; omega
  have l2 : ((xs.drop s).take n).length = n := by rw [List.length_take, List.length_drop]; omega
  unfold zcpy
  by_cases c1 : j < d
  · rw [if_neg (by omega), List.getElem?_append_left (by rw [List.length_append, l1]; omega), List.getElem?_append_left (by omega), List.getElem?_take_of_lt c1]
  · by_cases c2 : j < d + n
    · rw [if_pos ⟨by omega, c2⟩, List.getElem?_append_left (by rw [List.length_append, l1, l2]; omega), List.getElem?_append_right (by omega), l1, List.getElem?_take_of_lt (by omega), List.getElem?_drop]
    · rw [if_neg (by omega), List.getElem?_append_right (by rw [List.length_append, l1, l2]; omega), List.length_append, l1, l2, List.getElem?_drop]
      congr 1
      omega
theorem zcpy_el {α β : Type} {P : α → β → Prop} {xs ys : List α} {f g : Nat → β} {s d n : Nat} (h1 : s + n ≤ xs.length) (h2 : d + n ≤ ys.length) (hx : ∀ (j : Nat) (x : α), xs[j]? = some x → P x (f j)) (hy : ∀ (j : Nat) (x : α), ys[j]? = some x → P x (g j)) : ∀ (j : Nat) (x : α), (zcpy xs ys s d n)[j]? = some x → P x (va_cpy f g s d n j) := by
  intro j x hj
  rw [zcpy_get h1 h2] at hj
  by_cases c1 : d ≤ j ∧ j < d + n
  · rw [if_pos c1] at hj
    rw [pk_cpy_in c1.1 c1.2]
    exact hx _ _ hj
  · rw [if_neg c1] at hj
    rw [pk_cpy_out (by omega)]
    exact hy _ _ hj
section ZR
variable {p : Program} {l : Launch} {e : Env} {R : Room} {s : State} {m : MethodId} {args : Array Value} {below : List Frame} {meth : Method} {c : Code} {H : Heap} {locs : List Loc} {cells slots : Nat} {Q : State → Prop}
variable {cc : ByteArray} {pc : Nat} {ls : Array Slot} {rest : List Value} {D : va_G} {A : Nat → Prop} {a : Nat} {tys : xm_T} {ws : va_W} {H0 : Heap}
theorem zr_copy (hx : p.tables.exec = Jvm.exec) (hb : c.code = cc) (hml : c.maxLocals = ls.size) {own : String} {index : Nat} (hown : s.vm.findClass own = some m.cls) (hlink : (Cond.methodLink own index arraycopyName).before args s = true) (hnat : (Cond.native arraycopyName).before args s = true) (hstat : (Cond.static arraycopyName).before args s = true) (hini : (Cond.initialized "java/lang/System").before args s = true)
    (hw : (Cond.arrayOver (.array .int)).before args s = true) (hK : va_K D vwCl tys s) (hP : va_P D vwCl ws H) (hD : va_D A ws) (hS : va_S A H0 H locs) (q0 q1 t0 t1 : Nat) {a0 : Nat} {c0 c1 : ClassId} {n0 n1 : Nat} {f g : Nat → Option Nat} (ha0 : ws[q0]? = some (a0, .inl (c0, n0, .inr (.inr (.inr (.inr f)))))) (ha1 : ws[q1]? = some (a, .inl (c1, n1, .inr (.inr (.inr (.inr g)))))) (ht0 : tys[t0]? = some (c0, .array .int)) (ht1 : tys[t1]? = some (c1, .array .int))
    {sp dp n : Int32} (h1 : ¬ sp < 0) (h2 : ¬ dp < 0) (h3 : ¬ n < 0) (h4 : sp.toNatClampNeg + n.toNatClampNeg ≤ n0) (h5 : dp.toNatClampNeg + n.toNatClampNeg ≤ n1) (hel : ∀ i : Nat, i < n.toNatClampNeg → ∀ y : Nat, f (sp.toNatClampNeg + i) = some y → ∃ (q t n' : Nat) (cB : ClassId) (u : Nat → Int32), ws[q]? = some (y, .inl (cB, n', .inl u)) ∧ tys[t]? = some (cB, .int))
    (hframes : 1 ≤ R.frames) (hlocals : (rest.map fun v => v.category).sum + (nativeFrameWords "java/lang/System" "arraycopy" 5 + 11) ≤ R.locals) (hd : decode cc pc = .ok (.invokestatic index, 3))
    (kk : ∀ (H1 : Heap) (locs1 : List Loc), va_P D vwCl (ws.set q1 (a, .inl (c1, n1, .inr (.inr (.inr (.inr (va_cpy f g sp.toNatClampNeg dp.toNatClampNeg n.toNatClampNeg))))))) H1 → va_D A (ws.set q1 (a, .inl (c1, n1, .inr (.inr (.inr (.inr (va_cpy f g sp.toNatClampNeg dp.toNatClampNeg n.toNatClampNeg))))))) → va_S A H0 H1 locs1 → W p l e R s m args below meth c H1 locs1 cells slots Q (F0 m (pc + 3) ls rest)) : W p l e R s m args below meth c H locs cells slots Q (F0 m pc ls (.int n :: .int dp :: .ref a :: .int sp :: .ref a0 :: rest)) := by
  have nn : ∀ z : Int32, ¬ z < 0 → z.toInt = (z.toNatClampNeg : Int) := by
    intro z hz
    have hz0 : ¬ z.toInt < 0 := fun q => hz (Int32.lt_iff_toInt_lt.mpr q)
    show z.toInt = ((z.toInt.toNat : Nat) : Int)
    omega
  intro T hT X
  subst hT
  have hc0 := hP q0 _ ha0
  have hc1 := hP q1 _ ha1
  obtain ⟨-, k0, hk0, cm0, hkk0⟩ := (hK.2 t0 _ ht0).1 n0 (fun j => va_rf (f j))
  obtain ⟨-, k1, hk1, cm1, hkk1⟩ := (hK.2 t1 _ ht1).1 n1 (fun j => va_rf (g j))
  obtain ⟨comp, kA, e1, e2, e3⟩ := zr_rows hw hK ht1
  have e2 : s.vm.classes[c1]? = some kA := e2
  cases hk1.symm.trans e2
  cases hkk1.symm.trans e3
  obtain ⟨kE, hkE⟩ := zr_class e1
  obtain ⟨vm', X', step⟩ := X.arraycopy hx hown hlink hnat hstat hini (src := a0) (dst := a) (cs := vp_cell c0 (n0, .inr (.inr (.inr (.inr f))))) (cd := vp_cell c1 (n1, .inr (.inr (.inr (.inr g))))) (srcPos := sp) (destPos := dp) (n := n) hc0 hc1
    (fun _ h => by cases h) (fun _ h => by cases h) (fun h => by cases h) (fun h => by cases h) hk0 hk1 hkk0 hkk1 rfl h1 h2 h3
    (by rw [nn sp h1, nn n h3]; show ¬ _ > ((arrV c0 n0 (fun j => va_rf (f j))).slots.size : Int); rw [arrV_size]; omega)
    (by rw [nn dp h2, nn n h3]; show ¬ _ > ((arrV c1 n1 (fun j => va_rf (g j))).slots.size : Int); rw [arrV_size]; omega)
    (fun vm₁ hal i hi => by
      have ev : (vp_cell c0 (n0, .inr (.inr (.inr (.inr f))))).slots.getD (sp.toNatClampNeg + i) .null = va_rf (f (sp.toNatClampNeg + i)) := by
        show (arrV c0 n0 (fun j => va_rf (f j))).slots.getD _ _ = _
        rw [Array.getD_eq_getD_getElem?, arrV_read _ _ (by omega)]
        rfl
      rw [ev]
      cases hy : f (sp.toNatClampNeg + i) with
      | none => exact ⟨rfl, trivial⟩
      | some y =>
        obtain ⟨q, t, n', cB, u, b1, b2⟩ := hel i hi y hy
        obtain ⟨cv, v1, v2, v3⟩ := zr_int hK hP b1 b2 e1
        obtain ⟨kE', hkE', -⟩ := hal.2.2 _ _ hkE
        refine ⟨rfl, cv, v1, (fun q h => by rw [h] at v2; cases v2), ⟨kE', by rw [v3]; exact hkE'⟩, ⟨kE', hkE'⟩, ?_⟩
        rw [v3]; exact zr_refl _ _)
    (g := F0 m pc ls (.int n :: .int dp :: .ref a :: .int sp :: .ref a0 :: rest)) rfl (by rw [hml]) (rest := rest) rfl (by rw [hb]; exact hd) hframes (by show 2 * 0 + _ + _ ≤ _; omega)
  have ec : copied (vp_cell c0 (n0, .inr (.inr (.inr (.inr f))))) (vp_cell c1 (n1, .inr (.inr (.inr (.inr g))))) sp dp n = vp_cell c1 (n1, .inr (.inr (.inr (.inr (va_cpy f g sp.toNatClampNeg dp.toNatClampNeg n.toNatClampNeg))))) := by
    rw [vp_cell_q, vp_cell_q, vp_cell_q]
    exact va_copied (fun z => va_rf z) c0 c1 f g h4
  rw [ec] at X' step
  have hl : a < T.heap.size := (Array.getElem?_eq_some_iff.mp hc1).1
  have oq : ∀ (x : Cell) (q : Nat), q ≠ a → (T.heap.setIfInBounds a x)[q]? = T.heap[q]? := fun x q hq => by simp [Array.getElem?_setIfInBounds, Ne.symm hq]
  obtain ⟨t, a1, b1⟩ := kk _ _ (hP.set hD ha1 (show (T.heap.setIfInBounds a (vp_cell c1 (n1, .inr (.inr (.inr (.inr (va_cpy f g sp.toNatClampNeg dp.toNatClampNeg n.toNatClampNeg)))))))[a]? = some (vp_cell c1 (n1, .inr (.inr (.inr (.inr (va_cpy f g sp.toNatClampNeg dp.toNatClampNeg n.toNatClampNeg)))))) by simp [Array.getElem?_setIfInBounds, hl]) (oq _)) (hD.set ha1) ⟨by simp; exact hS.1, fun q g1 g2 => by
      rw [oq _ q (fun e => g2 (by rw [e]; exact hD.2 q1 _ ha1))]
      exact hS.2.1 q g1 g2, fun q hq => by
      rcases List.mem_append.mp hq with h | h
      · exact hS.2.2 q h
      · obtain ⟨z, -, hz⟩ := List.mem_map.mp h
        rw [← hz]
        exact hD.2 q1 _ ha1⟩ _ (by rfl) X'
  exact ⟨t, step t a1, b1⟩
end ZR
def zs_cpy (own : String) (w : Nat) : Prop := Cond.methodLink own w arraycopyName ∈ zw_B ∧ Cond.native arraycopyName ∈ zw_B ∧ Cond.static arraycopyName ∈ zw_B ∧ Cond.initialized "java/lang/System" ∈ zw_B ∧ Cond.arrayOver (.array .int) ∈ zw_B
def zs_mmn (own : String) (w : Nat) : Prop := Cond.methodLink own w Lib.Math.min.name ∈ zw_B ∧ Cond.static Lib.Math.min.name ∈ zw_B ∧ Cond.initialized "java/lang/Math" ∈ zw_B ∧ Cond.code Lib.Math.min.name Lib.Math.min.code 2 (some .int) ∈ zw_B
theorem z_words : nativeFrameWords "java/lang/System" "arraycopy" 5 + 11 ≤ 56 := by decide +kernel
section ZS
variable {own : String} {ini : Bool} {d : Nat} {sc : List Int32} {nL : Nat}
theorem zs_copy {w : Nat} (hs : zs_cpy own w) : zs_ok own ini d sc nL (zo_copy d) (.invokestatic w) 3 := by
  intro p l e R s m args below meth c Q cc A E D W0 C pc hd L S h nc ns t h1 h2 hf kk ls stk H locs hR
  obtain ⟨hx, hb, hml, hown, hts, hA, hRf, hRl, hlk, hini, hE⟩ := C
  obtain ⟨ws, tys, lv, r1, r2, r3, r4, hK, hP, hD, hS, hM⟩ := hR
  obtain ⟨g1, g2, g3, g4, g5⟩ := hs
  unfold zo_copy at hf
  split at hf
  · rename_i n dp b sp a0 S0
    obtain ⟨hq, hf1⟩ := ze_b hf
    obtain ⟨hq1, hq2⟩ := ze_and hq
    obtain ⟨qn, hq3⟩ := ze_and hq1
    obtain ⟨qd, qs⟩ := ze_and hq3
    obtain ⟨q1, q2⟩ := ze_and hq2
    have q1 := Nat.le_of_ble_eq_true q1
    have q2 := Nat.le_of_ble_eq_true q2
    obtain ⟨nn, en⟩ := z_clamp (of_decide_eq_true qn)
    obtain ⟨nd, ed⟩ := z_clamp (of_decide_eq_true qd)
    obtain ⟨nsp, es⟩ := z_clamp (of_decide_eq_true qs)
    obtain ⟨h', hc, hf2⟩ := ze_m hf1
    cases hf2
    rw [← en, ← ed, ← es] at hc
    obtain ⟨w0, st0, rfl, m0, r30⟩ := xf_2_cons r3
    obtain ⟨w1, st1, rfl, m1, r31⟩ := xf_2_cons r30
    obtain ⟨w2, st2, rfl, m2, r32⟩ := xf_2_cons r31
    obtain ⟨w3, st3, rfl, m3, r33⟩ := xf_2_cons r32
    obtain ⟨w4, st4, rfl, m4, r34⟩ := xf_2_cons r33
    cases m0; cases m1; cases m3
    obtain ⟨vb, eb, rfl, hwb⟩ := m2
    obtain ⟨va, ea, rfl, hwa⟩ := m4
    have hsum := zm_sum r34
    have hw9 := z_words
    have hloc : (st4.map fun v => v.category).sum + (nativeFrameWords "java/lang/System" "arraycopy" 5 + 11) ≤ R.locals := by omega
    unfold zcopy at hc
    split at hc
    · rename_i xs ys e1 e2
      obtain ⟨hq, hc1⟩ := ze_b hc
      cases hc1
      obtain ⟨l1, l2⟩ := ze_and hq
      have l1 := of_decide_eq_true l1
      have l2 := of_decide_eq_true l2
      obtain ⟨c0, t0, f, k1, k2, k3, k4⟩ := zm_at r4 e1 hwa
      obtain ⟨c1, t1, g, k5, k6, k7, k8⟩ := zm_at r4 e2 hwb
      dsimp only at k1 k5
      subst k1; subst k5
      have hO2 : zm_O E ws tys (.inr (.inl (zcpy xs ys sp.toNatClampNeg dp.toNatClampNeg n.toNatClampNeg))) (vb, .inl (c1, ys.length, .inl (va_cpy f g sp.toNatClampNeg dp.toNatClampNeg n.toNatClampNeg))) :=
        ⟨c1, t1, _, by rw [zcpy_len l1 l2], k6, by rw [zcpy_len l1 l2]; exact k7, zcpy_el (P := fun x y => y = x) l1 l2 k4 k8⟩
      have hle := xm_le_set (e' := .inl (c1, ys.length, .inl (va_cpy f g sp.toNatClampNeg dp.toNatClampNeg n.toNatClampNeg))) hwb
      exact va_copyi hx hb (by rw [hml]; exact r1.1.symm) hown (hts _ g1) (hts _ g2) (hts _ g3) (hts _ g4) hK hP hD hS _ _ t0 t1 hwa hwb k2 k6 rfl nsp nd nn l1 l2 (fun _ _ => rfl) (by omega) hloc hd
        (fun H1 locs1 p1 p2 p3 => kk _ _ _ _ ⟨_, tys, lv, r1, zm_L_mono hle r2, zm_S_mono hle r34, zm_set r4 hwb hO2, hK, p1, p2, p3, xm_le_trans hM hle⟩)
    · rename_i t xs t' ys e1 e2
      obtain ⟨hq0, hc1⟩ := ze_b hc
      cases hc1
      obtain ⟨hq4, hq5⟩ := ze_and hq0
      obtain ⟨x4, y4⟩ := ze_and hq4
      have x4 := Nat.eq_of_beq_eq_true x4
      have y4 := Nat.eq_of_beq_eq_true y4
      subst x4; subst y4
      obtain ⟨hq6, hall⟩ := ze_and hq5
      obtain ⟨l1, l2⟩ := ze_and hq6
      have l1 := of_decide_eq_true l1
      have l2 := of_decide_eq_true l2
      obtain ⟨c0, t0, f, k1, k2, -, k3, k4⟩ := zm_at r4 e1 hwa
      obtain ⟨c1, t1, g, k5, k6, k9, k7, k8⟩ := zm_at r4 e2 hwb
      dsimp only at k1 k5
      subst k1; subst k5
      have hO2 : zm_O E ws tys (.inr (.inr (.inr (4, zcpy xs ys sp.toNatClampNeg dp.toNatClampNeg n.toNatClampNeg)))) (vb, .inl (c1, ys.length, .inr (.inr (.inr (.inr (va_cpy f g sp.toNatClampNeg dp.toNatClampNeg n.toNatClampNeg)))))) :=
        ⟨c1, t1, _, by rw [zcpy_len l1 l2], k6, k9, by rw [zcpy_len l1 l2]; exact k7, zcpy_el (P := zm_R ws) l1 l2 k4 k8⟩
      have hle := xm_le_set (e' := .inl (c1, ys.length, .inr (.inr (.inr (.inr (va_cpy f g sp.toNatClampNeg dp.toNatClampNeg n.toNatClampNeg)))))) hwb
      refine zr_copy hx hb (by rw [hml]; exact r1.1.symm) hown (hts _ g1) (hts _ g2) (hts _ g3) (hts _ g4) (hts _ g5) hK hP hD hS _ _ t0 t1 hwa hwb k2 k6 nsp nd nn l1 l2 (fun i hi y hy => ?_) (by omega) hloc hd
        (fun H1 locs1 p1 p2 p3 => kk _ _ _ _ ⟨_, tys, lv, r1, zm_L_mono hle r2, zm_S_mono hle r34, zm_set r4 hwb hO2, hK, p1, p2, p3, xm_le_trans hM hle⟩)
      have hlt : sp.toNatClampNeg + i < xs.length := by omega
      have hg := k4 _ _ (List.getElem?_eq_getElem hlt)
      have hin := List.all_eq_true.mp hall _ (List.getElem_mem hlt)
      cases hv : xs[sp.toNatClampNeg + i] with
      | none =>
        rw [hv] at hg
        have hg' : f (sp.toNatClampNeg + i) = none := hg
        rw [hy] at hg'; cases hg'
      | some k =>
        rw [hv] at hg hin
        obtain ⟨b', eb', g1', g2'⟩ := hg
        rw [hy] at g1'
        cases g1'
        obtain ⟨us, hus⟩ := zisA_of hin
        obtain ⟨cB, t9, u, u1, u2, -⟩ := zm_at r4 hus g2'
        dsimp only at u1
        subst u1
        exact ⟨k, t9, _, cB, u, g2', u2⟩
    · cases hc
  · cases hf
theorem zs_min {w : Nat} (hs : zs_mmn own w) : zs_ok own ini d sc nL (zo_min d) (.invokestatic w) 3 := by
  intro p l e R s m args below meth c Q cc A E D W0 C pc hd L S h nc ns t h1 h2 hf kk ls stk H locs hR
  obtain ⟨hx, hb, hml, hown, hts, hA, hRf, hRl, hlk, hini, hE⟩ := C
  obtain ⟨ws, tys, lv, r1, r2, r3, r4⟩ := hR
  obtain ⟨g1, g2, g3, g4⟩ := hs
  obtain ⟨y, S1, rfl, hf1⟩ := ze_i hf
  obtain ⟨x, S2, rfl, hf2⟩ := ze_i hf1
  obtain ⟨hq, hf3⟩ := ze_b hf2
  cases hf3
  obtain ⟨q1, q2⟩ := ze_and hq
  have q1 := Nat.le_of_ble_eq_true q1
  have q2 := Nat.le_of_ble_eq_true q2
  obtain ⟨w0, st0, rfl, m0, r30⟩ := xf_2_cons r3
  obtain ⟨w1, st1, rfl, m1, r31⟩ := xf_2_cons r30
  cases m0; cases m1
  have hsum := zm_sum r31
  exact va_mmin hx hb (by rw [hml]; exact r1.1.symm) hown (hts _ g1) (hts _ g2) (hts _ g3) (hts _ g4) (by omega) (by omega) h1 h2 hd (kk ls _ _ _ ⟨ws, tys, lv, r1, r2, xf_2_c (a := .int (if y < x then y else x)) (b := .int (if y < x then y else x)) rfl r31, r4⟩)
end ZS
