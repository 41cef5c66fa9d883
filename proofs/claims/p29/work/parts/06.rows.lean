/-! rows of references; rows of int[] -/
theorem zm_top {ws : va_W} {z : Nat × va_E} {n : Nat} (h : n = ws.length) : (ws ++ [z])[n]? = some z := by rw [h, List.getElem?_concat_length]
theorem xf_2_of {α β : Type} {P : α → β → Prop} : ∀ {as : List α} {bs : List β}, as.length = bs.length → (∀ (j : Nat) (a : α) (b : β), as[j]? = some a → bs[j]? = some b → P a b) → xf_2 P as bs
  | [], [], _, _ => trivial
  | a :: as, b :: bs, hl, hj => ⟨hj 0 a b rfl rfl, xf_2_of (by simpa using hl) (fun j x y h1 h2 => hj (j + 1) x y (by simpa using h1) (by simpa using h2))⟩
  | [], _ :: _, hl, _ => by simp at hl
  | _ :: _, [], hl, _ => by simp at hl
/-- a cell of the world that is an int[]: of the class that the component type of int[][] is -/
theorem zr_int {D : va_G} {tys : xm_T} {ws : va_W} {s : State} {H : Heap} {q1 t1 v n : Nat} {cB : ClassId} {g : Nat → Int32} {comp : ClassId} (hK : va_K D vwCl tys s) (hP : va_P D vwCl ws H) (hv : ws[q1]? = some (v, .inl (cB, n, .inl g))) (ht : tys[t1]? = some (cB, .int)) (hc : s.vm.findClass (FieldType.array .int).toString = some comp) :
    ∃ cv : Cell, H[v]? = some cv ∧ cv.vm.isStatics = false ∧ cv.cls = comp := by
  have h1 : s.vm.findClass "[I" = some cB := (hK.2 t1 _ ht).2
  have h2 : s.vm.findClass "[I" = some comp := hc
  cases h1.symm.trans h2
  exact ⟨_, hP q1 _ hv, rfl, rfl⟩
theorem zr_refl (vm : Vm) (c : ClassId) : vm.assignable c c = true := by
  show vm.assignableAux (255 + 1) c c = true
  unfold Vm.assignableAux
  rw [beq_self_eq_true, Bool.true_or]
theorem zisO_of {h : List zO} {b c : Nat} (q : zisO h b c = true) : ∃ fs, h[b]? = some (.inl (c, fs)) := by
  unfold zisO at q
  split at q
  · rename_i c' fs e
    have := Nat.eq_of_beq_eq_true q
    subst this
    exact ⟨fs, e⟩
  · cases q
theorem zisA_of {h : List zO} {b : Nat} (q : zisA h b = true) : ∃ xs, h[b]? = some (.inr (.inl xs)) := by
  unfold zisA at q
  split at q
  · exact ⟨_, ‹_›⟩
  · cases q
theorem zr_class {vm : Vm} {nm : String} {c : ClassId} (h : vm.findClass nm = some c) : ∃ k, vm.classes[c]? = some k := by
  obtain ⟨k, hk, -⟩ := Vm.findClass_spec h
  exact ⟨k, hk⟩
/-- what the word of int[][] says of a row of the world -/
theorem zr_rows {D : va_G} {tys : xm_T} {s : State} {args : Array Value} {t0 : Nat} {cA : ClassId} (hw : (Cond.arrayOver (.array .int)).before args s = true) (hK : va_K D vwCl tys s) (ht : tys[t0]? = some (cA, .array .int)) :
    ∃ comp k, s.vm.findClass (FieldType.array .int).toString = some comp ∧ s.vm.classes[cA]? = some k ∧ k.kind = .array comp (.array .int) := by
  obtain ⟨comp, c, k, h1, h2, h3, h4, h5⟩ := arrayOverA_spec hw
  have h6 : s.vm.findClass ("[" ++ (FieldType.array .int).toString) = some cA := (hK.2 t0 _ ht).2
  cases h5.symm.trans h6
  exact ⟨comp, k, h1, h3, h4⟩
section ZR
variable {p : Program} {l : Launch} {e : Env} {R : Room} {s : State} {m : MethodId} {args : Array Value} {below : List Frame} {meth : Method} {c : Code} {H : Heap} {locs : List Loc} {cells slots : Nat} {Q : State → Prop}
variable {cc : ByteArray} {pc : Nat} {ls : Array Slot} {rest : List Value} {D : va_G} {A : Nat → Prop} {a : Nat} {tys : xm_T} {ws : va_W} {H0 : Heap}
theorem zr_ald (hx : p.tables.exec = Jvm.exec) (hb : c.code = cc) (hK : va_K D vwCl tys s) (hP : va_P D vwCl ws H) (q0 t0 : Nat) {cA : ClassId} {n : Nat} {f : Nat → Option Nat} (ha : ws[q0]? = some (a, .inl (cA, n, .inr (.inr (.inr (.inr f)))))) (ht : tys[t0]? = some (cA, .array .int)) {i : Int32} (hin : vp_in i n) (hd : decode cc pc = .ok (.aaload, 1))
    (kk : W p l e R s m args below meth c H locs cells slots Q (F0 m (pc + 1) ls (va_rf (f i.toNatClampNeg) :: rest))) : W p l e R s m args below meth c H locs cells slots Q (F0 m pc ls (.int i :: .ref a :: rest)) := by
  have hlt : i.toNatClampNeg < n := Nat.not_le.mp fun q => hin (Or.inr q)
  refine W.aald (v := va_rf (f i.toNatClampNeg)) (ty := .array .int) hx hb (hP q0 _ ha) ((hK.2 t0 _ ht).1 n (fun j => va_rf (f j))) rfl (fun q => by cases q) ?_ ?_ rfl rfl hd kk
  · show ¬ (i < 0 ∨ (arrV _ _ _).slots.size ≤ _); rw [arrV_size]; exact hin
  · show (arrV _ _ _).slots[_]? = _; rw [arrV_read _ _ hlt]
theorem zr_ast (hx : p.tables.exec = Jvm.exec) (hb : c.code = cc) (hw : (Cond.arrayOver (.array .int)).before args s = true) (hK : va_K D vwCl tys s) (hP : va_P D vwCl ws H) (hD : va_D A ws) (hS : va_S A H0 H locs) (q0 t0 q1 t1 : Nat) {cA cB : ClassId} {n n1 v : Nat} {f : Nat → Option Nat} {g : Nat → Int32} (ha : ws[q0]? = some (a, .inl (cA, n, .inr (.inr (.inr (.inr f)))))) (ht : tys[t0]? = some (cA, .array .int)) (hv : ws[q1]? = some (v, .inl (cB, n1, .inl g))) (ht1 : tys[t1]? = some (cB, .int)) {i : Int32} (hin : vp_in i n) (hd : decode cc pc = .ok (.aastore, 1))
    (kk : ∀ (H1 : Heap) (locs1 : List Loc), va_P D vwCl (ws.set q0 (a, .inl (cA, n, .inr (.inr (.inr (.inr (va_up f i.toNatClampNeg (some v)))))))) H1 → va_D A (ws.set q0 (a, .inl (cA, n, .inr (.inr (.inr (.inr (va_up f i.toNatClampNeg (some v)))))))) → va_S A H0 H1 locs1 → W p l e R s m args below meth c H1 locs1 cells slots Q (F0 m (pc + 1) ls rest)) : W p l e R s m args below meth c H locs cells slots Q (F0 m pc ls (.ref v :: .int i :: .ref a :: rest)) := by
  have hlt : i.toNatClampNeg < n := Nat.not_le.mp fun q => hin (Or.inr q)
  obtain ⟨comp, k, e1, e2, e3⟩ := zr_rows hw hK ht
  obtain ⟨cv, v1, v2, v3⟩ := zr_int hK hP hv ht1 e1
  obtain ⟨kc, hkc⟩ := zr_class e1
  refine W.aast hx hb (hP q0 _ ha) (fun q h => by cases h) (fun h => by cases h) e2 e3 rfl hkc ⟨fun q => hin (Or.inl q), by show _ < (arrV _ _ _).slots.size; rw [arrV_size]; exact hlt⟩ v1 (fun q h => by rw [h] at v2; cases v2) (by rw [v3]; exact hkc) (by rw [v3]; exact zr_refl _ _) rfl rfl hd fun H1 e z oq => ?_
  refine kk H1 _ (hP.set hD ha ?_ oq) (hD.set ha) (hS.put z oq (hD.2 q0 _ ha))
  show H1[a]? = some (vp_cell _ _)
  rw [e, vp_cell_q, vp_cell_q, arrV_store]
  congr 2
  funext q
  by_cases hq : q = i.toNatClampNeg
  · subst hq
    simp [updV, va_up, va_rf]
  · simp [updV, va_up, hq]
theorem zr_new (hx : p.tables.exec = Jvm.exec) (hb : c.code = cc) {own : String} {index : Nat} (hown : s.vm.findClass own = some m.cls) (hl : (Cond.classLink own index "[I").before args s = true) (hw : (Cond.arrayOver (.array .int)).before args s = true) (hK : va_K D vwCl tys s) (hP : va_P D vwCl ws H) (hD : va_D A ws) (hS : va_S A H0 H locs) (hA : ∀ q, H0.size ≤ q → A q)
    {n : Int32} (hn : ¬ n < 0) (hbytes : n.toNatClampNeg * 4 ≤ 536870912) (hcells : cells + 1 ≤ R.cells) (hslots : slots + n.toNatClampNeg ≤ R.slots) (hd : decode cc pc = .ok (.anewarray index, 3))
    (kk : ∀ (q : Nat) (cA : ClassId) (H1 : Heap), va_K D vwCl (tys ++ [(cA, .array .int)]) s → va_P D vwCl (ws ++ [(q, .inl (cA, n.toNatClampNeg, .inr (.inr (.inr (.inr (fun _ => none))))))]) H1 → va_D A (ws ++ [(q, .inl (cA, n.toNatClampNeg, .inr (.inr (.inr (.inr (fun _ => none))))))]) → va_S A H0 H1 locs →
      W p l e R s m args below meth c H1 locs (cells + 1) (slots + n.toNatClampNeg) Q (F0 m (pc + 3) ls (.ref q :: rest))) : W p l e R s m args below meth c H locs cells slots Q (F0 m pc ls (.int n :: rest)) := by
  refine W.anewA (t := .int) hx hb hown hl hw rfl hd rfl hn hbytes hcells hslots fun cA kA comp f1 f2 f3 f4 => ?_
  generalize hH1 : H.push ({ cls := cA, slots := Array.replicate n.toNatClampNeg .null, vm := .none } : Cell) = H1
  have z1 : H1.size = H.size + 1 := by rw [← hH1, Array.size_push]
  have e1 : H1[H.size]? = some (arrV cA n.toNatClampNeg (fun _ => .null)) := by rw [← hH1, Array.getElem?_push_size, ← arrV_new]
  have o1 : ∀ q : Nat, q < H.size → H1[q]? = H[q]? := fun q hq => by rw [← hH1, Array.getElem?_push, if_neg (Nat.ne_of_lt hq)]
  refine kk H.size cA H1 ⟨hK.1, fun k x hx => ?_⟩ ((hP.kept fun k x hx => o1 x.1 ((hP k x hx).lt)).app (fun k x hx => ?_)) (hD.push hP rfl (hA _ hS.1)) ⟨Nat.le_trans hS.1 (by omega), fun x h1 h2 => (o1 x (Nat.lt_of_lt_of_le h1 hS.1)).trans (hS.2.1 x h1 h2), hS.2.2⟩
  · by_cases hl : k < tys.length
    · rw [List.getElem?_append_left hl] at hx
      exact hK.2 k x hx
    · rw [List.getElem?_append_right (by omega)] at hx
      have hz : k - tys.length < 1 := (List.getElem?_eq_some_iff.mp hx).1
      rw [show k - tys.length = 0 by omega] at hx
      cases hx
      exact ⟨fun N z => ⟨(fun k h => by cases h), kA, f2, comp, f3⟩, f1⟩
  · have hz : k < 1 := (List.getElem?_eq_some_iff.mp hx).1
    rw [show k = 0 by omega] at hx
    cases hx
    show H1[H.size]? = some (vp_cell _ _)
    rw [vp_cell_q]
    exact e1
end ZR
section ZS
variable {own : String} {ini : Bool} {d : Nat} {sc : List Int32} {nL : Nat}
theorem zs_alen : zs_ok own ini d sc nL (zo_alen sc) .arraylength 1 := by
  intro p l e R s m args below meth c Q cc A E D W0 C pc hd L S h nc ns t h1 h2 hf kk ls stk H locs hR
  obtain ⟨hx, hb, hml, hown, hts, hA, hRf, hRl, hlk, hini, hE⟩ := C
  obtain ⟨ws, tys, lv, r1, r2, r3, r4, hK, hP, hD, hS, hM⟩ := hR
  unfold zo_alen at hf
  split at hf
  · cases hf
    obtain ⟨w1, st1, rfl, m1, r31⟩ := xf_2_cons r3
    cases m1
    obtain ⟨xs, x1, x2, x3, x4⟩ := hE
    exact va_slen hx hb x1 x2 x3 hS hd (kk _ _ _ _ ⟨ws, tys, lv, r1, r2, xf_2_c (a := .int _) (b := .int _) rfl r31, r4, hK, hP, hD, hS, hM⟩)
  · obtain ⟨o, hh, hf1⟩ := ze_m hf
    obtain ⟨n, hn, hf2⟩ := ze_m hf1
    cases hf2
    obtain ⟨w1, st1, rfl, m1, r31⟩ := xf_2_cons r3
    obtain ⟨a, e0, rfl, hw⟩ := m1
    have hO := zm_at r4 hh hw
    have kk' := kk ls (.int (Int32.ofNat n) :: st1) H locs ⟨ws, tys, lv, r1, r2, xf_2_c (a := .int _) (b := .int _) rfl r31, r4, hK, hP, hD, hS, hM⟩
    match o, hO, hn with
    | .inr (.inl xs), ⟨cA, t0, f, k1, k2, _⟩, hn =>
      dsimp only at k1
      subst k1
      cases hn
      exact va_alen hx hb hK hP _ t0 hw k2 rfl hd kk'
    | .inr (.inr (.inl xs)), ⟨cA, t0, f, k1, k2, _⟩, hn =>
      dsimp only at k1
      subst k1
      cases hn
      exact va_alen hx hb hK hP _ t0 hw k2 rfl hd kk'
    | .inr (.inr (.inr (t, xs))), ⟨cA, t0, f, k1, k2, _⟩, hn =>
      dsimp only at k1
      subst k1
      cases hn
      exact va_alen hx hb hK hP _ t0 hw k2 rfl hd kk'
  · cases hf
theorem zs_aald : zs_ok own ini d sc nL zo_aald .aaload 1 := by
  intro p l e R s m args below meth c Q cc A E D W0 C pc hd L S h nc ns t h1 h2 hf kk ls stk H locs hR
  obtain ⟨hx, hb, hml, hown, hts, hA, hRf, hRl, hlk, hini, hE⟩ := C
  obtain ⟨ws, tys, lv, r1, r2, r3, r4, hK, hP, hD, hS, hM⟩ := hR
  obtain ⟨i, S0, rfl, hf1⟩ := ze_i hf
  obtain ⟨a0, S1, rfl, hf1⟩ := ze_r hf1
  obtain ⟨t, xs, hh, hf2⟩ := ze_q hf1
  obtain ⟨hin, hlt, hf3⟩ := ze_x hf2
  obtain ⟨x, hv, hf4⟩ := ze_n hf3
  cases hf4
  obtain ⟨w0, st0, rfl, m0, r30⟩ := xf_2_cons r3
  cases m0
  obtain ⟨w1, st1, rfl, m1, r31⟩ := xf_2_cons r30
  obtain ⟨a, e0, rfl, hw⟩ := m1
  obtain ⟨cA, t0, g, k1, k2, ⟨ht1, ht4⟩, k3, k4⟩ := zm_at r4 hh hw
  dsimp only at k1
  subst k1
  have hm : zm_V E ws (zrf x) (va_rf (g i.toNatClampNeg)) := zm_rf (k4 _ _ hv)
  have kk' := kk ls _ H locs ⟨ws, tys, lv, r1, r2, xf_2_c hm r31, r4, hK, hP, hD, hS, hM⟩
  rcases (show t = 1 ∨ t = 2 ∨ t = 3 ∨ t = 4 by omega) with rfl | rfl | rfl | rfl
  · exact va_aldq hx hb hK hP _ t0 hw k2 hin hd kk'
  · exact va_aldq hx hb hK hP _ t0 hw k2 hin hd kk'
  · exact va_aldq hx hb hK hP _ t0 hw k2 hin hd kk'
  · exact zr_ald hx hb hK hP _ t0 hw k2 hin hd kk'
theorem ze_cnd {β : Type} {b : Bool} {k : β} {r : β} (h : cond b (some k) none = some r) : b = true ∧ k = r := by
  cases b with
  | true => exact ⟨rfl, Option.some.inj h⟩
  | false => cases h
theorem zs_aast (hrow : Cond.arrayOver (.array .int) ∈ zw_B) : zs_ok own ini d sc nL zo_aast .aastore 1 := by
  intro p l e R s m args below meth c Q cc A E D W0 C pc hd L S h nc ns t h1 h2 hf kk ls stk H locs hR
  obtain ⟨hx, hb, hml, hown, hts, hA, hRf, hRl, hlk, hini, hE⟩ := C
  obtain ⟨ws, tys, lv, r1, r2, r3, r4, hK, hP, hD, hS, hM⟩ := hR
  unfold zo_aast at hf
  split at hf
  · rename_i v i a0 S0
    obtain ⟨t, xs, hh, hf2⟩ := ze_q hf
    obtain ⟨hin, hlt, hf3⟩ := ze_x hf2
    obtain ⟨x, hel, hf4⟩ := ze_m hf3
    cases hf4
    unfold zel at hel
    split at hel
    · rename_i b
      obtain ⟨hb1, hx1⟩ := ze_cnd hel
      subst hx1
      obtain ⟨w0, st0, rfl, m0, r30⟩ := xf_2_cons r3
      obtain ⟨w1, st1, rfl, m1, r31⟩ := xf_2_cons r30
      obtain ⟨w2, st2, rfl, m2, r32⟩ := xf_2_cons r31
      cases m1
      obtain ⟨vb, eb, rfl, hwb⟩ := m0
      obtain ⟨a, e0, rfl, hw⟩ := m2
      obtain ⟨cA, t0, g, k1, k2, ⟨ht1, ht4⟩, k3, k4⟩ := zm_at r4 hh hw
      dsimp only at k1
      subst k1
      have hO2 : zm_O E ws tys (.inr (.inr (.inr (t, xs.set i.toNatClampNeg (some b))))) (a, .inl (cA, xs.length, .inr (.inr (.inr (.inr (va_up g i.toNatClampNeg (some vb))))))) :=
        ⟨cA, t0, va_up g i.toNatClampNeg (some vb), by rw [List.length_set], k2, ⟨ht1, ht4⟩, by rw [List.length_set]; exact k3, fun j x hx => zm_setEl (P := zm_R ws) (v := some b) k4 (w := some vb) (show zm_R ws (some b) (some vb) from ⟨vb, eb, rfl, hwb⟩) (fun j => rfl) j x hx⟩
      have hle := xm_le_set (e' := .inl (cA, xs.length, .inr (.inr (.inr (.inr (va_up g i.toNatClampNeg (some vb))))))) hw
      have kk' := fun H1 locs1 p1 p2 p3 => kk ls st2 H1 locs1 ⟨_, tys, lv, r1, zm_L_mono hle r2, zm_S_mono hle r32, zm_set r4 hw hO2, hK, p1, p2, p3, xm_le_trans hM hle⟩
      rcases (show t = 1 ∨ t = 2 ∨ t = 3 ∨ t = 4 by omega) with rfl | rfl | rfl | rfl
      · obtain ⟨fs, hb2⟩ := zisO_of (c := 0) hb1
        obtain ⟨vs, q1, q2⟩ := zm_at r4 hb2 hwb
        dsimp only at q1
        subst q1
        obtain ⟨rr, v1, v2⟩ : ∃ r, vwCl[0]? = some r ∧ zTY 1 = .object r.1 := ⟨_, rfl, rfl⟩
        rw [v2] at k2
        exact va_astq hx hb hK hP hD hS _ t0 _ 0 hw k2 hwb v1 hin hd kk'
      · obtain ⟨fs, hb2⟩ := zisO_of (c := 5) hb1
        obtain ⟨vs, q1, q2⟩ := zm_at r4 hb2 hwb
        dsimp only at q1
        subst q1
        obtain ⟨rr, v1, v2⟩ : ∃ r, vwCl[5]? = some r ∧ zTY 2 = .object r.1 := ⟨_, rfl, rfl⟩
        rw [v2] at k2
        exact va_astq hx hb hK hP hD hS _ t0 _ 5 hw k2 hwb v1 hin hd kk'
      · obtain ⟨fs, hb2⟩ := zisO_of (c := 3) hb1
        obtain ⟨vs, q1, q2⟩ := zm_at r4 hb2 hwb
        dsimp only at q1
        subst q1
        obtain ⟨rr, v1, v2⟩ : ∃ r, vwCl[3]? = some r ∧ zTY 3 = .object r.1 := ⟨_, rfl, rfl⟩
        rw [v2] at k2
        exact va_astq hx hb hK hP hD hS _ t0 _ 3 hw k2 hwb v1 hin hd kk'
      · obtain ⟨fs, hb2⟩ := zisA_of hb1
        obtain ⟨cB, t1, g1, q1, q2, -⟩ := zm_at r4 hb2 hwb
        dsimp only at q1
        subst q1
        exact zr_ast hx hb (hts _ hrow) hK hP hD hS _ t0 _ t1 hw k2 hwb q2 hin hd kk'
    · cases hel
  · cases hf
end ZS
