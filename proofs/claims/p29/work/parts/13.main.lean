/-! a frame, whole; its answer; a method by its depth -/
section ZZ
variable {p : Program} {l : Launch} {e : Env} {R : Room} {s : State} {m : MethodId} {args : Array Value} {below : List Frame} {meth : Method} {c : Code} {Q : State → Prop} {cc : ByteArray} {nL : Nat} {own : String} {ini : Bool} {A : Nat → Prop} {E : Nat} {D : va_G} {W0 : va_W} {d : Nat} {sc : List Int32}
variable {code : List zI} {sw : List (List Nat)} {r : zR} {X : zX}
theorem zpc_at {j : Nat} {i : zI} (h : code[j]? = some i) : zpc code j = i.1 := by
  unfold zpc
  rw [h]
theorem zl_none {FD : List (List Value)} {n j : Nat} {L : zL} {S : List Value} {h : List zO} {nc ns : Nat} (hj : code[j]? = none) (hf : zl FD X d sc code sw n j L S h nc ns = some r) : False := by
  cases n with
  | zero => cases hf
  | succ n =>
    obtain ⟨i, hi, -⟩ := ze_n (show zq_n code j (fun i => zrow FD X d sc sw i j (zl FD X d sc code sw n) L S h nc ns) = some r from hf)
    rw [hj] at hi; cases hi
theorem z_far {op x y z w pc ln n j : Nat} {FD : List (List Value)} {ih : zN} {L : zL} {S : List Value} {h : List zO} {nc ns : Nat} (hm : zfarL.contains op = true) (hf : zrow FD X d sc sw (pc, ln, op, x, y, z, w) j ih L S h nc ns = some r) :
    ((op = 56 ∨ op = 57 ∨ op = 58) ∧ znew op x j FD ih L S h nc ns = some r) ∨ ((64 ≤ op ∧ op ≤ 75 ∨ op = 80 ∨ op = 81) ∧ zj op x z j sw ih L S h nc ns = some r) ∨ ((84 ≤ op ∧ op ≤ 87) ∧ zr op z S h nc ns = some r) ∨ ((op = 96 ∨ op = 97 ∨ op = 98 ∨ op = 99 ∨ op = 100) ∧ zcall op x y z j X ih L S h nc ns = some r) := by
  have h1 := List.contains_iff_mem.mp hm
  simp only [zfarL, List.mem_cons, List.not_mem_nil, or_false] at h1
  rcases h1 with rfl | rfl | rfl | rfl | rfl | rfl | rfl | rfl | rfl | rfl | rfl | rfl | rfl | rfl | rfl | rfl | rfl | rfl | rfl | rfl | rfl | rfl | rfl | rfl | rfl | rfl
  · exact Or.inl ⟨by omega, hf⟩
  · exact Or.inl ⟨by omega, hf⟩
  · exact Or.inl ⟨by omega, hf⟩
  · exact Or.inr (Or.inl ⟨by omega, hf⟩)
  · exact Or.inr (Or.inl ⟨by omega, hf⟩)
  · exact Or.inr (Or.inl ⟨by omega, hf⟩)
  · exact Or.inr (Or.inl ⟨by omega, hf⟩)
  · exact Or.inr (Or.inl ⟨by omega, hf⟩)
  · exact Or.inr (Or.inl ⟨by omega, hf⟩)
  · exact Or.inr (Or.inl ⟨by omega, hf⟩)
  · exact Or.inr (Or.inl ⟨by omega, hf⟩)
  · exact Or.inr (Or.inl ⟨by omega, hf⟩)
  · exact Or.inr (Or.inl ⟨by omega, hf⟩)
  · exact Or.inr (Or.inl ⟨by omega, hf⟩)
  · exact Or.inr (Or.inl ⟨by omega, hf⟩)
  · exact Or.inr (Or.inl ⟨by omega, hf⟩)
  · exact Or.inr (Or.inl ⟨by omega, hf⟩)
  · exact Or.inr (Or.inr (Or.inl ⟨by omega, hf⟩))
  · exact Or.inr (Or.inr (Or.inl ⟨by omega, hf⟩))
  · exact Or.inr (Or.inr (Or.inl ⟨by omega, hf⟩))
  · exact Or.inr (Or.inr (Or.inl ⟨by omega, hf⟩))
  · exact Or.inr (Or.inr (Or.inr ⟨by omega, hf⟩))
  · exact Or.inr (Or.inr (Or.inr ⟨by omega, hf⟩))
  · exact Or.inr (Or.inr (Or.inr ⟨by omega, hf⟩))
  · exact Or.inr (Or.inr (Or.inr ⟨by omega, hf⟩))
  · exact Or.inr (Or.inr (Or.inr ⟨by omega, hf⟩))
theorem z_if {q x pc : Nat} (hq : q ≤ 5) {y z w ln : Nat} : zins code sw (pc, ln, 64 + q, x, y, z, w) = ze_if q (zoff code pc x) ∧ zins code sw (pc, ln, 70 + q, x, y, z, w) = ze_ic q (zoff code pc x) := by
  rcases (show q = 0 ∨ q = 1 ∨ q = 2 ∨ q = 3 ∨ q = 4 ∨ q = 5 by omega) with rfl | rfl | rfl | rfl | rfl | rfl <;> exact ⟨rfl, rfl⟩
theorem zs_fd {own : String} {w x : Nat} {fs : List Value} (h : zg_FD[x]? = some fs) : fs.all (fun v => zfit 0 v || zfit 2 v || zfit 3 v) = true := by
  have h1 : zg_FD.all (fun fs => fs.all (fun v => zfit 0 v || zfit 2 v || zfit 3 v)) = true := by decide +kernel
  exact List.all_eq_true.mp h1 fs (List.mem_of_getElem? h)
theorem zl_ok (C : zf_C p R s m args meth c cc nL own ini A E d sc) (hX : ∀ (k : Nat) (as : List Value) (h : List zO) (R0 : zR), X k as h = some R0 → ∃ d', d = d' + 1 ∧ zw_M l E D A sc d' k as h R0)
    (hG : zgood own cc nL ini code sw)
    (hret : ∀ (j pc ln op x y z w : Nat), code[j]? = some (pc, ln, op, x, y, z, w) → 84 ≤ op → op ≤ 87 → ∀ (L : zL) (S : List Value) (h : List zO) (nc ns : Nat), zr op z S h nc ns = some r → zf_G p l e R s m args below meth c Q nL A E D W0 pc L S h nc ns) :
    ∀ (n j : Nat) (L : zL) (S : List Value) (h : List zO) (nc ns : Nat), zl zg_FD X d sc code sw n j L S h nc ns = some r → r.2.2.1 ≤ R.cells → r.2.2.2 ≤ R.slots → zf_G p l e R s m args below meth c Q nL A E D W0 (zpc code j) L S h nc ns := by
  intro n
  induction n with
  | zero => intro j L S h nc ns hf; exact nomatch hf
  | succ n ih =>
    intro j L S h nc ns hf hc hs
    obtain ⟨i, hi, hf1⟩ := ze_n (show zq_n code j (fun i => zrow zg_FD X d sc sw i j (zl zg_FD X d sc code sw n) L S h nc ns) = some r from hf)
    rw [zpc_at hi]
    have hm : ∀ {j : Nat} {L : zL} {S : List Value} {h : List zO} {nc ns : Nat}, zl zg_FD X d sc code sw n j L S h nc ns = some r → nc ≤ r.2.2.1 ∧ ns ≤ r.2.2.2 := fun q => zl_mono n q
    have hgood := hG.1 j i hi
    obtain ⟨pc, ln, op, x, y, z, w⟩ := i
    show zf_G p l e R s m args below meth c Q nL A E D W0 pc L S h nc ns
    have hjump : ∀ t, zh_go p l e R s m args below meth c Q nL A E D W0 (zl zg_FD X d sc code sw n) t (zpc code t) r := fun t L' S' h' nc' ns' hk => ih t _ _ _ _ _ hk hc hs
    have hnext : zh_go p l e R s m args below meth c Q nL A E D W0 (zl zg_FD X d sc code sw n) (j + 1) (pc + ln) r := by
      intro L' S' h' nc' ns' hk
      cases hj : code[j + 1]? with
      | none => exact (zl_none hj hk).elim
      | some i' =>
        have h1 := hG.2 j _ _ hi hj
        have h2 := zpc_at hj
        have h3 : pc + ln = zpc code (j + 1) := by rw [h2]; exact h1
        rw [h3]
        exact hjump (j + 1) _ _ _ _ _ hk
    rcases hgood with h0 | ⟨hdec, hcnd, hsite, hval⟩
    · have h0 : op = 200 := h0
      subst h0
      exact nomatch hf1
    rcases ze_or hval with hsim | hfar
    · have hnear := z_near hsim
      have hf2 : zq_m (z1 sc d op x y z L S h) (fun t => zl zg_FD X d sc code sw n (j + 1) t.1 t.2.1 t.2.2 nc ns) = some r := by
        rcases ze_cond hf1 with ⟨-, h1⟩ | ⟨h1, -⟩
        · exact h1
        · exact absurd (hnear.symm.trans h1) (by decide)
      obtain ⟨t, ht, hk⟩ := ze_m hf2
      have hb := hm hk
      exact z_step hsim hcnd hsite p l e R s m args below meth c Q cc A E D W0 C pc hdec L S h nc ns t (by omega) (by omega) ht (hnext _ _ _ _ _ hk)
    have hln : op ≠ 81 → ln = zlenOf op := fun hn => by
      rcases ze_or (ze_and hcnd).1 with h | h
      · exact absurd (Nat.eq_of_beq_eq_true h) hn
      · exact Nat.eq_of_beq_eq_true h
    have hc2 := (ze_and hcnd).2
    have htgt : ∀ t : Nat, (pc : Int) + zoff code pc t = (zpc code t : Int) := fun t => by unfold zoff; omega
    rcases z_far (n := n) (op := op) (show zfarL.contains op = true from hfar) hf1 with ⟨hop, h1⟩ | ⟨hop, h1⟩ | ⟨hop, h1⟩ | ⟨hop, h1⟩
    · unfold znew at h1
      rcases hop with rfl | rfl | rfl
      · have hln := hln (by decide)
        subst hln
        obtain ⟨fs, hfs, hk⟩ := ze_n (show zq_n zg_FD x (fun fs => zl zg_FD X d sc code sw n (j + 1) L (.ref h.length :: S) (h ++ [.inl (x, fs)]) (nc + 1) (ns + fs.length)) = some r from h1)
        have hb := hm hk
        exact zn_new C hsite hdec hfs (zs_fd (own := own) (w := w) hfs) (by omega) (by omega) (hnext _ _ _ _ _ hk)
      · have hln := hln (by decide)
        subst hln
        obtain ⟨v, S1, rfl, h2⟩ := ze_i (show zq_i S (fun m S => zq_b (and (decide (0 ≤ m.toInt)) (decide (m.toInt.toNat ≤ 1048576))) (zl zg_FD X d sc code sw n (j + 1) L (.ref h.length :: S) (h ++ [zdef x m.toInt.toNat]) (nc + 1) (ns + m.toInt.toNat))) = some r from h1)
        obtain ⟨g1, hk⟩ := ze_b h2
        obtain ⟨g2, g3⟩ := ze_and g1
        have hb := hm hk
        exact zn_newa C ((ze_or hc2).imp Nat.eq_of_beq_eq_true Nat.eq_of_beq_eq_true) hsite hdec (of_decide_eq_true g2) (of_decide_eq_true g3) (by omega) (by omega) (hnext _ _ _ _ _ hk)
      · have hln := hln (by decide)
        subst hln
        obtain ⟨v, S1, rfl, h2⟩ := ze_i (show zq_i S (fun m S => zq_b (and (decide (0 ≤ m.toInt)) (decide (m.toInt.toNat ≤ 1048576))) (zl zg_FD X d sc code sw n (j + 1) L (.ref h.length :: S) (h ++ [zdef x m.toInt.toNat]) (nc + 1) (ns + m.toInt.toNat))) = some r from h1)
        obtain ⟨g1, hk⟩ := ze_b h2
        obtain ⟨g2, g3⟩ := ze_and g1
        have hb := hm hk
        exact zn_newq C hsite hdec (of_decide_eq_true g2) (of_decide_eq_true g3) (by omega) (by omega) (hnext _ _ _ _ _ hk)
    · unfold zj at h1
      rcases (show op ≤ 69 ∨ (70 ≤ op ∧ op ≤ 75) ∨ op = 80 ∨ op = 81 by omega) with h2 | h2 | rfl | rfl
      · obtain ⟨q, rfl⟩ : ∃ q, op = 64 + q := ⟨op - 64, by omega⟩
        have hq : q ≤ 5 := by omega
        have hln := hln (by omega)
        have hl3 : zlenOf (64 + q) = 3 := by
          rcases (show q = 0 ∨ q = 1 ∨ q = 2 ∨ q = 3 ∨ q = 4 ∨ q = 5 by omega) with rfl | rfl | rfl | rfl | rfl | rfl <;> rfl
        rw [hl3] at hln
        subst hln
        rw [(z_if hq).1] at hdec
        rw [Nat.ble_eq_true_of_le h2, Nat.add_sub_cancel_left] at h1
        obtain ⟨a, S1, rfl, hk⟩ := ze_i (show zq_i S (fun a S => zl zg_FD X d sc code sw n (cond (zrel q a 0) x (j + 1)) L S h nc ns) = some r from h1)
        refine zn_br C hq hdec (htgt x) ?_
        cases hz : zrel q a 0 with
        | true => rw [hz] at hk; exact hjump x _ _ _ _ _ hk
        | false => rw [hz] at hk; exact hnext _ _ _ _ _ hk
      · obtain ⟨q, rfl⟩ : ∃ q, op = 70 + q := ⟨op - 70, by omega⟩
        have hq : q ≤ 5 := by omega
        have hln := hln (by omega)
        have hl3 : zlenOf (70 + q) = 3 := by
          rcases (show q = 0 ∨ q = 1 ∨ q = 2 ∨ q = 3 ∨ q = 4 ∨ q = 5 by omega) with rfl | rfl | rfl | rfl | rfl | rfl <;> rfl
        rw [hl3] at hln
        subst hln
        rw [(z_if hq).2] at hdec
        have hnb : Nat.ble (70 + q) 69 = false := by
          cases hh : Nat.ble (70 + q) 69 with
          | false => rfl
          | true => have := Nat.le_of_ble_eq_true hh; omega
        rw [hnb, Nat.ble_eq_true_of_le h2.2, Nat.add_sub_cancel_left] at h1
        obtain ⟨b, S1, rfl, h3⟩ := ze_i (show zq_i S (fun b S => zq_i S fun a S => zl zg_FD X d sc code sw n (cond (zrel q a b) x (j + 1)) L S h nc ns) = some r from h1)
        obtain ⟨a, S2, rfl, hk⟩ := ze_i h3
        refine zn_cmp C hq hdec (htgt x) ?_
        cases hz : zrel q a b with
        | true => rw [hz] at hk; exact hjump x _ _ _ _ _ hk
        | false => rw [hz] at hk; exact hnext _ _ _ _ _ hk
      · have hln := hln (by decide)
        subst hln
        exact zn_goto C hdec (htgt x) (hjump x _ _ _ _ _ h1)
      · obtain ⟨a, S1, rfl, h2⟩ := ze_i (show zq_i S (fun a S => zq_n sw x fun w => match w with
          | lo :: df :: ts => zl zg_FD X d sc code sw n (if a.toInt < (zc lo).toInt then df else ts.getD (a.toInt - (zc lo).toInt).toNat df) L S h nc ns
          | _ => none) = some r from h1)
        obtain ⟨ww, hw, h3⟩ := ze_n h2
        split at h3
        · rename_i lo df ts
          have hlo : (match sw[x]? with
            | some (lo :: _ :: _) => Nat.ble lo 4294967295
            | _ => false) = true := hc2
          rw [hw] at hlo
          have hlo := Nat.le_of_ble_eq_true hlo
          have hd2 : zins code sw (pc, ln, 81, x, y, z, w) = .tableswitch ((zpc code df : Int) - (pc : Int)) ((lo : Int) - 2147483648) ((lo : Int) - 2147483648 + (ts.length : Int) - 1) (ts.map fun t => (zpc code t : Int) - (pc : Int)).toArray := by
            show (match sw[x]? with
              | some (lo :: df :: ts) => Instr.tableswitch ((zpc code df : Int) - (pc : Int)) ((lo : Int) - 2147483648) ((lo : Int) - 2147483648 + (ts.length : Int) - 1) (ts.map fun t => (zpc code t : Int) - (pc : Int)).toArray
              | _ => .nop) = _
            rw [hw]
          rw [hd2] at hdec
          exact zn_sw C (by omega) hdec (hjump _ _ _ _ _ _ h3)
        · cases h3
    · exact hret j pc ln op x y z w hi hop.1 hop.2 L S h nc ns h1
    · have hn81 : op ≠ 81 := by omega
      have hl3 : zlenOf op = 3 := by
        rcases hop with rfl | rfl | rfl | rfl | rfl <;> rfl
      have hln := (hln hn81).trans hl3
      refine zc_call C hop hX hdec hln hsite hm ?_ h1 hc hs
      rw [hln] at hnext
      exact hnext
/-- the answer's type fits the way of returning -/
def zretB (k op z : Nat) : Bool := match op with
  | 84 => decide (zg_RT k = none)
  | 85 => cond (Nat.beq z 1) (decide (zg_RT k = some .boolean)) (and (Nat.beq z 0) (decide (zg_RT k = some .int)))
  | 86 => match zg_RT k with
    | some (.object _) => true
    | some (.array _) => true
    | _ => false
  | 87 => decide (zg_RT k = some .long)
  | _ => true
end ZZ
section ZRet
variable {p : Program} {l : Launch} {e : Env} {R : Room} {s : State} {m : MethodId} {args : Array Value} {below : List Frame} {meth : Method} {c : Code} {cc : ByteArray} {nL : Nat} {own : String} {ini : Bool} {A : Nat → Prop} {E : Nat} {D : va_G} {W0 : va_W} {d : Nat} {sc : List Int32}
variable {code : List zI} {sw : List (List Nat)} {r : zR} {k : Nat}
theorem zn_ret (C : zf_C p R s m args meth c cc nL own ini A E d sc) (hr : meth.sig.returnType = zg_RT k) {pc op z ln x y w : Nat} (h84 : 84 ≤ op) (h87 : op ≤ 87) (hd : decode cc pc = .ok (zins code sw (pc, ln, op, x, y, z, w), ln)) (hln : ln = 1) (hB : zretB k op z = true) {L : zL} {S : List Value} {h : List zO} {nc ns : Nat} (hf : zr op z S h nc ns = some r) :
    zf_G p l e R s m args below meth c (MQ below (zw_Q E D A W0 r) args s r.2.2.1 r.2.2.2 A) nL A E D W0 pc L S h nc ns := by
  intro ls stk H locs hR
  obtain ⟨hx, hb, hml, hown, hts, hA, hRf, hRl, hlk, hini, hE⟩ := C
  obtain ⟨ws, tys, lv, r1, r2, r3, r4, hK, hP, hD, hS, hM⟩ := hR
  subst hln
  obtain ⟨hmh, hmr, hms⟩ := zr_counts hf
  rw [hmr, hms]
  have hW : ∀ (t : State), t.heap = H → s.WarmedH t.vm → zw_W E D A W0 ws tys r s t := fun t ht hW => ⟨hM, by rw [hmh]; exact r4, va_K.moved hW.alike hK, by rw [ht]; exact hP, hD, hS.F ht⟩
  unfold zr at hf
  split at hf
  · obtain ⟨g1, g2⟩ := ze_b hf
    have g1 := Nat.eq_of_beq_eq_true g1
    subst g1
    have g5 := xf_2_nil r3
    subst g5
    have g3 : r.1 = none := by cases g2; rfl
    have hrt : meth.sig.returnType = none := by rw [hr]; exact of_decide_eq_true hB
    exact W.vret hx hb hrt (fun t ht hw => ⟨none, ws, tys, rfl, Or.inl ⟨g3, rfl⟩, hW t ht hw⟩) hS.2.2 hd hlk
  · rename_i v
    obtain ⟨g1, g2⟩ := ze_b hf
    have g3 : r.1 = some v := by cases g2; rfl
    obtain ⟨x0, st, rfl, m0, r5⟩ := xf_2_cons r3
    have g5 := xf_2_nil r5
    subst g5
    have hq : ∀ t : State, t.heap = H → s.WarmedH t.vm → zw_Q E D A W0 r args s (.returned (some x0)) t := fun t ht hw => ⟨some x0, ws, tys, rfl, Or.inr ⟨v, x0, g3, rfl, m0⟩, hW t ht hw⟩
    rcases (show op = 84 ∨ op = 85 ∨ op = 86 ∨ op = 87 by omega) with rfl | rfl | rfl | rfl
    · exact absurd (show false = true from g1) (by decide)
    · have g1 : zfit z v = true := g1
      have hB' : cond (Nat.beq z 1) (decide (zg_RT k = some .boolean)) (and (Nat.beq z 0) (decide (zg_RT k = some .int))) = true := hB
      cases hz : Nat.beq z 1 with
      | true =>
        rw [hz] at hB'
        have ez := Nat.eq_of_beq_eq_true hz
        subst ez
        have hrt : meth.sig.returnType = some .boolean := by rw [hr]; exact of_decide_eq_true hB'
        rcases zm_fit g1 m0 with ⟨h0, -⟩ | ⟨-, n, rfl, rfl, hn⟩ | ⟨h0, -⟩ | ⟨h0, -⟩
        · cases h0
        · refine W.zret hx hb hrt ?_ hq hS.2.2 hd hlk
          rcases hn with rfl | rfl <;> rfl
        · cases h0
        · cases h0
      | false =>
        rw [hz] at hB'
        obtain ⟨ez, hB'⟩ := ze_and (a := Nat.beq z 0) hB'
        have ez := Nat.eq_of_beq_eq_true ez
        subst ez
        have hrt : meth.sig.returnType = some .int := by rw [hr]; exact of_decide_eq_true hB'
        rcases zm_fit g1 m0 with ⟨-, n, rfl, rfl⟩ | ⟨h0, -⟩ | ⟨h0, -⟩ | ⟨h0, -⟩
        · exact W.iret hx hb hrt hq hS.2.2 hd hlk
        · cases h0
        · cases h0
        · cases h0
    · have g1 : zfit 2 v = true := g1
      have hrt : ∃ rt, meth.sig.returnType = some rt ∧ ((∃ n, rt = .object n) ∨ ∃ t, rt = .array t) := by
        rw [hr]
        have hB' : (match zg_RT k with
          | some (.object _) => true
          | some (.array _) => true
          | _ => false) = true := hB
        split at hB'
        · rename_i n hn; exact ⟨_, hn, Or.inl ⟨n, rfl⟩⟩
        · rename_i n hn; exact ⟨_, hn, Or.inr ⟨n, rfl⟩⟩
        · cases hB'
      obtain ⟨rt, hrt, hk⟩ := hrt
      rcases zm_fit g1 m0 with ⟨h0, -⟩ | ⟨h0, -⟩ | ⟨-, q, rfl⟩ | ⟨h0, -⟩
      · cases h0
      · cases h0
      · exact W.aret hx hb hrt hk (by cases q with
          | none => exact Or.inl rfl
          | some a => exact Or.inr ⟨a, rfl⟩) hq hS.2.2 hd hlk
      · cases h0
    · have g1 : zfit 3 v = true := g1
      have hrt : meth.sig.returnType = some .long := by rw [hr]; exact of_decide_eq_true hB
      rcases zm_fit g1 m0 with ⟨h0, -⟩ | ⟨h0, -⟩ | ⟨h0, -⟩ | ⟨-, n, rfl, rfl⟩
      · cases h0
      · cases h0
      · cases h0
      · exact W.lret hx hb hrt hq hS.2.2 hd hlk
  · cases hf
end ZRet
