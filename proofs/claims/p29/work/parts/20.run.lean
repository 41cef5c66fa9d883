/-! runs, over cells by number: from n cells to n', making so many slots -/
def zh (n : Nat) (H : Nat → zO) : List zO := (List.range n).map H
def zU (H : Nat → zO) (a : Nat) (x : zO) : Nat → zO := fun b => if b = a then x else H b
theorem zh_len {n : Nat} {H : Nat → zO} : (zh n H).length = n := by unfold zh; rw [List.length_map, List.length_range]
theorem zh_get {n a : Nat} {H : Nat → zO} (h : a < n) : (zh n H)[a]? = some (H a) := by
  unfold zh
  rw [List.getElem?_map, List.getElem?_range h]; rfl
theorem zh_set {n a : Nat} {H : Nat → zO} {x : zO} : (zh n H).set a x = zh n (zU H a x) := by
  apply List.ext_getElem?
  intro i
  rw [List.getElem?_set, zh_len]
  by_cases hi : i < n
  · rw [zh_get hi, zh_get hi]
    unfold zU
    by_cases he : a = i
    · subst he
      rw [if_pos rfl, if_pos hi, if_pos rfl]
    · rw [if_neg he, if_neg (fun q => he q.symm)]
  · have h1 : (zh n H)[i]? = none := List.getElem?_eq_none (by rw [zh_len]; omega)
    have h2 : (zh n (zU H a x))[i]? = none := List.getElem?_eq_none (by rw [zh_len]; omega)
    rw [h1, h2]
    by_cases he : a = i
    · subst he
      rw [if_pos rfl, if_neg hi]
    · rw [if_neg he]
theorem zU_eq {H : Nat → zO} {a : Nat} {x : zO} : zU H a x a = x := if_pos rfl
theorem zU_ne {H : Nat → zO} {a b : Nat} {x : zO} (h : b ≠ a) : zU H a x b = H b := if_neg h
def zG (sc : List Int32) (C : List zI) (W : List (List Nat)) (n dd j : Nat) (L : zL) (S : List Value) (H : Nat → zO) (v : Option Value) (n' : Nat) (H' : Nat → zO) (q' : Nat) : Prop :=
  n ≤ n' ∧ ∃ F0 : Nat, ∀ d F f : Nat, dd ≤ d → F0 ≤ F → F0 ≤ f → ∀ nc ns : Nat, zl zg_FD (zx zg_FD zg_MT sc F d) d sc C W f j L S (zh n H) nc ns = some (v, zh n' H', nc + (n' - n), ns + q')
def zP (sc : List Int32) (n dd k : Nat) (as : List Value) (H : Nat → zO) (v : Option Value) (n' : Nat) (H' : Nat → zO) (q' : Nat) : Prop :=
  n ≤ n' ∧ ∃ F0 : Nat, ∀ d F : Nat, dd ≤ d → F0 ≤ F → zx zg_FD zg_MT sc F d k as (zh n H) = some (v, zh n' H', n' - n, q')
theorem zP_mono {sc : List Int32} {n n' dd dd' k q' : Nat} {as : List Value} {H H' : Nat → zO} {v : Option Value} (hd : dd ≤ dd') (h : zP sc n dd k as H v n' H' q') : zP sc n dd' k as H v n' H' q' := by
  obtain ⟨h0, F0, h⟩ := h
  exact ⟨h0, F0, fun d F h1 h2 => h d F (by omega) h2⟩
section ZGs
variable {sc : List Int32} {C : List zI} {W : List (List Nat)} {n n1 n' q' q1 q2 dd j : Nat} {L L' : zL} {S S' : List Value} {H H1 H' : Nat → zO} {v : Option Value} {pc ln op x y z w : Nat}
theorem g_row (hc : C[j]? = some (pc, ln, op, x, y, z, w)) (h : n ≤ n' ∧ ∃ F0 : Nat, ∀ d F f : Nat, dd ≤ d → F0 ≤ F → F0 ≤ f → ∀ nc ns : Nat, zrow zg_FD (zx zg_FD zg_MT sc F d) d sc W (pc, ln, op, x, y, z, w) j (zl zg_FD (zx zg_FD zg_MT sc F d) d sc C W f) L S (zh n H) nc ns = some (v, zh n' H', nc + (n' - n), ns + q')) : zG sc C W n dd j L S H v n' H' q' := by
  obtain ⟨h0, F0, h⟩ := h
  refine ⟨h0, F0 + 1, fun d F f h1 h2 h3 nc ns => ?_⟩
  obtain ⟨f', rfl⟩ : ∃ f', f = f' + 1 := ⟨f - 1, by omega⟩
  show zq_n C j (fun i => zrow zg_FD (zx zg_FD zg_MT sc F d) d sc W i j (zl zg_FD (zx zg_FD zg_MT sc F d) d sc C W f') L S (zh n H) nc ns) = _
  unfold zq_n
  rw [hc]
  exact h d F f' h1 (by omega) (by omega) nc ns
theorem g_step (hc : C[j]? = some (pc, ln, op, x, y, z, w)) (hn : (or (Nat.ble op 51) (and (Nat.ble 102 op) (Nat.ble op 111))) = true) (h1 : ∀ d, dd ≤ d → z1 sc d op x y z L S (zh n H) = some (L', S', zh n H1)) (hk : zG sc C W n dd (j + 1) L' S' H1 v n' H' q') : zG sc C W n dd j L S H v n' H' q' := by
  obtain ⟨h0, F0, hk⟩ := hk
  refine g_row hc ⟨h0, F0, fun d F f q1 q2 q3 nc ns => ?_⟩
  unfold zrow
  dsimp only
  rw [hn]
  show zq_m (z1 sc d op x y z L S (zh n H)) _ = _
  rw [h1 d q1]
  exact hk d F f q1 q2 q3 nc ns
/-- a jump -/
theorem g_go (hc : C[j]? = some (pc, ln, 80, x, y, z, w)) (hk : zG sc C W n dd x L S H v n' H' q') : zG sc C W n dd j L S H v n' H' q' := by
  obtain ⟨h0, F0, hk⟩ := hk
  exact g_row hc ⟨h0, F0, fun d F f q1 q2 q3 nc ns => hk d F f q1 q2 q3 nc ns⟩
theorem g_br {q : Nat} {a : Int32} (hq : q ≤ 5) (hc : C[j]? = some (pc, ln, 64 + q, x, y, z, w)) (ht : zrel q a 0 = true → zG sc C W n dd x L S H v n' H' q') (hf : zrel q a 0 = false → zG sc C W n dd (j + 1) L S H v n' H' q') : zG sc C W n dd j L (.int a :: S) H v n' H' q' := by
  have key : ∀ t : Bool, zrel q a 0 = t → zG sc C W n dd j L (.int a :: S) H v n' H' q' := by
    intro t hz
    have hk : zG sc C W n dd (cond (zrel q a 0) x (j + 1)) L S H v n' H' q' := by
      cases t with
      | true => rw [hz]; exact ht hz
      | false => rw [hz]; exact hf hz
    obtain ⟨h0, F0, hk⟩ := hk
    refine g_row hc ⟨h0, F0, fun d F f q1 q2 q3 nc ns => ?_⟩
    rcases (show q = 0 ∨ q = 1 ∨ q = 2 ∨ q = 3 ∨ q = 4 ∨ q = 5 by omega) with rfl | rfl | rfl | rfl | rfl | rfl <;> exact hk d F f q1 q2 q3 nc ns
  exact key _ rfl
theorem g_cmp {q : Nat} {a b : Int32} (hq : q ≤ 5) (hc : C[j]? = some (pc, ln, 70 + q, x, y, z, w)) (ht : zrel q a b = true → zG sc C W n dd x L S H v n' H' q') (hf : zrel q a b = false → zG sc C W n dd (j + 1) L S H v n' H' q') : zG sc C W n dd j L (.int b :: .int a :: S) H v n' H' q' := by
  have key : ∀ t : Bool, zrel q a b = t → zG sc C W n dd j L (.int b :: .int a :: S) H v n' H' q' := by
    intro t hz
    have hk : zG sc C W n dd (cond (zrel q a b) x (j + 1)) L S H v n' H' q' := by
      cases t with
      | true => rw [hz]; exact ht hz
      | false => rw [hz]; exact hf hz
    obtain ⟨h0, F0, hk⟩ := hk
    refine g_row hc ⟨h0, F0, fun d F f q1 q2 q3 nc ns => ?_⟩
    rcases (show q = 0 ∨ q = 1 ∨ q = 2 ∨ q = 3 ∨ q = 4 ∨ q = 5 by omega) with rfl | rfl | rfl | rfl | rfl | rfl <;> exact hk d F f q1 q2 q3 nc ns
  exact key _ rfl
/-- a tableswitch -/
theorem g_sw {a : Int32} {lo df t : Nat} {ts : List Nat} (hc : C[j]? = some (pc, ln, 81, x, y, z, w)) (hw : W[x]? = some (lo :: df :: ts)) (ht : (if a.toInt < (zc lo).toInt then df else ts.getD (a.toInt - (zc lo).toInt).toNat df) = t) (hk : zG sc C W n dd t L S H v n' H' q') : zG sc C W n dd j L (.int a :: S) H v n' H' q' := by
  obtain ⟨h0, F0, hk⟩ := hk
  refine g_row hc ⟨h0, F0, fun d F f q1 q2 q3 nc ns => ?_⟩
  have key : zq_n W x (fun w => match w with
    | lo :: df :: ts => zl zg_FD (zx zg_FD zg_MT sc F d) d sc C W f (if a.toInt < (zc lo).toInt then df else ts.getD (a.toInt - (zc lo).toInt).toNat df) L S (zh n H) nc ns
    | _ => none) = some (v, zh n' H', nc + (n' - n), ns + q') := by
    unfold zq_n
    rw [hw]
    show zl zg_FD (zx zg_FD zg_MT sc F d) d sc C W f (if a.toInt < (zc lo).toInt then df else ts.getD (a.toInt - (zc lo).toInt).toNat df) L S (zh n H) nc ns = _
    rw [ht]
    exact hk d F f q1 q2 q3 nc ns
  exact key
theorem g_vret (hc : C[j]? = some (pc, ln, 84, x, y, z, w)) : zG sc C W n dd j L [] H none n H 0 := g_row hc ⟨Nat.le_refl n, 0, fun _ _ _ _ _ _ nc ns => by rw [Nat.sub_self]; rfl⟩
theorem g_iret {a : Value} (hc : C[j]? = some (pc, ln, 85, x, y, z, w)) (hz : zfit z a = true) : zG sc C W n dd j L [a] H (some a) n H 0 := by
  refine g_row hc ⟨Nat.le_refl n, 0, fun d F f _ _ _ nc ns => ?_⟩
  rw [Nat.sub_self]
  show zq_b (zfit z a) _ = _
  rw [hz]; rfl
theorem g_aret {a : Value} (hc : C[j]? = some (pc, ln, 86, x, y, z, w)) (hz : zfit 2 a = true) : zG sc C W n dd j L [a] H (some a) n H 0 := by
  refine g_row hc ⟨Nat.le_refl n, 0, fun d F f _ _ _ nc ns => ?_⟩
  rw [Nat.sub_self]
  show zq_b (zfit 2 a) _ = _
  rw [hz]; rfl
theorem g_lret {a : Int64} (hc : C[j]? = some (pc, ln, 87, x, y, z, w)) : zG sc C W n dd j L [.long a] H (some (.long a)) n H 0 := by
  refine g_row hc ⟨Nat.le_refl n, 0, fun d F f _ _ _ nc ns => ?_⟩
  rw [Nat.sub_self]
  rfl
/-- a static call -/
theorem g_stat {as : List Value} {u : Option Value} (hc : C[j]? = some (pc, ln, op, x, y, z, w)) (ho : op = 96 ∨ op = 97) (hl : as.length = y) (h4 : zwd S ≤ 8) (hP : zP sc n dd x as H u n1 H1 q1) (hk : zG sc C W n1 dd (j + 1) L (u.toList ++ S) H1 v n' H' q2) : zG sc C W n dd j L (as.reverse ++ S) H v n' H' (q1 + q2) := by
  obtain ⟨i1, F1, hP⟩ := hP
  obtain ⟨i0, F0, hk⟩ := hk
  refine g_row hc ⟨by omega, F0 + F1, fun d F f h1 h2 h3 nc ns => ?_⟩
  have e1 : zrow zg_FD (zx zg_FD zg_MT sc F d) d sc W (pc, ln, op, x, y, z, w) j (zl zg_FD (zx zg_FD zg_MT sc F d) d sc C W f) L (as.reverse ++ S) (zh n H) nc ns = zcall op x y z j (zx zg_FD zg_MT sc F d) (zl zg_FD (zx zg_FD zg_MT sc F d) d sc C W f) L (as.reverse ++ S) (zh n H) nc ns := by
    rcases ho with rfl | rfl <;> rfl
  rw [e1]
  unfold zcall
  have hlr : as.reverse.length = y := by rw [List.length_reverse]; exact hl
  rw [Nat.ble_eq_true_of_le (by rw [List.length_append]; omega), List.drop_left' hlr, List.take_left' hlr, List.reverse_reverse]
  have e2 : Nat.ble op 97 = true := by rcases ho with rfl | rfl <;> rfl
  rw [e2]
  show zq_b (Nat.ble (zwd S) 8) (zq_m (zx zg_FD zg_MT sc F d x as (zh n H)) _) = _
  rw [Nat.ble_eq_true_of_le h4, hP d F h1 (by omega)]
  refine (hk d F f h1 (by omega) (by omega) (nc + (n1 - n)) (ns + q1)).trans ?_
  rw [show nc + (n1 - n) + (n' - n1) = nc + (n' - n) by omega, Nat.add_assoc]
/-- a call of an object's method -/
theorem g_obj {as : List Value} {u : Option Value} {a : Nat} {fs : List Value} (hc : C[j]? = some (pc, ln, op, x, y, z, w)) (ho : op = 98 ∨ op = 99 ∨ op = 100) (hl : as.length = y) (h4 : zwd S ≤ 8) (ha : a < n) (hH : H a = .inl (z, fs)) (hP : zP sc n dd x (.ref a :: as) H u n1 H1 q1) (hk : zG sc C W n1 dd (j + 1) L (u.toList ++ S) H1 v n' H' q2) : zG sc C W n dd j L (as.reverse ++ .ref a :: S) H v n' H' (q1 + q2) := by
  obtain ⟨i1, F1, hP⟩ := hP
  obtain ⟨i0, F0, hk⟩ := hk
  refine g_row hc ⟨by omega, F0 + F1, fun d F f h1 h2 h3 nc ns => ?_⟩
  have e1 : zrow zg_FD (zx zg_FD zg_MT sc F d) d sc W (pc, ln, op, x, y, z, w) j (zl zg_FD (zx zg_FD zg_MT sc F d) d sc C W f) L (as.reverse ++ .ref a :: S) (zh n H) nc ns = zcall op x y z j (zx zg_FD zg_MT sc F d) (zl zg_FD (zx zg_FD zg_MT sc F d) d sc C W f) L (as.reverse ++ .ref a :: S) (zh n H) nc ns := by
    rcases ho with rfl | rfl | rfl <;> rfl
  rw [e1]
  unfold zcall
  have hlr : as.reverse.length = y := by rw [List.length_reverse]; exact hl
  rw [Nat.ble_eq_true_of_le (by rw [List.length_append]; omega), List.drop_left' hlr, List.take_left' hlr, List.reverse_reverse]
  have e2 : Nat.ble op 97 = false := by rcases ho with rfl | rfl | rfl <;> rfl
  have e3 : zisO (zh n H) a z = true := by
    unfold zisO
    rw [zh_get ha, hH]
    exact Nat.beq_refl z
  rw [e2]
  show zq_b (and (Nat.ble (zwd S) 8) (zisO (zh n H) a z)) (zq_m (zx zg_FD zg_MT sc F d x (.ref a :: as) (zh n H)) _) = _
  rw [Nat.ble_eq_true_of_le h4, e3, hP d F h1 (by omega)]
  refine (hk d F f h1 (by omega) (by omega) (nc + (n1 - n)) (ns + q1)).trans ?_
  rw [show nc + (n1 - n) + (n' - n1) = nc + (n' - n) by omega, Nat.add_assoc]
/-- a method out of its frame -/
theorem g_meth {k ml : Nat} {g : List zM} {as : List Value} (hg : zg_MT[k / 16]? = some g) (ht : g[k % 16]? = some (C, W, ml)) (hs : zsz as ≤ ml) (hk : zG sc C W n dd 0 (zargs 0 as) [] H v n' H' q') : zP sc n (dd + 1) k as H v n' H' q' := by
  obtain ⟨h0, F0, hk⟩ := hk
  refine ⟨h0, F0, fun d F h1 h2 => ?_⟩
  obtain ⟨d', rfl⟩ : ∃ d', d = d' + 1 := ⟨d - 1, by omega⟩
  show zq_n zg_MT (k / 16) (fun g => zq_n g (k % 16) fun t => zq_b (Nat.ble (zsz as) t.2.2) (zl zg_FD (zx zg_FD zg_MT sc F d') d' sc t.1 t.2.1 F 0 (zargs 0 as) [] (zh n H) 0 0)) = _
  unfold zq_n
  rw [hg]
  dsimp only
  rw [ht]
  dsimp only
  rw [Nat.ble_eq_true_of_le hs]
  refine (hk d' F F (by omega) h2 h2 0 0).trans ?_
  rw [Nat.zero_add, Nat.zero_add]
/-- a new row of numbers (or of references: t says which) -/
theorem g_newA {m : Int32} (hc : C[j]? = some (pc, ln, op, x, y, z, w)) (ho : op = 57 ∨ op = 58) (h0 : 0 ≤ m.toInt) (h1 : m.toInt.toNat ≤ 1048576) (hk : zG sc C W (n + 1) dd (j + 1) L (.ref n :: S) (zU H n (zdef x m.toInt.toNat)) v n' H' q') : zG sc C W n dd j L (.int m :: S) H v n' H' (m.toInt.toNat + q') := by
  obtain ⟨i0, F0, hk⟩ := hk
  refine g_row hc ⟨by omega, F0, fun d F f h2 h3 h4 nc ns => ?_⟩
  have e : zh n H ++ [zdef x m.toInt.toNat] = zh (n + 1) (zU H n (zdef x m.toInt.toNat)) := by
    unfold zh
    rw [List.range_succ, List.map_append]
    congr 1
    · refine List.map_congr_left fun a ha => ?_
      rw [zU_ne (by have := List.mem_range.mp ha; omega)]
    · show _ = [zU H n _ n]
      rw [zU_eq]
  have key : zq_b (and (decide (0 ≤ m.toInt)) (decide (m.toInt.toNat ≤ 1048576))) (zl zg_FD (zx zg_FD zg_MT sc F d) d sc C W f (j + 1) L (.ref (zh n H).length :: S) (zh n H ++ [zdef x m.toInt.toNat]) (nc + 1) (ns + m.toInt.toNat)) = some (v, zh n' H', nc + (n' - n), ns + (m.toInt.toNat + q')) := by
    rw [decide_eq_true h0, decide_eq_true h1, zh_len, e]
    refine (hk d F f h2 h3 h4 (nc + 1) (ns + m.toInt.toNat)).trans ?_
    rw [show nc + 1 + (n' - (n + 1)) = nc + (n' - n) by omega, Nat.add_assoc]
  rcases ho with rfl | rfl <;> exact key
/-- a new object -/
theorem g_newO {fs : List Value} (hc : C[j]? = some (pc, ln, 56, x, y, z, w)) (hf : zg_FD[x]? = some fs) (hk : zG sc C W (n + 1) dd (j + 1) L (.ref n :: S) (zU H n (.inl (x, fs))) v n' H' q') : zG sc C W n dd j L S H v n' H' (fs.length + q') := by
  obtain ⟨i0, F0, hk⟩ := hk
  refine g_row hc ⟨by omega, F0, fun d F f h2 h3 h4 nc ns => ?_⟩
  have e : zh n H ++ [.inl (x, fs)] = zh (n + 1) (zU H n (.inl (x, fs))) := by
    unfold zh
    rw [List.range_succ, List.map_append]
    congr 1
    · refine List.map_congr_left fun a ha => ?_
      rw [zU_ne (by have := List.mem_range.mp ha; omega)]
    · show _ = [zU H n _ n]
      rw [zU_eq]
  have key : zq_n zg_FD x (fun fs => zl zg_FD (zx zg_FD zg_MT sc F d) d sc C W f (j + 1) L (.ref (zh n H).length :: S) (zh n H ++ [.inl (x, fs)]) (nc + 1) (ns + fs.length)) = some (v, zh n' H', nc + (n' - n), ns + (fs.length + q')) := by
    unfold zq_n
    rw [hf]
    dsimp only
    rw [zh_len, e]
    refine (hk d F f h2 h3 h4 (nc + 1) (ns + fs.length)).trans ?_
    rw [show nc + 1 + (n' - (n + 1)) = nc + (n' - n) by omega, Nat.add_assoc]
  exact key
end ZGs
