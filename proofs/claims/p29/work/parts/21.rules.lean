/-! rules, an instruction each -/
section ZRu
variable {sc : List Int32} {C : List zI} {W : List (List Nat)} {n n' q' dd j : Nat} {L : zL} {S : List Value} {H H1 H' : Nat → zO} {v : Option Value} {pc ln op x y z w a m t : Nat} {fs : List Value} {u : Value} {b c i : Int32} {xs : List Int32}
theorem r_ic (hc : C[j]? = some (pc, ln, op, x, y, z, w)) (ho : op = 0 ∨ op = 1 ∨ op = 2 ∨ op = 111) (hv : zc x = b) (hk : zG sc C W n dd (j + 1) L (.int b :: S) H v n' H' q') : zG sc C W n dd j L S H v n' H' q' :=
  g_step (L' := L) (S' := .int b :: S) (H1 := H) hc (by rcases ho with rfl | rfl | rfl | rfl <;> rfl) (fun d _ => by subst hv; rcases ho with rfl | rfl | rfl | rfl <;> rfl) hk
theorem r_ld (hc : C[j]? = some (pc, ln, op, x, y, z, w)) (ho : (t = 0 ∧ (op = 6 ∨ op = 7)) ∨ (t = 2 ∧ (op = 8 ∨ op = 9)) ∨ (t = 3 ∧ (op = 10 ∨ op = 11))) (hl : L x = some u) (hz : zfit t u = true) (hk : zG sc C W n dd (j + 1) L (u :: S) H v n' H' q') : zG sc C W n dd j L S H v n' H' q' := by
  have e : zo_ld t x L S (zh n H) = some (L, u :: S, zh n H) := by
    unfold zo_ld zq_m
    rw [hl]
    show zq_b (zfit t u) _ = _
    rw [hz]; rfl
  refine g_step (L' := L) (S' := u :: S) (H1 := H) hc ?_ (fun d _ => ?_) hk
  · rcases ho with ⟨-, rfl | rfl⟩ | ⟨-, rfl | rfl⟩ | ⟨-, rfl | rfl⟩ <;> rfl
  · rcases ho with ⟨rfl, rfl | rfl⟩ | ⟨rfl, rfl | rfl⟩ | ⟨rfl, rfl | rfl⟩ <;> exact e
theorem r_st (hc : C[j]? = some (pc, ln, op, x, y, z, w)) (ho : (t = 0 ∧ (op = 14 ∨ op = 15)) ∨ (t = 2 ∧ (op = 16 ∨ op = 17))) (hz : zfit t u = true) (hk : zG sc C W n dd (j + 1) (zL_set L x u) S H v n' H' q') : zG sc C W n dd j L (u :: S) H v n' H' q' := by
  have e : zo_st t x L (u :: S) (zh n H) = some (zL_set L x u, S, zh n H) := by
    unfold zo_st zq_v
    cases u with
    | int q => show zq_b (zfit t _) _ = _; rw [hz]; rfl
    | ref q => show zq_b (zfit t _) _ = _; rw [hz]; rfl
    | null => show zq_b (zfit t _) _ = _; rw [hz]; rfl
    | retAddr q => show zq_b (zfit t _) _ = _; rw [hz]; rfl
    | long q => rcases ho with ⟨rfl, -⟩ | ⟨rfl, -⟩ <;> cases hz
    | float q => rcases ho with ⟨rfl, -⟩ | ⟨rfl, -⟩ <;> cases hz
    | double q => rcases ho with ⟨rfl, -⟩ | ⟨rfl, -⟩ <;> cases hz
  refine g_step (L' := zL_set L x u) (S' := S) (H1 := H) hc ?_ (fun d _ => ?_) hk
  · rcases ho with ⟨-, rfl | rfl⟩ | ⟨-, rfl | rfl⟩ <;> rfl
  · rcases ho with ⟨rfl, rfl | rfl⟩ | ⟨rfl, rfl | rfl⟩ <;> exact e
theorem r_lst {q : Int64} (hc : C[j]? = some (pc, ln, op, x, y, z, w)) (ho : op = 18 ∨ op = 19) (hk : zG sc C W n dd (j + 1) (zL_set2 L x (.long q)) S H v n' H' q') : zG sc C W n dd j L (.long q :: S) H v n' H' q' :=
  g_step (L' := zL_set2 L x (.long q)) (S' := S) (H1 := H) hc (by rcases ho with rfl | rfl <;> rfl) (fun d _ => by rcases ho with rfl | rfl <;> rfl) hk
theorem r_inc (hc : C[j]? = some (pc, ln, 22, x, y, z, w)) (hl : L x = some (.int b)) (hv : zc y = c) (hk : zG sc C W n dd (j + 1) (zL_set L x (.int (b + c))) S H v n' H' q') : zG sc C W n dd j L S H v n' H' q' := by
  refine g_step (L' := zL_set L x (.int (b + c))) (S' := S) (H1 := H) hc rfl (fun d _ => ?_) hk
  subst hv
  show zo_inc x (zc y) L S (zh n H) = _
  unfold zo_inc
  rw [hl]
/-- two ints to one -/
def zbin (op : Nat) (b c : Int32) : Int32 := match op with
  | 23 => b + c
  | 24 => b - c
  | 25 => b * c
  | 26 => b &&& c
  | 27 => b ||| c
  | 28 => zshl b c
  | 104 => zshr b c
  | _ => b ^^^ c
theorem r_bin (hc : C[j]? = some (pc, ln, op, x, y, z, w)) (ho : op = 23 ∨ op = 24 ∨ op = 25 ∨ op = 26 ∨ op = 27 ∨ op = 28 ∨ op = 104 ∨ op = 105) (hk : zG sc C W n dd (j + 1) L (.int (zbin op b c) :: S) H v n' H' q') : zG sc C W n dd j L (.int c :: .int b :: S) H v n' H' q' :=
  g_step (L' := L) (S' := .int (zbin op b c) :: S) (H1 := H) hc (by rcases ho with rfl | rfl | rfl | rfl | rfl | rfl | rfl | rfl <;> rfl) (fun d _ => by rcases ho with rfl | rfl | rfl | rfl | rfl | rfl | rfl | rfl <;> rfl) hk
theorem r_div (hc : C[j]? = some (pc, ln, op, x, y, z, w)) (ho : op = 102 ∨ op = 103) (h0 : ¬ c = 0) (hk : zG sc C W n dd (j + 1) L (.int (if op = 102 then zrem b c else b / c) :: S) H v n' H' q') : zG sc C W n dd j L (.int c :: .int b :: S) H v n' H' q' := by
  refine g_step (L' := L) (S' := .int (if op = 102 then zrem b c else b / c) :: S) (H1 := H) hc (by rcases ho with rfl | rfl <;> rfl) (fun d _ => ?_) hk
  have e : ∀ f : Int32 → Int32 → Int32, zo_div f L (.int c :: .int b :: S) (zh n H) = some (L, .int (f b c) :: S, zh n H) := fun f => by
    show zq_b (!(decide (c = 0))) _ = _
    rw [decide_eq_false h0]; rfl
  rcases ho with rfl | rfl
  · exact e zrem
  · exact e (· / ·)
theorem r_i2l (hc : C[j]? = some (pc, ln, 29, x, y, z, w)) (hk : zG sc C W n dd (j + 1) L (.long b.toInt64 :: S) H v n' H' q') : zG sc C W n dd j L (.int b :: S) H v n' H' q' := g_step (L' := L) (S' := .long b.toInt64 :: S) (H1 := H) hc rfl (fun _ _ => rfl) hk
theorem r_lbin {p q : Int64} (hc : C[j]? = some (pc, ln, op, x, y, z, w)) (ho : op = 30 ∨ op = 31) (hk : zG sc C W n dd (j + 1) L (.long (if op = 30 then p + q else p * q) :: S) H v n' H' q') : zG sc C W n dd j L (.long q :: .long p :: S) H v n' H' q' :=
  g_step (L' := L) (S' := .long (if op = 30 then p + q else p * q) :: S) (H1 := H) hc (by rcases ho with rfl | rfl <;> rfl) (fun d _ => by rcases ho with rfl | rfl <;> rfl) hk
theorem r_lc {q : Int64} (hc : C[j]? = some (pc, ln, op, x, y, z, w)) (ho : op = 3 ∨ op = 106) (hv : zcl x = q) (hk : zG sc C W n dd (j + 1) L (.long q :: S) H v n' H' q') : zG sc C W n dd j L S H v n' H' q' :=
  g_step (L' := L) (S' := .long q :: S) (H1 := H) hc (by rcases ho with rfl | rfl <;> rfl) (fun d _ => by subst hv; rcases ho with rfl | rfl <;> rfl) hk
theorem r_get (hc : C[j]? = some (pc, ln, 38, x, y, z, w)) (ha : a < n) (hH : H a = .inl (x, fs)) (hf : fs[y]? = some u) (hk : zG sc C W n dd (j + 1) L (u :: S) H v n' H' q') : zG sc C W n dd j L (.ref a :: S) H v n' H' q' := by
  refine g_step (L' := L) (S' := u :: S) (H1 := H) hc rfl (fun d _ => ?_) hk
  show zq_o (zh n H) a x (fun fs => zq_n fs y fun v => some (L, v :: S, zh n H)) = _
  unfold zq_o
  rw [zh_get ha, hH]
  show zq_b (Nat.beq x x) (zq_n fs y _) = _
  rw [Nat.beq_refl]
  show zq_n fs y _ = _
  unfold zq_n
  rw [hf]
theorem r_put (hc : C[j]? = some (pc, ln, op, x, y, z, w)) (ho : op = 40 ∨ op = 41) (ha : a < n) (hH : H a = .inl (x, fs)) (hf : y < fs.length) (hz : zfit z u = true) (hk : zG sc C W n dd (j + 1) L S (zU H a (.inl (x, fs.set y u))) v n' H' q') : zG sc C W n dd j L (u :: .ref a :: S) H v n' H' q' := by
  have e : zo_put x y z L (u :: .ref a :: S) (zh n H) = some (L, S, zh n (zU H a (.inl (x, fs.set y u)))) := by
    show zq_b (zfit z u) (zq_o (zh n H) a x fun fs => zq_b (decide (y < fs.length)) (some (L, S, (zh n H).set a (.inl (x, fs.set y u))))) = _
    rw [hz]
    show zq_o (zh n H) a x _ = _
    unfold zq_o
    rw [zh_get ha, hH]
    show zq_b (Nat.beq x x) _ = _
    rw [Nat.beq_refl]
    show zq_b (decide (y < fs.length)) _ = _
    rw [decide_eq_true hf]
    show some (L, S, (zh n H).set a _) = _
    rw [zh_set]
  refine g_step (L' := L) (S' := S) (H1 := zU H a (.inl (x, fs.set y u))) hc (by rcases ho with rfl | rfl <;> rfl) (fun d _ => ?_) hk
  rcases ho with rfl | rfl <;> exact e
theorem z_idx {β : Type} {i : Int32} {m : Nat} {k : Nat → Option β} (h0 : 0 ≤ i.toInt) (h1 : i.toInt.toNat < m) : zq_x i m k = k i.toInt.toNat := by
  unfold zq_x
  rw [decide_eq_true h0, decide_eq_true h1]; rfl
theorem r_iald (hc : C[j]? = some (pc, ln, 42, x, y, z, w)) (ha : a < n) (hH : H a = .inr (.inl xs)) (h0 : 0 ≤ i.toInt) (h1 : xs[i.toInt.toNat]? = some b) (hk : zG sc C W n dd (j + 1) L (.int b :: S) H v n' H' q') : zG sc C W n dd j L (.int i :: .ref a :: S) H v n' H' q' := by
  refine g_step (L' := L) (S' := .int b :: S) (H1 := H) hc rfl (fun d _ => ?_) hk
  show zq_a (zh n H) a (fun xs => zq_x i xs.length fun j => zq_n xs j fun x => some (L, .int x :: S, zh n H)) = _
  unfold zq_a
  rw [zh_get ha, hH]
  show zq_x i xs.length _ = _
  rw [z_idx h0 (List.getElem?_eq_some_iff.mp h1).1]
  unfold zq_n
  rw [h1]
theorem r_sald (hc : C[j]? = some (pc, ln, 42, x, y, z, w)) {q : Nat} (h0 : 0 ≤ i.toInt) (h1 : sc[i.toInt.toNat]? = some b) (hk : zG sc C W n dd (j + 1) L (.int b :: S) H v n' H' q') : zG sc C W n dd j L (.int i :: .retAddr q :: S) H v n' H' q' := by
  refine g_step (L' := L) (S' := .int b :: S) (H1 := H) hc rfl (fun d _ => ?_) hk
  show zq_x i sc.length (fun j => zq_n sc j fun x => some (L, .int x :: S, zh n H)) = _
  rw [z_idx h0 (List.getElem?_eq_some_iff.mp h1).1]
  unfold zq_n
  rw [h1]
theorem r_iast (hc : C[j]? = some (pc, ln, 43, x, y, z, w)) (ha : a < n) (hH : H a = .inr (.inl xs)) (h0 : 0 ≤ i.toInt) (h1 : i.toInt.toNat < xs.length) (hk : zG sc C W n dd (j + 1) L S (zU H a (.inr (.inl (xs.set i.toInt.toNat b)))) v n' H' q') : zG sc C W n dd j L (.int b :: .int i :: .ref a :: S) H v n' H' q' := by
  refine g_step (L' := L) (S' := S) (H1 := zU H a (.inr (.inl (xs.set i.toInt.toNat b)))) hc rfl (fun d _ => ?_) hk
  show zq_a (zh n H) a (fun xs => zq_x i xs.length fun j => some (L, S, (zh n H).set a (.inr (.inl (xs.set j b))))) = _
  unfold zq_a
  rw [zh_get ha, hH]
  show zq_x i xs.length _ = _
  rw [z_idx h0 h1, zh_set]
theorem r_aald {ys : List (Option Nat)} {q : Option Nat} (hc : C[j]? = some (pc, ln, 46, x, y, z, w)) (ha : a < n) (hH : H a = .inr (.inr (.inr (t, ys)))) (h0 : 0 ≤ i.toInt) (h1 : ys[i.toInt.toNat]? = some q) (hk : zG sc C W n dd (j + 1) L (zrf q :: S) H v n' H' q') : zG sc C W n dd j L (.int i :: .ref a :: S) H v n' H' q' := by
  refine g_step (L' := L) (S' := zrf q :: S) (H1 := H) hc rfl (fun d _ => ?_) hk
  show zq_q (zh n H) a (fun _ xs => zq_x i xs.length fun j => zq_n xs j fun x => some (L, zrf x :: S, zh n H)) = _
  unfold zq_q
  rw [zh_get ha, hH]
  show zq_x i ys.length _ = _
  rw [z_idx h0 (List.getElem?_eq_some_iff.mp h1).1]
  unfold zq_n
  rw [h1]
theorem r_alen (hc : C[j]? = some (pc, ln, 48, x, y, z, w)) (ha : a < n) (hH : zlen (H a) = some m) (hk : zG sc C W n dd (j + 1) L (.int (Int32.ofNat m) :: S) H v n' H' q') : zG sc C W n dd j L (.ref a :: S) H v n' H' q' := by
  refine g_step (L' := L) (S' := .int (Int32.ofNat m) :: S) (H1 := H) hc rfl (fun d _ => ?_) hk
  show zq_m (zh n H)[a]? (fun o => zq_m (zlen o) fun n' => some (L, .int (Int32.ofNat n') :: S, zh n H)) = _
  rw [zh_get ha]
  show zq_m (zlen (H a)) _ = _
  rw [hH]; rfl
theorem r_slen {q : Nat} (hc : C[j]? = some (pc, ln, 48, x, y, z, w)) (hk : zG sc C W n dd (j + 1) L (.int (Int32.ofNat sc.length) :: S) H v n' H' q') : zG sc C W n dd j L (.retAddr q :: S) H v n' H' q' :=
  g_step (L' := L) (S' := .int (Int32.ofNat sc.length) :: S) (H1 := H) hc rfl (fun d _ => rfl) hk
theorem r_dup (hc : C[j]? = some (pc, ln, 34, x, y, z, w)) (hu : (∃ q, u = .int q) ∨ ∃ q, u = .ref q) (hk : zG sc C W n dd (j + 1) L (u :: u :: S) H v n' H' q') : zG sc C W n dd j L (u :: S) H v n' H' q' :=
  g_step (L' := L) (S' := u :: u :: S) (H1 := H) hc rfl (fun d _ => by rcases hu with ⟨q, rfl⟩ | ⟨q, rfl⟩ <;> rfl) hk
theorem r_pop (hc : C[j]? = some (pc, ln, 37, x, y, z, w)) (hu : (∃ q, u = .int q) ∨ ∃ q, u = .ref q) (hk : zG sc C W n dd (j + 1) L S H v n' H' q') : zG sc C W n dd j L (u :: S) H v n' H' q' :=
  g_step (L' := L) (S' := S) (H1 := H) hc rfl (fun d _ => by rcases hu with ⟨q, rfl⟩ | ⟨q, rfl⟩ <;> rfl) hk
theorem r_min (hc : C[j]? = some (pc, ln, 110, x, y, z, w)) (hd : 1 ≤ dd) (h4 : zwd S ≤ 8) (hk : zG sc C W n dd (j + 1) L (.int (if c < b then c else b) :: S) H v n' H' q') : zG sc C W n dd j L (.int c :: .int b :: S) H v n' H' q' := by
  refine g_step (L' := L) (S' := .int (if c < b then c else b) :: S) (H1 := H) hc rfl (fun d q => ?_) hk
  show zq_b (and (Nat.ble 1 d) (Nat.ble (zwd S) 8)) _ = _
  rw [Nat.ble_eq_true_of_le (by omega : 1 ≤ d), Nat.ble_eq_true_of_le h4]; rfl
end ZRu
