/-! the table: read, add (its row grows) -/
def yrdT (M : yM) (k : Int) : Int := if 0 ≤ yw k ∧ (yw k).toNat < (M 21 2).toNat then M 22 (yw k).toNat else 0
def ywrT (M : yM) (k x : Int) : yM := if 0 ≤ yw k ∧ (yw k).toNat < (M 21 2).toNat then yU M 22 (yw k).toNat x else M
/-- twice as long -/
def ygrow (M : yM) : yM := fun b j => if b = 21 ∧ j = 2 then M 21 2 * 2 else if b = 22 ∧ ¬ j < (M 21 2).toNat then 0 else M b j
def yput4 (M : yM) (p q u v : Int) : yM :=
  let M := ywrT M (M 21 1 * 4) p
  let M := ywrT M (M 21 1 * 4 + 1) q
  let M := ywrT M (M 21 1 * 4 + 2) u
  let M := ywrT M (M 21 1 * 4 + 3) v
  yU M 21 1 (M 21 1 + 1)
def f_140 (M : yM) (p q u v : Int) : Option yM :=
  if yw (M 21 1) < 32768 then
    if yw ((M 21 1 + 1) * 4) ≤ yw (M 21 2) then some (yput4 M p q u v)
    else if 1 ≤ M 21 2 ∧ M 21 2 ≤ 524288 then some (yput4 (ygrow M) p q u v) else none
  else some M
section YTa
variable {sc : List Int32} {C : List zI} {W : List (List Nat)} {dd j n tr : Nat} {T : Nat → zO} {L : zL} {S : List Value} {M : yM} {cc : Nat} {pc ln op x y z w a n' q' : Nat} {H' : Nat → zO} {v : Option Value} {b i k : Int}
/-- a row of numbers copied to the start of another one -/
theorem r_copy {H : Nat → zO} {a1 b1 : Nat} {xs ys : List Int32} {m : Int32} (hd : 1 ≤ dd) (h4 : zwd S ≤ 8) (hc : C[j]? = some (pc, ln, 109, x, y, z, w)) (ha : a1 < n) (hb : b1 < n) (hH : H a1 = .inr (.inl xs)) (hH2 : H b1 = .inr (.inl ys)) (h0 : 0 ≤ m.toInt) (h1 : m.toInt.toNat ≤ xs.length) (h2 : m.toInt.toNat ≤ ys.length) (hk : zG sc C W n dd (j + 1) L S (zU H b1 (.inr (.inl (zcpy xs ys 0 0 m.toInt.toNat)))) v n' H' q') : zG sc C W n dd j L (.int m :: .int 0 :: .ref b1 :: .int 0 :: .ref a1 :: S) H v n' H' q' := by
  refine g_step (L' := L) (S' := S) (H1 := zU H b1 (.inr (.inl (zcpy xs ys 0 0 m.toInt.toNat)))) hc rfl (fun d q => ?_) hk
  show zq_b (and (and (decide (0 ≤ m.toInt)) (and (decide (0 ≤ (0 : Int32).toInt)) (decide (0 ≤ (0 : Int32).toInt)))) (and (Nat.ble 1 d) (Nat.ble (zwd S) 8))) (zq_m (zcopy (zh n H) a1 (0 : Int32).toInt.toNat b1 (0 : Int32).toInt.toNat m.toInt.toNat) fun h' => some (L, S, h')) = _
  have e : zcopy (zh n H) a1 (0 : Int32).toInt.toNat b1 (0 : Int32).toInt.toNat m.toInt.toNat = some (zh n (zU H b1 (.inr (.inl (zcpy xs ys 0 0 m.toInt.toNat))))) := by
    unfold zcopy
    rw [zh_get ha, zh_get hb, hH, hH2]
    show zq_b (and (decide (0 + m.toInt.toNat ≤ xs.length)) (decide (0 + m.toInt.toNat ≤ ys.length))) _ = _
    rw [decide_eq_true (by omega), decide_eq_true (by omega)]
    show some ((zh n H).set b1 _) = _
    rw [zh_set]; rfl
  rw [decide_eq_true h0, Nat.ble_eq_true_of_le (by omega : 1 ≤ d), Nat.ble_eq_true_of_le h4, e]; rfl
theorem m_copyOf {H : Nat → zO} {xs : List Int32} {m : Int32} (hd : 2 ≤ dd) (ha : a < n) (hH : H a = .inr (.inl xs)) (h0 : 0 ≤ m.toInt) (h1 : xs.length < m.toInt.toNat) (h2 : m.toInt.toNat ≤ 1048576) : zP sc n dd 169 [.ref a, .int m] H (some (.ref n)) (n + 1) (zU H n (.inr (.inl (xs ++ List.replicate (m.toInt.toNat - xs.length) 0)))) m.toInt.toNat := by
  obtain ⟨dd, rfl⟩ : ∃ e, dd = e + 1 := ⟨dd - 1, by omega⟩
  have hx : (Int32.ofNat xs.length).toInt = xs.length := z_ofNat (by omega)
  refine g_meth (C := zg_c169) (W := zg_w169) (ml := 3) rfl rfl (Nat.le_of_ble_eq_true rfl) ?_
  refine r_ld (t := 0) rfl (Or.inl ⟨rfl, Or.inl rfl⟩) rfl rfl ?_
  refine r_ld (t := 2) rfl (Or.inr (Or.inl ⟨rfl, Or.inl rfl⟩)) rfl rfl ?_
  refine r_alen (m := xs.length) rfl ha (by rw [hH]; rfl) ?_
  refine g_cmp (q := 1) (by decide) rfl (fun _ => ?_) (fun hz => ?_)
  · refine r_ld (t := 0) rfl (Or.inl ⟨rfl, Or.inl rfl⟩) rfl rfl ?_
    have hk : zG sc zg_c169 zg_w169 (n + 1) dd 10 (zargs 0 [.ref a, .int m]) [.ref n] (zU H n (zdef 0 m.toInt.toNat)) (some (.ref n)) (n + 1) (zU H n (.inr (.inl (xs ++ List.replicate (m.toInt.toNat - xs.length) 0)))) 0 := by
      refine r_st (t := 2) rfl (Or.inr ⟨rfl, Or.inl rfl⟩) rfl ?_
      refine r_ld (t := 2) rfl (Or.inr (Or.inl ⟨rfl, Or.inl rfl⟩)) rfl rfl ?_
      refine r_ic (b := 0) rfl (by decide) (by decide) ?_
      refine r_ld (t := 2) rfl (Or.inr (Or.inl ⟨rfl, Or.inl rfl⟩)) rfl rfl ?_
      refine r_ic (b := 0) rfl (by decide) (by decide) ?_
      refine r_ld (t := 2) rfl (Or.inr (Or.inl ⟨rfl, Or.inl rfl⟩)) rfl rfl ?_
      have hH1 : zU H n (zdef 0 m.toInt.toNat) a = .inr (.inl xs) := by rw [zU_ne (by omega)]; exact hH
      refine r_alen (m := xs.length) rfl (by omega) (by rw [hH1]; rfl) ?_
      refine r_ld (t := 0) rfl (Or.inl ⟨rfl, Or.inl rfl⟩) rfl rfl ?_
      refine r_min rfl (by omega) (Nat.le_of_ble_eq_true rfl) ?_
      have hlt : ¬ m < Int32.ofNat xs.length := fun q => by
        have := Int32.lt_iff_toInt_lt.mp q
        omega
      rw [if_neg hlt]
      refine r_copy (xs := xs) (ys := List.replicate m.toInt.toNat 0) (by omega) (by decide) rfl (by omega) (by omega) hH1 (by rw [zU_eq]; rfl) (by omega) (by omega) (by rw [List.length_replicate]; omega) ?_
      refine r_ld (t := 2) rfl (Or.inr (Or.inl ⟨rfl, Or.inl rfl⟩)) rfl rfl ?_
      have e : zU (zU H n (zdef 0 m.toInt.toNat)) n (.inr (.inl (zcpy xs (List.replicate m.toInt.toNat 0) 0 0 (Int32.ofNat xs.length).toInt.toNat))) = zU H n (.inr (.inl (xs ++ List.replicate (m.toInt.toNat - xs.length) 0))) := by
        funext b
        unfold zU
        by_cases hb : b = n
        · rw [if_pos hb, if_pos hb, hx]
          unfold zcpy
          rw [Int.toNat_natCast, List.take_zero, List.drop_zero, List.take_length, List.drop_replicate, Nat.zero_add]; rfl
        · rw [if_neg hb, if_neg hb, if_neg hb]
      rw [e]
      exact g_aret rfl rfl
    have := g_newA (q' := 0) (C := zg_c169) (W := zg_w169) (j := 9) (L := zargs 0 [.ref a, .int m]) rfl (Or.inl rfl) h0 h2 hk
    exact this
  · have h3 : (Int32.ofNat xs.length) = m := by
      have h4 : (!(decide (m = Int32.ofNat xs.length))) = false := hz
      cases h5 : decide (m = Int32.ofNat xs.length) with
      | true => exact (of_decide_eq_true h5).symm
      | false => rw [h5] at h4; cases h4
    rw [← h3] at h1
    omega
theorem yst_wrT (h : tr = 22 ∨ 416 ≤ tr) : zU (yst M cc tr T) tr (.inr (.inl (zwr (yrow (M 22) (M 21 2).toNat) (yi k) (yi b)))) = yst (ywrT M k b) cc tr T := by
  rw [zwr_row]
  unfold ywrT
  by_cases h1 : 0 ≤ yw k ∧ (yw k).toNat < (M 21 2).toNat
  · rw [if_pos h1, if_pos h1, yst_setT h]
  · rw [if_neg h1, if_neg h1, zU_same (yst_tab h)]
theorem ywrT_21 {i : Nat} : ywrT M k b 21 i = M 21 i := by
  unfold ywrT
  by_cases h1 : 0 ≤ yw k ∧ (yw k).toNat < (M 21 2).toNat
  · rw [if_pos h1, yU_ne (fun q => absurd q.1 (by decide))]
  · rw [if_neg h1]
theorem t_141 (hd : 2 ≤ dd) : yP sc dd 141 [.ref 21, .int (yi i), .int (yi k)] M cc (some (M, cc, some (.int (yi (yrdT M (i * 4 + k)))))) := by
  obtain ⟨dd, rfl⟩ : ∃ e, dd = e + 1 := ⟨dd - 1, by omega⟩
  intro M' cc' v hr n tr T hok
  cases hr
  obtain ⟨o1, o2, o3, o4, o5⟩ := hok
  refine ⟨n, tr, T, 0, yext_refl ⟨o1, o2, o3, o4, o5⟩, ?_⟩
  refine g_meth (C := zg_c141) (W := zg_w141) (ml := 3) rfl rfl (Nat.le_of_ble_eq_true rfl) ?_
  refine r_ld (t := 2) rfl (Or.inr (Or.inl ⟨rfl, Or.inl rfl⟩)) rfl rfl ?_
  refine r_get (a := 21) rfl (by omega) (yst_obj (fs := [3, 0]) rfl) rfl ?_
  refine r_ld (t := 0) rfl (Or.inl ⟨rfl, Or.inl rfl⟩) rfl rfl ?_
  refine r_ic (b := yi 4) rfl (by decide) (by decide) ?_
  refine r_bin rfl (by decide) ?_
  rw [show zbin 25 (yi i) (yi 4) = yi (i * 4) from (Int32.ofInt_mul i 4).symm]
  refine r_ld (t := 0) rfl (Or.inl ⟨rfl, Or.inl rfl⟩) rfl rfl ?_
  refine r_bin rfl (by decide) ?_
  rw [show zbin 23 (yi (i * 4)) (yi k) = yi (i * 4 + k) from yi_add]
  have h1 := zP_mono (dd' := dd) (by omega) (m_at (sc := sc) (dd := 0) (k := yi (i * 4 + k)) o3 (yst_tab (cc := cc) (T := T) (M := M) o2) (by rw [yrow_len]; omega))
  have e : zrd (yrow (M 22) (M 21 2).toNat) (yi (i * 4 + k)) = yi (yrdT M (i * 4 + k)) := zrd_row
  rw [e] at h1
  have h2 := g_stat (C := zg_c141) (W := zg_w141) (j := 7) (L := zargs 0 [.ref 21, .int (yi i), .int (yi k)]) (S := []) (as := [.ref tr, .int (yi (i * 4 + k))]) rfl (Or.inr rfl) rfl (by decide) h1 (g_iret rfl rfl)
  exact h2
/-- one number put into the table's row -/
theorem r_wrT (hd : 1 ≤ dd) (hok : yok M n tr) (hc : C[j]? = some (pc, ln, 97, 24, 3, z, w)) (h4 : zwd S ≤ 8) (hk : zG sc C W n dd (j + 1) L S (yst (ywrT M k b) cc tr T) v n' H' q') : zG sc C W n dd j L (.int (yi b) :: .int (yi k) :: .ref tr :: S) (yst M cc tr T) v n' H' q' := by
  obtain ⟨o1, o2, o3, o4, o5⟩ := hok
  have h1 := zP_mono hd (m_put (sc := sc) (dd := 0) (k := yi k) (x := yi b) o3 (yst_tab (cc := cc) (T := T) (M := M) o2) (by rw [yrow_len]; omega))
  rw [yst_wrT o2] at h1
  have h2 := g_stat (as := [.ref tr, .int (yi k), .int (yi b)]) (u := none) hc (Or.inr rfl) rfl h4 h1 hk
  rw [Nat.zero_add] at h2
  exact h2
theorem yok_wrT (hok : yok M n tr) : yok (ywrT M k b) n tr := by
  obtain ⟨o1, o2, o3, o4, o5⟩ := hok
  exact ⟨o1, o2, o3, by rw [ywrT_21]; exact o4, by rw [ywrT_21]; exact o5⟩
theorem k_mul {C : List zI} {W : List (List Nat)} {H : Nat → zO} {v : Option Value} {q : Int} (hk : zG sc C W n dd j L (.int (yi (q * 4)) :: S) H v n' H' q') : zG sc C W n dd j L (.int (zbin 25 (yi q) (yi 4)) :: S) H v n' H' q' := by
  rw [show zbin 25 (yi q) (yi 4) = yi (q * 4) from (Int32.ofInt_mul q 4).symm]
  exact hk
theorem k_add {C : List zI} {W : List (List Nat)} {H : Nat → zO} {v : Option Value} {q s : Int} (hk : zG sc C W n dd j L (.int (yi (q + s)) :: S) H v n' H' q') : zG sc C W n dd j L (.int (zbin 23 (yi q) (yi s)) :: S) H v n' H' q' := by
  rw [show zbin 23 (yi q) (yi s) = yi (q + s) from yi_add]
  exact hk
theorem t_put4 {p q u v : Int} (hd : 1 ≤ dd) (hok : yok M n tr) (h0 : L 0 = some (.ref 21)) (h1 : L 1 = some (.int (yi p))) (h2 : L 2 = some (.int (yi q))) (h3 : L 3 = some (.int (yi u))) (h4 : L 4 = some (.int (yi v))) : zG sc zg_c140 zg_w140 n dd 25 L [] (yst M cc tr T) none n (yst (yput4 M p q u v) cc tr T) 0 := by
  have o1 := hok.1
  refine r_ld (t := 2) rfl (Or.inr (Or.inl ⟨rfl, Or.inl rfl⟩)) h0 rfl ?_
  refine r_get (a := 21) rfl (by omega) (yst_obj (fs := [3, 0]) rfl) rfl ?_
  refine r_ld (t := 2) rfl (Or.inr (Or.inl ⟨rfl, Or.inl rfl⟩)) h0 rfl ?_
  refine r_get (a := 21) rfl (by omega) (yst_obj (fs := [3, 0]) rfl) rfl ?_
  refine r_ic (b := yi 4) rfl (by decide) (by decide) ?_
  refine r_bin rfl (by decide) ?_
  refine k_mul ?_
  refine r_ld (t := 0) rfl (Or.inl ⟨rfl, Or.inl rfl⟩) h1 rfl ?_
  refine r_wrT hd (hok) rfl (by decide) ?_
  refine r_ld (t := 2) rfl (Or.inr (Or.inl ⟨rfl, Or.inl rfl⟩)) h0 rfl ?_
  refine r_get (a := 21) rfl (by omega) (yst_obj (fs := [3, 0]) rfl) rfl ?_
  refine r_ld (t := 2) rfl (Or.inr (Or.inl ⟨rfl, Or.inl rfl⟩)) h0 rfl ?_
  refine r_get (a := 21) rfl (by omega) (yst_obj (fs := [3, 0]) rfl) rfl ?_
  refine r_ic (b := yi 4) rfl (by decide) (by decide) ?_
  refine r_bin rfl (by decide) ?_
  refine k_mul ?_
  refine r_ic (b := yi 1) rfl (by decide) (by decide) ?_
  refine r_bin rfl (by decide) ?_
  refine k_add ?_
  refine r_ld (t := 0) rfl (Or.inl ⟨rfl, Or.inl rfl⟩) h2 rfl ?_
  refine r_wrT hd (yok_wrT hok) rfl (by decide) ?_
  refine r_ld (t := 2) rfl (Or.inr (Or.inl ⟨rfl, Or.inl rfl⟩)) h0 rfl ?_
  refine r_get (a := 21) rfl (by omega) (yst_obj (fs := [3, 0]) rfl) rfl ?_
  refine r_ld (t := 2) rfl (Or.inr (Or.inl ⟨rfl, Or.inl rfl⟩)) h0 rfl ?_
  refine r_get (a := 21) rfl (by omega) (yst_obj (fs := [3, 0]) rfl) rfl ?_
  refine r_ic (b := yi 4) rfl (by decide) (by decide) ?_
  refine r_bin rfl (by decide) ?_
  refine k_mul ?_
  refine r_ic (b := yi 2) rfl (by decide) (by decide) ?_
  refine r_bin rfl (by decide) ?_
  refine k_add ?_
  refine r_ld (t := 0) rfl (Or.inl ⟨rfl, Or.inl rfl⟩) h3 rfl ?_
  refine r_wrT hd (yok_wrT (yok_wrT hok)) rfl (by decide) ?_
  refine r_ld (t := 2) rfl (Or.inr (Or.inl ⟨rfl, Or.inl rfl⟩)) h0 rfl ?_
  refine r_get (a := 21) rfl (by omega) (yst_obj (fs := [3, 0]) rfl) rfl ?_
  refine r_ld (t := 2) rfl (Or.inr (Or.inl ⟨rfl, Or.inl rfl⟩)) h0 rfl ?_
  refine r_get (a := 21) rfl (by omega) (yst_obj (fs := [3, 0]) rfl) rfl ?_
  refine r_ic (b := yi 4) rfl (by decide) (by decide) ?_
  refine r_bin rfl (by decide) ?_
  refine k_mul ?_
  refine r_ic (b := yi 3) rfl (by decide) (by decide) ?_
  refine r_bin rfl (by decide) ?_
  refine k_add ?_
  refine r_ld (t := 0) rfl (Or.inl ⟨rfl, Or.inr rfl⟩) h4 rfl ?_
  refine r_wrT hd (yok_wrT (yok_wrT (yok_wrT hok))) rfl (by decide) ?_
  refine r_ld (t := 2) rfl (Or.inr (Or.inl ⟨rfl, Or.inl rfl⟩)) h0 rfl ?_
  refine r_dup rfl (Or.inr ⟨_, rfl⟩) ?_
  refine r_get (a := 21) rfl (by omega) (yst_obj (fs := [3, 0]) rfl) rfl ?_
  refine r_ic (b := yi 1) rfl (by decide) (by decide) ?_
  refine r_bin rfl (by decide) ?_
  refine k_add ?_
  refine r_put (a := 21) rfl (Or.inl rfl) (by omega) (yst_obj (fs := [3, 0]) rfl) (by rw [yfl_len]; decide) rfl ?_
  rw [yst_setB (c := 7) (fs := [3, 0]) rfl (Or.inl ⟨rfl, rfl⟩)]
  exact g_vret rfl
theorem yput4_21 {p q u v : Int} : yput4 M p q u v 21 2 = M 21 2 := by
  unfold yput4
  rw [yU_ne (by decide), ywrT_21, ywrT_21, ywrT_21, ywrT_21]
theorem zfs_3 {b : Nat} {fs : Nat × List Nat} (hb : b ≠ 21) (h : zfs b = some fs) : ∀ i : Nat, fs.2[i]? ≠ some 3 := by
  have key : ∀ l : List Nat, (∀ d, d ∈ l → d ≠ 3) → ∀ i : Nat, l[i]? ≠ some 3 := fun l hl i q => hl 3 (List.mem_of_getElem? q) rfl
  have h21 : Nat.beq b 21 = false := by
    cases q : Nat.beq b 21 with
    | false => rfl
    | true => exact absurd (Nat.eq_of_beq_eq_true q) hb
  unfold zfs at h
  rw [h21] at h
  cases h1 : Nat.ble 416 b <;> rw [h1] at h <;> dsimp only [cond] at h
  · cases h2 : Nat.ble b 23 <;> rw [h2] at h <;> dsimp only [cond] at h
    · cases h3 : Nat.ble b 95 <;> rw [h3] at h <;> dsimp only [cond] at h
      · cases h4 : Nat.ble b 195 <;> rw [h4] at h <;> dsimp only [cond] at h
        · cases h5 : or (Nat.beq b 196) (Nat.beq b 306) <;> rw [h5] at h <;> dsimp only [cond] at h
          · cases h6 : or (Nat.beq b 197) (Nat.beq b 307) <;> rw [h6] at h <;> dsimp only [cond] at h
            · cases h7 : or (and (Nat.ble 216 b) (and (Nat.ble b 305) (Nat.beq ((b - 216) % 3) 0))) (and (Nat.ble 326 b) (Nat.beq ((b - 326) % 3) 0)) <;> rw [h7] at h <;> dsimp only [cond] at h
              · cases h
              · cases h
                exact key _ (by intro d hd; simp only [List.mem_cons, List.not_mem_nil, or_false] at hd; omega)
            · cases h
              exact key _ (by intro d hd; simp only [List.mem_cons, List.not_mem_nil, or_false] at hd; omega)
          · cases h
            exact key _ (by intro d hd; simp only [List.mem_cons, List.not_mem_nil, or_false] at hd; omega)
        · cases h5 : Nat.beq b 96 <;> rw [h5] at h <;> dsimp only [cond] at h
          · cases h6 : Nat.ble 105 b <;> rw [h6] at h <;> dsimp only [cond] at h
            · cases h
            · cases h
              exact key _ (by intro d hd; simp only [List.mem_cons, List.not_mem_nil, or_false] at hd; omega)
          · cases h
            exact key _ (by intro d hd; simp only [List.mem_cons, List.not_mem_nil, or_false] at hd; omega)
      · cases h4 : Nat.beq ((b - 24) % 9) 0 <;> rw [h4] at h <;> dsimp only [cond] at h
        · cases h
        · cases h
          exact key _ (by intro d hd; simp only [List.mem_cons, List.not_mem_nil, or_false] at hd; omega)
    · cases h3 : Nat.beq b 0 <;> rw [h3] at h <;> dsimp only [cond] at h
      · cases h4 : Nat.beq b 1 <;> rw [h4] at h <;> dsimp only [cond] at h
        · cases h5 : Nat.beq b 18 <;> rw [h5] at h <;> dsimp only [cond] at h
          · cases h
          · cases h
            exact key _ (by intro d hd; simp only [List.mem_cons, List.not_mem_nil, or_false] at hd; omega)
        · cases h
          exact key _ (by intro d hd; simp only [List.mem_cons, List.not_mem_nil, or_false] at hd; omega)
      · cases h
        exact key _ (by intro d hd; simp only [List.mem_cons, List.not_mem_nil, or_false] at hd; omega)
  · cases h
theorem ygrow_st {n : Nat} (hn : 416 ≤ n) (ht : tr = 22 ∨ 416 ≤ tr) (htn : tr < n) (h0 : 1 ≤ M 21 2) : zU (zU (yst M cc tr T) n (.inr (.inl (yrow (M 22) (M 21 2).toNat ++ List.replicate ((M 21 2 * 2).toNat - (M 21 2).toNat) 0)))) 21 (.inl (7, (yfl M cc tr 21 [3, 0]).set 0 (.ref n))) = yst (ygrow M) cc n (fun b => if b = tr then .inr (.inl (yrow (M 22) (M 21 2).toNat)) else T b) := by
  have g21 : ygrow M 21 2 = M 21 2 * 2 := if_pos ⟨rfl, rfl⟩
  have gel : ∀ b j, b ≠ 22 → ¬(b = 21 ∧ j = 2) → ygrow M b j = M b j := fun b j h1 h2 => by
    unfold ygrow
    rw [if_neg h2, if_neg (fun q => h1 q.1)]
  funext b
  unfold zU
  by_cases hb : b = 21
  · subst hb
    rw [if_pos rfl]
    show _ = yst _ cc n _ 21
    rw [yst_obj (fs := [3, 0]) (c := 7) rfl]
    show Sum.inl (7, [Value.ref n, Value.int (yi (M 21 1))]) = Sum.inl (7, [Value.ref n, Value.int (yi (ygrow M 21 1))])
    rw [gel 21 1 (by decide) (by decide)]
  · rw [if_neg hb]
    by_cases hn2 : b = n
    · subst hn2
      rw [if_pos rfl, yst_tab (Or.inr hn), g21]
      refine congrArg (fun l => Sum.inr (Sum.inl l)) (List.ext_getElem? fun j => ?_)
      rw [List.getElem?_append, yrow_len]
      by_cases hj : j < (M 21 2).toNat
      · rw [if_pos hj, yrow_get hj, yrow_get (by omega)]
        unfold ygrow
        rw [if_neg (by omega), if_neg (fun q => q.2 hj)]
      · rw [if_neg hj]
        by_cases hj2 : j < (M 21 2 * 2).toNat
        · rw [yrow_get hj2, List.getElem?_replicate, if_pos (by omega)]
          unfold ygrow
          rw [if_neg (by omega), if_pos ⟨rfl, hj⟩]; rfl
        · rw [List.getElem?_eq_none (by rw [List.length_replicate]; omega), List.getElem?_eq_none (by rw [yrow_len]; omega)]
    · rw [if_neg hn2]
      by_cases h22 : and (Nat.ble b 415) (!(Nat.beq b 22)) = true
      · have hb22 : b ≠ 22 := by
          rintro rfl
          cases h22
        have e : ∀ j, ygrow M b j = M b j := fun j => gel b j hb22 (fun q => hb q.1)
        have e2 : ∀ fs, zfs b = some fs → yfl (ygrow M) cc n b fs.2 = yfl M cc tr b fs.2 := by
          intro fs hfs
          have h3 : ∀ i : Nat, fs.2[i]? ≠ some 3 := zfs_3 hb hfs
          unfold yfl
          refine List.ext_getElem? fun i => ?_
          rw [List.getElem?_mapIdx, List.getElem?_mapIdx]
          cases hi : fs.2[i]? with
          | none => rfl
          | some d =>
            match d, hi with
            | 0, _ => show some (Value.int _) = some (Value.int _); rw [e i]
            | 1, _ => show some (Value.long _) = some (Value.long _); rw [e i]
            | 2, _ => rfl
            | 3, hi => exact absurd hi (h3 i)
            | k + 4, _ => rfl
        unfold yst
        rw [h22]
        show (match zfs b with
          | some (c, fs) => _
          | none => _) = (match zfs b with
          | some (c, fs) => _
          | none => _)
        cases hf : zfs b with
        | none =>
          dsimp only
          rw [show ygrow M b = M b from funext e]
        | some fs => obtain ⟨c', fs'⟩ := fs; dsimp only; rw [e2 _ hf]
      · have h22' : and (Nat.ble b 415) (!(Nat.beq b 22)) = false := by
          cases q : and (Nat.ble b 415) (!(Nat.beq b 22)) with
          | false => rfl
          | true => exact absurd q h22
        unfold yst
        rw [h22']
        have hbn : Nat.beq b n = false := by
          cases q : Nat.beq b n with
          | false => rfl
          | true => exact absurd (Nat.eq_of_beq_eq_true q) hn2
        rw [hbn]
        show cond (Nat.beq b tr) _ _ = (if b = tr then _ else T b)
        by_cases hbt : b = tr
        · rw [if_pos hbt, hbt, Nat.beq_refl]; rfl
        · rw [if_neg hbt]
          have hbt' : Nat.beq b tr = false := by
            cases q : Nat.beq b tr with
            | false => rfl
            | true => exact absurd (Nat.eq_of_beq_eq_true q) hbt
          rw [hbt']; rfl
theorem t_140 {p q u v : Int} (hd : 3 ≤ dd) : yP sc dd 140 [.ref 21, .int (yi p), .int (yi q), .int (yi u), .int (yi v)] M cc (Option.map (fun t => (t, cc, none)) (f_140 M p q u v)) := by
  obtain ⟨dd, rfl⟩ : ∃ e, dd = e + 1 := ⟨dd - 1, by omega⟩
  intro M' cc' v' hr n tr T hok
  have hok' := hok
  obtain ⟨o1, o2, o3, o4, o5⟩ := hok
  have em : ∀ k, yw (k : Int) = yw k := fun _ => rfl
  have main : ∀ n' tr' T' Q, zG sc zg_c140 zg_w140 n dd 0 (zargs 0 [.ref 21, .int (yi p), .int (yi q), .int (yi u), .int (yi v)]) [] (yst M cc tr T) v' n' (yst M' cc' tr' T') Q → zP sc n (dd + 1) 140 [.ref 21, .int (yi p), .int (yi q), .int (yi u), .int (yi v)] (yst M cc tr T) v' n' (yst M' cc' tr' T') Q := fun _ _ _ _ h => g_meth (C := zg_c140) (W := zg_w140) (ml := 5) rfl rfl (Nat.le_of_ble_eq_true rfl) h
  have e32 : yw 32768 = 32768 := rfl
  have w0 : ∀ n' H' Q v', (∀ hz : yrel 2 (M 21 1) 32768 = true, zG sc zg_c140 zg_w140 n dd 5 (zargs 0 [.ref 21, .int (yi p), .int (yi q), .int (yi u), .int (yi v)]) [] (yst M cc tr T) v' n' H' Q) → (∀ hz : yrel 2 (M 21 1) 32768 = false, zG sc zg_c140 zg_w140 n dd 4 (zargs 0 [.ref 21, .int (yi p), .int (yi q), .int (yi u), .int (yi v)]) [] (yst M cc tr T) v' n' H' Q) → zG sc zg_c140 zg_w140 n dd 0 (zargs 0 [.ref 21, .int (yi p), .int (yi q), .int (yi u), .int (yi v)]) [] (yst M cc tr T) v' n' H' Q := by
    intro n' H' Q v' ht hf
    refine r_ld (t := 2) rfl (Or.inr (Or.inl ⟨rfl, Or.inl rfl⟩)) rfl rfl ?_
    refine r_get (a := 21) rfl (by omega) (yst_obj (fs := [3, 0]) rfl) rfl ?_
    refine r_ic (b := yi 32768) rfl (by decide) (by decide) ?_
    exact g_cmp (q := 2) (by decide) rfl ht hf
  unfold f_140 at hr
  by_cases c1 : yw (M 21 1) < 32768
  · rw [if_pos c1] at hr
    have w1 : ∀ n' H' Q v', (∀ hz : yrel 5 ((M 21 1 + 1) * 4) (M 21 2) = true, zG sc zg_c140 zg_w140 n dd 25 (zargs 0 [.ref 21, .int (yi p), .int (yi q), .int (yi u), .int (yi v)]) [] (yst M cc tr T) v' n' H' Q) → (∀ hz : yrel 5 ((M 21 1 + 1) * 4) (M 21 2) = false, zG sc zg_c140 zg_w140 n dd 15 (zargs 0 [.ref 21, .int (yi p), .int (yi q), .int (yi u), .int (yi v)]) [] (yst M cc tr T) v' n' H' Q) → zG sc zg_c140 zg_w140 n dd 0 (zargs 0 [.ref 21, .int (yi p), .int (yi q), .int (yi u), .int (yi v)]) [] (yst M cc tr T) v' n' H' Q := by
      intro n' H' Q v' ht hf
      refine w0 n' H' Q v' (fun _ => ?_) (fun hz => absurd c1 (by have := of_decide_eq_false (yrel2 ▸ hz); omega))
      refine r_ld (t := 2) rfl (Or.inr (Or.inl ⟨rfl, Or.inl rfl⟩)) rfl rfl ?_
      refine r_get (a := 21) rfl (by omega) (yst_obj (fs := [3, 0]) rfl) rfl ?_
      refine r_ic (b := yi 1) rfl (by decide) (by decide) ?_
      refine r_bin rfl (by decide) ?_
      refine k_add ?_
      refine r_ic (b := yi 4) rfl (by decide) (by decide) ?_
      refine r_bin rfl (by decide) ?_
      refine k_mul ?_
      refine r_ld (t := 2) rfl (Or.inr (Or.inl ⟨rfl, Or.inl rfl⟩)) rfl rfl ?_
      refine r_get (a := 21) rfl (by omega) (yst_obj (fs := [3, 0]) rfl) rfl ?_
      refine r_alen (m := (M 21 2).toNat) rfl o3 (by show zlen (yst M cc tr T tr) = _; rw [yst_tab o2]; show some (yrow _ _).length = _; rw [yrow_len]) ?_
      rw [show Int32.ofNat (M 21 2).toNat = yi (M 21 2) by unfold yi; rw [show Int32.ofNat (M 21 2).toNat = Int32.ofInt ((M 21 2).toNat : Int) from rfl, Int.toNat_of_nonneg o4]]
      exact g_cmp (q := 5) (by decide) rfl ht hf
    by_cases c2 : yw ((M 21 1 + 1) * 4) ≤ yw (M 21 2)
    · rw [if_pos c2] at hr
      cases hr
      refine ⟨n, tr, T, 0, ⟨Nat.le_refl n, ⟨o1, o2, o3, by rw [yput4_21]; exact o4, by rw [yput4_21]; exact o5⟩, fun _ _ _ _ => rfl, Or.inl rfl, by rw [yput4_21]; omega, by rw [yput4_21]; omega⟩, main _ _ _ _ ?_⟩
      refine w1 _ _ _ _ (fun _ => ?_) (fun hz => absurd c2 (of_decide_eq_false (yrel5 ▸ hz)))
      exact t_put4 (by omega) hok' rfl rfl rfl rfl rfl
    · rw [if_neg c2] at hr
      by_cases c3 : 1 ≤ M 21 2 ∧ M 21 2 ≤ 524288
      · rw [if_pos c3] at hr
        cases hr
        have g21 : ygrow M 21 2 = M 21 2 * 2 := if_pos ⟨rfl, rfl⟩
        have okg : yok (ygrow M) (n + 1) n := ⟨by omega, Or.inr o1, by omega, by rw [g21]; omega, by rw [g21]; omega⟩
        have e2 : (yi (M 21 2 * 2)).toInt = M 21 2 * 2 := yw_of (by omega) (by omega)
        refine ⟨n + 1, n, fun b => if b = tr then .inr (.inl (yrow (M 22) (M 21 2).toNat)) else T b, (M 21 2 * 2).toNat, ⟨by omega, ?_, ?_, Or.inr (Nat.le_refl n), ?_, ?_⟩, main _ _ _ _ ?_⟩
        · obtain ⟨i1, i2, i3, i4, i5⟩ := okg
          exact ⟨i1, i2, i3, by rw [yput4_21]; exact i4, by rw [yput4_21]; exact i5⟩
        · intro a h1 h2 h3
          exact if_neg h3
        · rw [yput4_21, g21]; omega
        · rw [yput4_21, g21]; omega
        refine w1 _ _ _ _ (fun hz => absurd (of_decide_eq_true (yrel5 ▸ hz)) c2) (fun _ => ?_)
        refine r_ld (t := 2) rfl (Or.inr (Or.inl ⟨rfl, Or.inl rfl⟩)) rfl rfl ?_
        refine r_ld (t := 2) rfl (Or.inr (Or.inl ⟨rfl, Or.inl rfl⟩)) rfl rfl ?_
        refine r_get (a := 21) rfl (by omega) (yst_obj (fs := [3, 0]) rfl) rfl ?_
        refine r_ld (t := 2) rfl (Or.inr (Or.inl ⟨rfl, Or.inl rfl⟩)) rfl rfl ?_
        refine r_get (a := 21) rfl (by omega) (yst_obj (fs := [3, 0]) rfl) rfl ?_
        refine r_alen (m := (M 21 2).toNat) rfl o3 (by show zlen (yst M cc tr T tr) = _; rw [yst_tab o2]; show some (yrow _ _).length = _; rw [yrow_len]) ?_
        rw [show Int32.ofNat (M 21 2).toNat = yi (M 21 2) by unfold yi; rw [show Int32.ofNat (M 21 2).toNat = Int32.ofInt ((M 21 2).toNat : Int) from rfl, Int.toNat_of_nonneg o4]]
        refine r_ic (b := yi 2) rfl (by decide) (by decide) ?_
        refine r_bin rfl (by decide) ?_
        rw [show zbin 25 (yi (M 21 2)) (yi 2) = yi (M 21 2 * 2) from (Int32.ofInt_mul _ 2).symm]
        have hc := m_copyOf (sc := sc) (dd := dd) (n := n) (a := tr) (H := yst M cc tr T) (xs := yrow (M 22) (M 21 2).toNat) (m := yi (M 21 2 * 2)) (by omega) o3 (yst_tab o2) (by omega) (by rw [yrow_len]; omega) (by omega)
        rw [e2, yrow_len] at hc
        have hk : zG sc zg_c140 zg_w140 (n + 1) dd 24 (zargs 0 [.ref 21, .int (yi p), .int (yi q), .int (yi u), .int (yi v)]) [.ref n, .ref 21] (zU (yst M cc tr T) n (.inr (.inl (yrow (M 22) (M 21 2).toNat ++ List.replicate ((M 21 2 * 2).toNat - (M 21 2).toNat) 0)))) none (n + 1) (yst (yput4 (ygrow M) p q u v) cc n (fun b => if b = tr then .inr (.inl (yrow (M 22) (M 21 2).toNat)) else T b)) 0 := by
          refine r_put (a := 21) (fs := yfl M cc tr 21 [3, 0]) rfl (Or.inl rfl) (by omega) (by rw [zU_ne (by omega)]; exact yst_obj (fs := [3, 0]) rfl) (by rw [yfl_len]; decide) rfl ?_
          rw [ygrow_st o1 o2 o3 c3.1]
          exact t_put4 (by omega) okg rfl rfl rfl rfl rfl
        have := g_stat (C := zg_c140) (W := zg_w140) (j := 23) (as := [.ref tr, .int (yi (M 21 2 * 2))]) (S := [.ref 21]) rfl (Or.inl rfl) rfl (by decide) hc hk
        exact this
      · rw [if_neg c3] at hr
        cases hr
  · rw [if_neg c1] at hr
    cases hr
    refine ⟨n, tr, T, 0, yext_refl hok', main _ _ _ _ ?_⟩
    refine w0 _ _ _ _ (fun hz => absurd (of_decide_eq_true (yrel2 ▸ hz)) (by omega)) (fun _ => ?_)
    exact g_vret rfl
end YTa
