/-! plus, with, isBelow, isChecked -/
theorem zU_zU {H : Nat → zO} {a : Nat} {x y : zO} : zU (zU H a x) a y = zU H a y := by
  funext b
  unfold zU
  by_cases h : b = a
  · rw [if_pos h, if_pos h]
  · rw [if_neg h, if_neg h, if_neg h]
theorem cpy_all {α : Type} {xs : List α} {e : α} : zcpy xs (List.replicate (xs.length + 1) e) 0 0 xs.length = xs ++ [e] := by
  unfold zcpy
  rw [List.take_zero, List.nil_append, List.drop_zero, List.take_length, Nat.zero_add, List.drop_replicate, show xs.length + 1 - xs.length = 1 by omega]
  rfl
theorem set_last {α : Type} {xs : List α} {e f : α} : (xs ++ [e]).set xs.length f = xs ++ [f] := by
  rw [List.set_append_right _ _ (Nat.le_refl _), Nat.sub_self]; rfl
section HrD
variable {sc : List Int32} {n q dd a d : Nat} {H : Nat → zO} {v : Int32} {xs ps ks : List Int32} {ys : List (Option Nat)} {c : Nat → Nat}
theorem L_167 (ha : a < n) (hH : H a = .inr (.inl xs)) (hl : xs.length ≤ 1000) : hP sc (dd + 2) 167 [.ref a, .int v] n q H fun u n' q' H' => u = some (.ref n) ∧ n' = n + 1 ∧ q' = q + (xs.length + 1) ∧ H' = zU H n (.inr (.inl (xs ++ [v]))) := by
  have na : a ≠ n := by omega
  refine h_meth (C := zg_c167) (W := zg_w167) (ml := 3) rfl rfl (Nat.le_of_ble_eq_true rfl) ?_
  refine h_ld (t := 2) rfl (Or.inr (Or.inl ⟨rfl, Or.inl rfl⟩)) rfl rfl ?_
  refine h_alen (m := xs.length) rfl ha (by rw [hH]; rfl) ?_
  refine h_ic (b := 1) rfl (by decide) (by decide) ?_
  refine h_add rfl ?_
  refine h_newA (m := xs.length + 1) rfl (by decide) (by omega) ?_
  refine h_st (t := 2) rfl (Or.inr ⟨rfl, Or.inl rfl⟩) rfl ?_
  refine h_ld (t := 2) rfl (Or.inr (Or.inl ⟨rfl, Or.inl rfl⟩)) rfl rfl ?_
  refine h_ic (b := 0) rfl (by decide) (by decide) ?_
  refine h_ld (t := 2) rfl (Or.inr (Or.inl ⟨rfl, Or.inl rfl⟩)) rfl rfl ?_
  refine h_ic (b := 0) rfl (by decide) (by decide) ?_
  refine h_ld (t := 2) rfl (Or.inr (Or.inl ⟨rfl, Or.inl rfl⟩)) rfl rfl ?_
  refine h_alen (m := xs.length) rfl (by omega) (by rw [zU_ne na, hH]; rfl) ?_
  refine h_copy (xs := xs) (ys := List.replicate (xs.length + 1) 0) (m := xs.length) rfl (by omega) (by omega) (by rw [zU_ne na, hH]) (by rw [zU_eq]; rfl) (by omega) (Nat.le_refl _) (by rw [List.length_replicate]; omega) (by omega) (Nat.le_of_ble_eq_true rfl) ?_
  rw [cpy_all, zU_zU]
  refine h_ld (t := 2) rfl (Or.inr (Or.inl ⟨rfl, Or.inl rfl⟩)) rfl rfl ?_
  refine h_ld (t := 2) rfl (Or.inr (Or.inl ⟨rfl, Or.inl rfl⟩)) rfl rfl ?_
  refine h_alen (m := xs.length) rfl (by omega) (by rw [zU_ne na, hH]; rfl) ?_
  refine h_ld (t := 0) rfl (Or.inl ⟨rfl, Or.inl rfl⟩) rfl rfl ?_
  refine h_iast (xs := xs ++ [0]) (k := xs.length) rfl (by omega) (by rw [zU_eq]) (by omega) (by rw [List.length_append]; show xs.length < xs.length + 1; omega) ?_
  rw [set_last, zU_zU]
  refine h_ld (t := 2) rfl (Or.inr (Or.inl ⟨rfl, Or.inl rfl⟩)) rfl rfl ?_
  exact h_aret rfl rfl ⟨rfl, rfl, rfl, rfl⟩
theorem L_168 (ha : a < n) (hH : H a = .inr (.inr (.inr (4, ys)))) (hl : ys.length ≤ 1000) (hall : ∀ r ∈ ys, ∃ g zs, r = some g ∧ g < n ∧ H g = .inr (.inl zs)) (hd : d < n) (hHd : H d = .inr (.inl xs)) : hP sc (dd + 2) 168 [.ref a, .ref d] n q H fun u n' q' H' => u = some (.ref n) ∧ n' = n + 1 ∧ q' = q + (ys.length + 1) ∧ H' = zU H n (.inr (.inr (.inr (4, ys ++ [some d])))) := by
  have na : a ≠ n := by omega
  have nd : d ≠ n := by omega
  refine h_meth (C := zg_c168) (W := zg_w168) (ml := 3) rfl rfl (Nat.le_of_ble_eq_true rfl) ?_
  refine h_ld (t := 2) rfl (Or.inr (Or.inl ⟨rfl, Or.inl rfl⟩)) rfl rfl ?_
  refine h_alen (m := ys.length) rfl ha (by rw [hH]; rfl) ?_
  refine h_ic (b := 1) rfl (by decide) (by decide) ?_
  refine h_add rfl ?_
  refine h_newA (m := ys.length + 1) rfl (by decide) (by omega) ?_
  refine h_st (t := 2) rfl (Or.inr ⟨rfl, Or.inl rfl⟩) rfl ?_
  refine h_ld (t := 2) rfl (Or.inr (Or.inl ⟨rfl, Or.inl rfl⟩)) rfl rfl ?_
  refine h_ic (b := 0) rfl (by decide) (by decide) ?_
  refine h_ld (t := 2) rfl (Or.inr (Or.inl ⟨rfl, Or.inl rfl⟩)) rfl rfl ?_
  refine h_ic (b := 0) rfl (by decide) (by decide) ?_
  refine h_ld (t := 2) rfl (Or.inr (Or.inl ⟨rfl, Or.inl rfl⟩)) rfl rfl ?_
  refine h_alen (m := ys.length) rfl (by omega) (by rw [zU_ne na, hH]; rfl) ?_
  refine h_copyR (xs := ys) (ys := List.replicate (ys.length + 1) none) (m := ys.length) rfl (by omega) (by omega) (by rw [zU_ne na, hH]) (by rw [zU_eq]; rfl) (fun r hr => ?_) (by omega) (Nat.le_refl _) (by rw [List.length_replicate]; omega) (by omega) (Nat.le_of_ble_eq_true rfl) ?_
  · obtain ⟨g, zs, h1, h2, h3⟩ := hall r hr
    exact ⟨g, zs, h1, by omega, by rw [zU_ne (by omega), h3]⟩
  rw [cpy_all, zU_zU]
  refine h_ld (t := 2) rfl (Or.inr (Or.inl ⟨rfl, Or.inl rfl⟩)) rfl rfl ?_
  refine h_ld (t := 2) rfl (Or.inr (Or.inl ⟨rfl, Or.inl rfl⟩)) rfl rfl ?_
  refine h_alen (m := ys.length) rfl (by omega) (by rw [zU_ne na, hH]; rfl) ?_
  refine h_ld (t := 2) rfl (Or.inr (Or.inl ⟨rfl, Or.inl rfl⟩)) rfl rfl ?_
  refine h_aast (ys := ys ++ [none]) (k := ys.length) (xs := xs) rfl (by omega) (by rw [zU_eq]) (by omega) (by rw [List.length_append]; show ys.length < ys.length + 1; omega) (by omega) (by rw [zU_ne nd, hHd]) ?_
  rw [set_last, zU_zU]
  refine h_ld (t := 2) rfl (Or.inr (Or.inl ⟨rfl, Or.inl rfl⟩)) rfl rfl ?_
  exact h_aret rfl rfl ⟨rfl, rfl, rfl, rfl⟩
/-- an own program's cell -/
def o416 (H : Nat → zO) (c : Nat → Nat) : Prop := H 416 = .inl (10, [.ref (c 0), .ref (c 1), .ref (c 2), .ref (c 3), .ref (c 4)])
/-- parents come ahead of their classes -/
def oPs (ps : List Int32) : Prop := ps.length ≤ 13 ∧ ∀ i : Nat, 1 ≤ i → i < ps.length → ∃ p : Nat, ps[i]? = some (yi (p : Int)) ∧ p < i ∧ (i ≤ 4 → p = 0)
theorem L_163 (hn : 416 < n) (ho : o416 H c) (h1 : c 1 < n) (hp : H (c 1) = .inr (.inl ps)) (hps : oPs ps) {o : Int} (hoo : ysm o) : ∀ (f k : Nat), k ≤ f → k < ps.length → ∃ r : Int, (r = 0 ∨ r = 1) ∧ ((k : Int) = o → r = 1) ∧ hP sc (dd + f + 1) 163 [.ref 416, .int (yi (k : Int)), .int (yi o)] n q H fun u n' q' H' => u = some (.int (yi r)) ∧ n' = n ∧ q' = q ∧ H' = H := by
  intro f
  induction f with
  | zero =>
    intro k hk hl
    have e : k = 0 := by omega
    subst e
    by_cases h : (((0 : Nat) : Int)) = o
    · refine ⟨1, Or.inr rfl, fun _ => rfl, ?_⟩
      refine h_meth (C := zg_c163) (W := zg_w163) (ml := 3) rfl rfl (Nat.le_of_ble_eq_true rfl) ?_
      refine h_ld (t := 0) rfl (Or.inl ⟨rfl, Or.inl rfl⟩) rfl rfl ?_
      refine h_ld (t := 0) rfl (Or.inl ⟨rfl, Or.inl rfl⟩) rfl rfl ?_
      refine h_c0 rfl ⟨⟨by decide, by decide⟩, hoo⟩ (fun _ => ?_) fun h' => absurd h h'
      refine h_ic (b := 1) rfl (by decide) (by decide) ?_
      refine h_go rfl ?_
      exact h_iret rfl rfl ⟨rfl, rfl, rfl, rfl⟩
    · refine ⟨0, Or.inl rfl, fun q => absurd q h, ?_⟩
      refine h_meth (C := zg_c163) (W := zg_w163) (ml := 3) rfl rfl (Nat.le_of_ble_eq_true rfl) ?_
      refine h_ld (t := 0) rfl (Or.inl ⟨rfl, Or.inl rfl⟩) rfl rfl ?_
      refine h_ld (t := 0) rfl (Or.inl ⟨rfl, Or.inl rfl⟩) rfl rfl ?_
      refine h_c0 rfl ⟨⟨by decide, by decide⟩, hoo⟩ (fun h' => absurd h' h) fun _ => ?_
      refine h_ld (t := 0) rfl (Or.inl ⟨rfl, Or.inl rfl⟩) rfl rfl ?_
      refine h_b5 rfl ⟨by decide, by decide⟩ (fun _ => ?_) fun h' => absurd h' (by decide)
      refine h_ic (b := 0) rfl (by decide) (by decide) ?_
      exact h_iret rfl rfl ⟨rfl, rfl, rfl, rfl⟩
  | succ f ih =>
    intro k hk hl
    have h13 := hps.1
    by_cases h : (k : Int) = o
    · refine ⟨1, Or.inr rfl, fun _ => rfl, ?_⟩
      refine h_meth (C := zg_c163) (W := zg_w163) (ml := 3) rfl rfl (Nat.le_of_ble_eq_true rfl) ?_
      refine h_ld (t := 0) rfl (Or.inl ⟨rfl, Or.inl rfl⟩) rfl rfl ?_
      refine h_ld (t := 0) rfl (Or.inl ⟨rfl, Or.inl rfl⟩) rfl rfl ?_
      refine h_c0 rfl ⟨⟨by omega, by omega⟩, hoo⟩ (fun _ => ?_) fun h' => absurd h h'
      refine h_ic (b := 1) rfl (by decide) (by decide) ?_
      refine h_go rfl ?_
      exact h_iret rfl rfl ⟨rfl, rfl, rfl, rfl⟩
    · by_cases h0 : k = 0
      · subst h0
        refine ⟨0, Or.inl rfl, fun q => absurd q h, ?_⟩
        refine h_meth (C := zg_c163) (W := zg_w163) (ml := 3) rfl rfl (Nat.le_of_ble_eq_true rfl) ?_
        refine h_ld (t := 0) rfl (Or.inl ⟨rfl, Or.inl rfl⟩) rfl rfl ?_
        refine h_ld (t := 0) rfl (Or.inl ⟨rfl, Or.inl rfl⟩) rfl rfl ?_
        refine h_c0 rfl ⟨⟨by decide, by decide⟩, hoo⟩ (fun h' => absurd h' h) fun _ => ?_
        refine h_ld (t := 0) rfl (Or.inl ⟨rfl, Or.inl rfl⟩) rfl rfl ?_
        refine h_b5 rfl ⟨by decide, by decide⟩ (fun _ => ?_) fun h' => absurd h' (by decide)
        refine h_ic (b := 0) rfl (by decide) (by decide) ?_
        exact h_iret rfl rfl ⟨rfl, rfl, rfl, rfl⟩
      · obtain ⟨p, hp1, hp2, -⟩ := hps.2 k (by omega) hl
        obtain ⟨r, r1, -, r2⟩ := ih p (by omega) (by omega)
        refine ⟨r, r1, fun q => absurd q h, ?_⟩
        refine h_meth (C := zg_c163) (W := zg_w163) (ml := 3) rfl rfl (Nat.le_of_ble_eq_true rfl) ?_
        refine h_ld (t := 0) rfl (Or.inl ⟨rfl, Or.inl rfl⟩) rfl rfl ?_
        refine h_ld (t := 0) rfl (Or.inl ⟨rfl, Or.inl rfl⟩) rfl rfl ?_
        refine h_c0 rfl ⟨⟨by omega, by omega⟩, hoo⟩ (fun h' => absurd h' h) fun _ => ?_
        refine h_ld (t := 0) rfl (Or.inl ⟨rfl, Or.inl rfl⟩) rfl rfl ?_
        refine h_b5 rfl ⟨by omega, by omega⟩ (fun h' => absurd h' (by omega)) fun _ => ?_
        refine h_ld (t := 2) rfl (Or.inr (Or.inl ⟨rfl, Or.inl rfl⟩)) rfl rfl ?_
        refine h_ld (t := 2) rfl (Or.inr (Or.inl ⟨rfl, Or.inl rfl⟩)) rfl rfl ?_
        refine h_get rfl hn ho rfl ?_
        refine h_ld (t := 0) rfl (Or.inl ⟨rfl, Or.inl rfl⟩) rfl rfl ?_
        refine h_iald rfl h1 hp (by omega) hp1 ?_
        refine h_ld (t := 0) rfl (Or.inl ⟨rfl, Or.inl rfl⟩) rfl rfl ?_
        refine h_obj (a := 416) (as := [.int (yi (p : Int)), .int (yi o)]) (S := []) rfl (by decide) rfl (Nat.le_of_ble_eq_true rfl) hn ho r2 ?_
        rintro u n1 q1 H1 ⟨rfl, rfl, rfl, rfl⟩
        refine h_b0 rfl ⟨by omega, by omega⟩ (fun h' => ?_) fun h' => ?_
        · refine h_ic (b := 0) rfl (by decide) (by decide) ?_
          exact h_iret rfl rfl ⟨by rw [h'], rfl, rfl, rfl⟩
        · refine h_ic (b := 1) rfl (by decide) (by decide) ?_
          refine h_go rfl ?_
          exact h_iret rfl rfl ⟨by rw [show r = 1 by omega], rfl, rfl, rfl⟩
end HrD
