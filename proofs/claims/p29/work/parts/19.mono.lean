/-! more fuel and more depth change nothing -/
def zle {β : Type} (f g : Option β) : Prop := ∀ r, f = some r → g = some r
section ZMo
variable {α β : Type}
theorem zle_refl {f : Option β} : zle f f := fun _ h => h
theorem zle_i {S : List Value} {k k' : Int32 → List Value → Option β} (h : ∀ x S, zle (k x S) (k' x S)) : zle (zq_i S k) (zq_i S k') := by
  intro r hr
  unfold zq_i at hr ⊢
  split at hr
  · exact h _ _ _ hr
  · cases hr
theorem zle_r {S : List Value} {k k' : Nat → List Value → Option β} (h : ∀ x S, zle (k x S) (k' x S)) : zle (zq_r S k) (zq_r S k') := by
  intro r hr
  unfold zq_r at hr ⊢
  split at hr
  · exact h _ _ _ hr
  · cases hr
theorem zle_b {b b' : Bool} {k k' : Option β} (hb : b = true → b' = true) (h : zle k k') : zle (zq_b b k) (zq_b b' k') := by
  intro r hr
  cases b with
  | true =>
    rw [hb rfl]
    exact h _ hr
  | false => cases hr
theorem zle_n {l : List α} {j : Nat} {k k' : α → Option β} (h : ∀ x, zle (k x) (k' x)) : zle (zq_n l j k) (zq_n l j k') := by
  intro r hr
  unfold zq_n at hr ⊢
  split at hr
  · exact h _ _ hr
  · cases hr
theorem zle_m {o o' : Option α} {k k' : α → Option β} (ho : zle o o') (h : ∀ x, zle (k x) (k' x)) : zle (zq_m o k) (zq_m o' k') := by
  intro r hr
  cases o with
  | none => cases hr
  | some x =>
    rw [ho x rfl]
    exact h _ _ hr
theorem zle_c {b : Bool} {x y x' y' : Option β} (hx : zle x x') (hy : zle y y') : zle (cond b x y) (cond b x' y') := by
  cases b with
  | true => exact hx
  | false => exact hy
end ZMo
theorem zle_d {d d' : Nat} {a b : Bool} (h : d ≤ d') (q : and a (and (Nat.ble 1 d) b) = true) : and a (and (Nat.ble 1 d') b) = true := by
  obtain ⟨q1, q2⟩ := ze_and q
  obtain ⟨q2, q3⟩ := ze_and q2
  rw [q1, q3, Nat.ble_eq_true_of_le (Nat.le_trans (Nat.le_of_ble_eq_true q2) h)]; rfl
theorem zle_d2 {d d' : Nat} {b : Bool} (h : d ≤ d') (q : and (Nat.ble 1 d) b = true) : and (Nat.ble 1 d') b = true := by
  obtain ⟨q2, q3⟩ := ze_and q
  rw [q3, Nat.ble_eq_true_of_le (Nat.le_trans (Nat.le_of_ble_eq_true q2) h)]; rfl
theorem cond_app {b : Bool} {f g : zF} {L : zL} {S : List Value} {h : List zO} : (cond b f g) L S h = cond b (f L S h) (g L S h) := by cases b <;> rfl
section ZMp
variable {sc : List Int32} {d d' : Nat} {L : zL} {S : List Value} {h : List zO}
theorem z1_le {op x y z : Nat} (hd : d ≤ d') : zle (z1 sc d op x y z L S h) (z1 sc d' op x y z L S h) := by
  have hc : zle (zo_copy d L S h) (zo_copy d' L S h) := by
    intro r hr
    unfold zo_copy at hr ⊢
    split at hr
    · exact zle_b (fun q => zle_d hd q) zle_refl _ hr
    · cases hr
  have ho : zle (zo_oini d L S h) (zo_oini d' L S h) := zle_r fun _ _ => zle_b (fun q => zle_d hd q) zle_refl
  have hm : zle (zo_min d L S h) (zo_min d' L S h) := zle_i fun _ _ => zle_i fun _ _ => zle_b (fun q => zle_d2 hd q) zle_refl
  unfold z1 z1c z1d
  simp only [cond_app]
  exact zle_c zle_refl (zle_c (zle_c zle_refl (zle_c zle_refl (zle_c zle_refl (zle_c zle_refl ho)))) (zle_c zle_refl (zle_c zle_refl (zle_c (zle_c zle_refl hc) (zle_c hm zle_refl)))))
variable {FD : List (List Value)} {X X' : zX} {ih ih' : zN} {nc ns j op x y z : Nat} {sw : List (List Nat)}
theorem zj_le (hi : ∀ j L S h nc ns, zle (ih j L S h nc ns) (ih' j L S h nc ns)) : zle (zj op x z j sw ih L S h nc ns) (zj op x z j sw ih' L S h nc ns) := by
  unfold zj
  refine zle_c (zle_i fun _ _ => hi _ _ _ _ _ _) (zle_c (zle_i fun _ _ => zle_i fun _ _ => hi _ _ _ _ _ _) (zle_c (hi _ _ _ _ _ _) (zle_i fun a S => zle_n fun w => ?_)))
  intro r hr
  split at hr
  · exact hi _ _ _ _ _ _ _ hr
  · cases hr
theorem znew_le (hi : ∀ j L S h nc ns, zle (ih j L S h nc ns) (ih' j L S h nc ns)) : zle (znew op x j FD ih L S h nc ns) (znew op x j FD ih' L S h nc ns) := by
  unfold znew
  exact zle_c (zle_n fun _ => hi _ _ _ _ _ _) (zle_i fun _ _ => zle_b (fun q => q) (hi _ _ _ _ _ _))
theorem zcall_le (hX : ∀ k as h, zle (X k as h) (X' k as h)) (hi : ∀ j L S h nc ns, zle (ih j L S h nc ns) (ih' j L S h nc ns)) : zle (zcall op x y z j X ih L S h nc ns) (zcall op x y z j X' ih' L S h nc ns) := by
  unfold zcall
  refine zle_b (fun q => q) (zle_c (zle_b (fun q => q) (zle_m (hX _ _ _) fun R => ?_)) (zle_r fun a S' => zle_b (fun q => q) (zle_m (hX _ _ _) fun R => ?_)))
  · exact hi _ _ _ _ _ _
  · exact hi _ _ _ _ _ _
theorem zrow_le {i : zI} (hd : d ≤ d') (hX : ∀ k as h, zle (X k as h) (X' k as h)) (hi : ∀ j L S h nc ns, zle (ih j L S h nc ns) (ih' j L S h nc ns)) : zle (zrow FD X d sc sw i j ih L S h nc ns) (zrow FD X' d' sc sw i j ih' L S h nc ns) := by
  unfold zrow
  exact zle_c (zle_m (z1_le hd) fun _ => hi _ _ _ _ _ _) (zle_c (znew_le hi) (zle_c (zj_le hi) (zle_c zle_refl (zle_c (zcall_le hX hi) zle_refl))))
theorem zl_le {code : List zI} (hd : d ≤ d') (hX : ∀ k as h, zle (X k as h) (X' k as h)) : ∀ {n n' : Nat}, n ≤ n' → ∀ (j : Nat) (L : zL) (S : List Value) (h : List zO) (nc ns : Nat), zle (zl FD X d sc code sw n j L S h nc ns) (zl FD X' d' sc code sw n' j L S h nc ns)
  | 0, _, _, j, L, S, h, nc, ns => by
    intro r hr
    cases hr
  | n + 1, n', hn, j, L, S, h, nc, ns => by
    obtain ⟨n', rfl⟩ : ∃ k, n' = k + 1 := ⟨n' - 1, by omega⟩
    exact zle_n fun i => zrow_le hd hX (fun j L S h nc ns => zl_le hd hX (by omega) j L S h nc ns)
end ZMp
theorem zx_le {FD : List (List Value)} {MT : List (List zM)} {sc : List Int32} {F F' : Nat} (hF : F ≤ F') : ∀ {d d' : Nat}, d ≤ d' → ∀ (k : Nat) (as : List Value) (h : List zO), zle (zx FD MT sc F d k as h) (zx FD MT sc F' d' k as h)
  | 0, _, _, k, as, h => by
    intro r hr
    cases hr
  | d + 1, d', hd, k, as, h => by
    obtain ⟨d', rfl⟩ : ∃ q, d' = q + 1 := ⟨d' - 1, by omega⟩
    exact zle_n fun g => zle_n fun t => zle_b (fun q => q) (zl_le (by omega) (fun k as h => zx_le hF (by omega) k as h) hF _ _ _ _ _ _)
