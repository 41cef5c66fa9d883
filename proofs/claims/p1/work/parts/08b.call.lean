/-! contracts, and calls by contract -/
def xg_CW (k : Nat) : Cond := cond (xg_WH k) (.codeWith (xg_Y k) (xg_CC k) (xg_ML k) (xg_RT k) (xg_HH k)) (.code (xg_Y k) (xg_CC k) (xg_ML k) (xg_RT k))
/-- texts of thrown ones, and classes of which none is the other's -/
def xf_F (s : State) : Prop := (∀ t ∈ xg_ST, ∃ a, vk_R t.1 t.2.1 t.2.2 a s) ∧ ∀ t ∈ xg_NC, va_Nc t.1 t.2 s
theorem xf_F_warm {s U : State} (hW : s.WarmedH U.vm) (h : xf_F s) : xf_F U := ⟨fun t ht => by obtain ⟨a, h1⟩ := h.1 t ht; exact ⟨a, vk_R.warm hW h1⟩, fun t ht => va_Nc.moved hW.alike (h.2 t ht)⟩
def xw_P (E : xm_E) (D : va_G) (A : Nat → Prop) (sc : List xv_V) (ws : va_W) (tys : xm_T) (as : List xv_V) (h : List xv_O) : Array Value → State → Prop := fun a U =>
  xf_2 (xm_V E ws) as a.toList ∧ xf_2 (xm_O E ws tys) h ws ∧ va_K D vwCl tys U ∧ va_P D vwCl ws U.heap ∧ va_D A ws ∧ (∀ q, U.heap.size ≤ q → A q) ∧ xf_E A E sc U ∧ xf_F U
/-- the world behind it -/
def xw_W (E : xm_E) (D : va_G) (A : Nat → Prop) (ws ws' : va_W) (tys' : xm_T) (r : xv_R) (st t : State) : Prop :=
  xm_le ws ws' ∧ xf_2 (xm_O E ws' tys') r.2.2.1 ws' ∧ va_K D vwCl tys' t ∧ va_P D vwCl ws' t.heap ∧ va_D A ws' ∧ va_F A st t
def xw_Q (E : xm_E) (D : va_G) (A : Nat → Prop) (ws : va_W) (r : xv_R) : Array Value → State → Outcome → State → Prop := fun _ st o t =>
  ∃ (v : Option Value) (ws' : va_W) (tys' : xm_T), o = .returned v ∧ ((r.1 = 0 ∧ v = none) ∨ (r.1 = 1 ∧ ∃ x, v = some x ∧ xm_V E ws' r.2.1 x)) ∧ xw_W E D A ws ws' tys' r st t
def xw_X (E : xm_E) (D : va_G) (A : Nat → Prop) (ws : va_W) (r : xv_R) : String → State → State → Prop := fun nm st t =>
  ∃ (k : Nat) (ws' : va_W) (tys' : xm_T), r.1 = 2 + k ∧ k < 3 ∧ nm = xg_EX k ∧ xw_W E D A ws ws' tys' r st t
def xw_M (l : Launch) (E : xm_E) (D : va_G) (A : Nat → Prop) (sc : List xv_V) (d k : Nat) (as : List xv_V) (h : List xv_O) (r : xv_R) : Prop := ∀ (ws : va_W) (tys : xm_T),
  vx_Met l (xg_Y k) (xg_CW k :: xw_B) { frames := d, cells := r.2.2.2.1, slots := r.2.2.2.2, locals := 64 * d } (xw_P E D A sc ws tys as h) (xw_Q E D A ws r) (xw_X E D A ws r) r.2.2.2.1 r.2.2.2.2 A
/-- what is outside the worlds goes on -/
theorem xf_E_moved {A : Nat → Prop} {E : xm_E} {sc : List xv_V} {s U : State} {H : Heap} {locs : List Loc} (h : xf_E A E sc s) (hS : va_S A s.heap H locs) (hU : U.heap = H) (hW : s.WarmedH U.vm) : xf_E A E sc U := by
  obtain ⟨h1, h2, h3, h4, xs, N, x1, x2, x3, x4, x5⟩ := h
  subst hU
  have hal := hW.alike
  refine ⟨(h1.kept hS.2.1).moved hal, (h2.kept hS.2.1).moved hal, (h3.kept hS.2.1).moved hal, (h4.kept hS.2.1).moved hal, xs, N, (x1.kept (hS.2.1 _ x2 x3)).moved hal, Nat.lt_of_lt_of_le x2 hS.1, x3, x4, x5⟩
theorem xw_P_blind {E : xm_E} {D : va_G} {A : Nat → Prop} {sc : List xv_V} {ws : va_W} {tys : xm_T} {as : List xv_V} {h : List xv_O} : FrameBlind (xw_P E D A sc ws tys as h) := fun _ _ _ _ h => h
/-- splitting -/
theorem xf_2_split {α β : Type} {R : α → β → Prop} : ∀ {a b : List α} {l : List β}, xf_2 R (a ++ b) l → ∃ l1 l2, l = l1 ++ l2 ∧ xf_2 R a l1 ∧ xf_2 R b l2
  | [], _, l, h => ⟨[], l, rfl, trivial, h⟩
  | _ :: a, b, l, h => by
    obtain ⟨y, l', rfl, h1, h2⟩ := xf_2_cons h
    obtain ⟨l1, l2, rfl, h3, h4⟩ := xf_2_split h2
    exact ⟨y :: l1, l2, rfl, ⟨h1, h3⟩, h4⟩
theorem xf_2_rev {α β : Type} {R : α → β → Prop} : ∀ {a : List α} {l : List β}, xf_2 R a l → xf_2 R a.reverse l.reverse
  | [], [], _ => trivial
  | x :: a, y :: l, h => by
    rw [List.reverse_cons, List.reverse_cons]
    exact xf_2_app (xf_2_rev h.2) ⟨h.1, trivial⟩
  | [], _ :: _, h => h.elim
  | _ :: _, [], h => h.elim
theorem xe_take {β : Type} : ∀ (n : Nat) {S acc : List xv_V} {k : List xv_V → List xv_V → Option β} {r : β}, xq_take n S acc k = some r → ∃ as S', as.length = n ∧ S = as.reverse ++ S' ∧ k (as ++ acc) S' = some r
  | 0, S, acc, k, r, h => ⟨[], S, rfl, rfl, h⟩
  | n + 1, S, acc, k, r, h => by
    obtain ⟨v, S1, rfl, h1⟩ := xe_pop (show xq_pop S (fun v S => xq_take n S (v :: acc) k) = some r from h)
    obtain ⟨as, S', h2, rfl, h3⟩ := xe_take n h1
    exact ⟨as ++ [v], S', by simp [h2], by simp, by simpa using h3⟩
section XRun
variable {p : Program} {l : Launch} {e : Env} {R : Room} {s : State} {m : MethodId} {args : Array Value} {below : List Frame} {meth : Method} {c : Code} {Q : State → Prop} {A : Nat → Prop} {E : xm_E} {D : va_G} {ws : va_W} {r0 : xv_R} {H : Heap} {locs : List Loc} {nc ns pc : Nat} {ls : Array Slot} {st0 rest : List Value} {aa : Array Value}
/-- behind a call, by its outcome -/
theorem xa_run (hr : vx_Run p l e R s m args below meth c H locs nc ns r0.2.2.2.1 r0.2.2.2.2 (F0 m pc ls st0) rest (xw_Q E D A ws r0 aa) (xw_X E D A ws r0) A) (hS : va_S A s.heap H locs)
    (kk : ∀ (v : Option Value) (ws' : va_W) (tys' : xm_T) (H1 : Heap) (locs1 : List Loc), ((r0.1 = 0 ∧ v = none) ∨ (r0.1 = 1 ∧ ∃ x, v = some x ∧ xm_V E ws' r0.2.1 x)) → xm_le ws ws' → xf_2 (xm_O E ws' tys') r0.2.2.1 ws' → va_K D vwCl tys' s → va_P D vwCl ws' H1 → va_D A ws' → va_S A s.heap H1 locs1 → W p l e R s m args below meth c H1 locs1 (nc + r0.2.2.2.1) (ns + r0.2.2.2.2) Q (F0 m (pc + 3) ls (v.toList ++ rest)))
    (kx : ∀ (k : Nat) (q : Addr) (ce : Cell) (ws' : va_W) (tys' : xm_T) (H1 : Heap) (locs1 : List Loc), r0.1 = 2 + k → k < 3 → H1[q]? = some ce → ce.vm = .none → s.vm.findClass (xg_EX k) = some ce.cls → xm_le ws ws' → xf_2 (xm_O E ws' tys') r0.2.2.1 ws' → va_K D vwCl tys' s → va_P D vwCl ws' H1 → va_D A ws' → va_S A s.heap H1 locs1 → vx_W p l e R s m args below meth c H1 locs1 (nc + r0.2.2.2.1) (ns + r0.2.2.2.2) Q (F0 m pc ls rest) q) :
    W p l e R s m args below meth c H locs nc ns Q (F0 m pc ls st0) := by
  intro T hT X
  rcases hr T hT X with ⟨v, st₀, t, T', L, h0, X', hL, e1, e2, ⟨v', ws', tys', hv, hv2, w1, w2, w3, w4, w5, hF⟩, st⟩ | ⟨q, st₀, t, T', L, Ex, ce, h0, X', hL, e1, e2, ⟨k, ws', tys', g1, g2, g3, w1, w2, w3, w4, w5, hF⟩, hce, hcv, hcl, st⟩
  · cases hv
    obtain ⟨k1, k2, k3⟩ := vx_keep h0 e1 hS (fun _ _ h => h) (fun _ h => h) hL hF
    have hal : t.vm.Alike s.vm := by rw [← e2]; exact X'.warmed.alike.symm
    obtain ⟨t2, a1, b1⟩ := kk v ws' tys' T'.heap (locs ++ L) hv2 w1 w2 (w3.moved hal) (by rw [e1]; exact w4) w5 k3 T' rfl X'
    exact ⟨t2, st t2 a1, b1⟩
  · subst g3
    obtain ⟨k1, k2, k3⟩ := vx_keep h0 e1 hS (fun _ _ h => h) (fun _ h => h) hL hF
    have hal : t.vm.Alike s.vm := by rw [← e2]; exact X'.warmed.alike.symm
    obtain ⟨t2, a1, b1⟩ := kx k q ce ws' tys' T'.heap (locs ++ L) g1 g2 (by rw [e1]; exact hce) hcv hcl w1 w2 (w3.moved hal) (by rw [e1]; exact w4) w5 k3 T' rfl X'
    exact ⟨t2, st.trans a1, b1⟩
theorem xa_run5 (hr : vx_Run5 p l e R s m args below meth c H locs nc ns r0.2.2.2.1 r0.2.2.2.2 (F0 m pc ls st0) rest (xw_Q E D A ws r0 aa) (xw_X E D A ws r0) A) (hS : va_S A s.heap H locs)
    (kk : ∀ (v : Option Value) (ws' : va_W) (tys' : xm_T) (H1 : Heap) (locs1 : List Loc), ((r0.1 = 0 ∧ v = none) ∨ (r0.1 = 1 ∧ ∃ x, v = some x ∧ xm_V E ws' r0.2.1 x)) → xm_le ws ws' → xf_2 (xm_O E ws' tys') r0.2.2.1 ws' → va_K D vwCl tys' s → va_P D vwCl ws' H1 → va_D A ws' → va_S A s.heap H1 locs1 → W p l e R s m args below meth c H1 locs1 (nc + r0.2.2.2.1) (ns + r0.2.2.2.2) Q (F0 m (pc + 5) ls (v.toList ++ rest)))
    (kx : ∀ (k : Nat) (q : Addr) (ce : Cell) (ws' : va_W) (tys' : xm_T) (H1 : Heap) (locs1 : List Loc), r0.1 = 2 + k → k < 3 → H1[q]? = some ce → ce.vm = .none → s.vm.findClass (xg_EX k) = some ce.cls → xm_le ws ws' → xf_2 (xm_O E ws' tys') r0.2.2.1 ws' → va_K D vwCl tys' s → va_P D vwCl ws' H1 → va_D A ws' → va_S A s.heap H1 locs1 → vx_W p l e R s m args below meth c H1 locs1 (nc + r0.2.2.2.1) (ns + r0.2.2.2.2) Q (F0 m pc ls rest) q) :
    W p l e R s m args below meth c H locs nc ns Q (F0 m pc ls st0) := by
  intro T hT X
  rcases hr T hT X with ⟨v, st₀, t, T', L, h0, X', hL, e1, e2, ⟨v', ws', tys', hv, hv2, w1, w2, w3, w4, w5, hF⟩, st⟩ | ⟨q, st₀, t, T', L, Ex, ce, h0, X', hL, e1, e2, ⟨k, ws', tys', g1, g2, g3, w1, w2, w3, w4, w5, hF⟩, hce, hcv, hcl, st⟩
  · cases hv
    obtain ⟨k1, k2, k3⟩ := vx_keep h0 e1 hS (fun _ _ h => h) (fun _ h => h) hL hF
    have hal : t.vm.Alike s.vm := by rw [← e2]; exact X'.warmed.alike.symm
    obtain ⟨t2, a1, b1⟩ := kk v ws' tys' T'.heap (locs ++ L) hv2 w1 w2 (w3.moved hal) (by rw [e1]; exact w4) w5 k3 T' rfl X'
    exact ⟨t2, st t2 a1, b1⟩
  · subst g3
    obtain ⟨k1, k2, k3⟩ := vx_keep h0 e1 hS (fun _ _ h => h) (fun _ h => h) hL hF
    have hal : t.vm.Alike s.vm := by rw [← e2]; exact X'.warmed.alike.symm
    obtain ⟨t2, a1, b1⟩ := kx k q ce ws' tys' T'.heap (locs ++ L) g1 g2 (by rw [e1]; exact hce) hcv hcl w1 w2 (w3.moved hal) (by rw [e1]; exact w4) w5 k3 T' rfl X'
    exact ⟨t2, st.trans a1, b1⟩
end XRun
