/-! what an abstract state says of a state -/
def xf_2 {α β : Type} (R : α → β → Prop) : List α → List β → Prop
  | [], [] => True
  | a :: as, b :: bs => R a b ∧ xf_2 R as bs
  | _, _ => False
theorem xf_2_nil {α β : Type} {R : α → β → Prop} {bs : List β} (h : xf_2 R [] bs) : bs = [] := by
  cases bs with
  | nil => rfl
  | cons b bs => cases h
theorem xf_2_cons {α β : Type} {R : α → β → Prop} {a : α} {as : List α} {bs : List β} (h : xf_2 R (a :: as) bs) : ∃ b bs', bs = b :: bs' ∧ R a b ∧ xf_2 R as bs' := by
  cases bs with
  | nil => cases h
  | cons b bs => exact ⟨b, bs, rfl, h.1, h.2⟩
theorem xf_2_mono {α β : Type} {R R' : α → β → Prop} (hR : ∀ a b, R a b → R' a b) : ∀ {as : List α} {bs : List β}, xf_2 R as bs → xf_2 R' as bs
  | [], [], _ => trivial
  | _ :: _, _ :: _, h => ⟨hR _ _ h.1, xf_2_mono hR h.2⟩
  | [], _ :: _, h => h.elim
  | _ :: _, [], h => h.elim
theorem xf_2_len {α β : Type} {R : α → β → Prop} : ∀ {as : List α} {bs : List β}, xf_2 R as bs → as.length = bs.length
  | [], [], _ => rfl
  | _ :: _, _ :: _, h => by simp [xf_2_len h.2]
  | [], _ :: _, h => h.elim
  | _ :: _, [], h => h.elim
theorem xf_2_get {α β : Type} {R : α → β → Prop} {as : List α} : ∀ {bs : List β}, xf_2 R as bs → ∀ (i : Nat) (a : α), as[i]? = some a → ∃ b, bs[i]? = some b ∧ R a b := by
  induction as with
  | nil => intro bs h i a hi; simp at hi
  | cons x as ih =>
    intro bs h i a hi
    obtain ⟨b, bs', rfl, h1, h2⟩ := xf_2_cons h
    cases i with
    | zero => simp at hi; subst hi; exact ⟨b, rfl, h1⟩
    | succ i =>
      obtain ⟨b', h3, h4⟩ := ih h2 i a (by simpa using hi)
      exact ⟨b', by simpa using h3, h4⟩
theorem xf_2_c {α β : Type} {R : α → β → Prop} {a : α} {b : β} {as : List α} {bs : List β} (h1 : R a b) (h2 : xf_2 R as bs) : xf_2 R (a :: as) (b :: bs) := ⟨h1, h2⟩
theorem xf_2_app {α β : Type} {R : α → β → Prop} : ∀ {as : List α} {bs : List β}, xf_2 R as bs → ∀ {as' : List α} {bs' : List β}, xf_2 R as' bs' → xf_2 R (as ++ as') (bs ++ bs')
  | [], [], _ => fun h => h
  | _ :: _, _ :: _, h => fun h' => ⟨h.1, xf_2_app h.2 h'⟩
  | [], _ :: _, h => h.elim
  | _ :: _, [], h => h.elim
theorem xf_2_set {α β : Type} {R : α → β → Prop} : ∀ {as : List α} {bs : List β}, xf_2 R as bs → ∀ (i : Nat) {a : α} {b : β}, R a b → xf_2 R (as.set i a) (bs.set i b)
  | [], [], _ => fun _ _ _ _ => trivial
  | _ :: _, _ :: _, h => fun i a b hR => by
    cases i with
    | zero => exact ⟨hR, h.2⟩
    | succ i => exact ⟨h.1, xf_2_set h.2 i hR⟩
  | [], _ :: _, h => h.elim
  | _ :: _, [], h => h.elim
/-- the same cells, whatever they hold -/
def xm_le (ws ws' : va_W) : Prop := ∀ (i a : Nat) (e : va_E), ws[i]? = some (a, e) → ∃ e' : va_E, ws'[i]? = some (a, e')
theorem xm_le_app (ws w : va_W) : xm_le ws (ws ++ w) := fun i a e h => ⟨e, by rw [List.getElem?_append_left (List.getElem?_eq_some_iff.mp h).1]; exact h⟩
theorem xm_le_set {ws : va_W} {i a : Nat} {e e' : va_E} (h : ws[i]? = some (a, e)) : xm_le ws (ws.set i (a, e')) := by
  intro j b f hj
  by_cases q : i = j
  · subst q
    rw [h] at hj
    cases hj
    exact ⟨e', by rw [List.getElem?_set_self (List.getElem?_eq_some_iff.mp h).1]⟩
  · exact ⟨f, by rw [List.getElem?_set_ne q]; exact hj⟩
theorem xm_le_rfl (ws : va_W) : xm_le ws ws := fun _ _ e h => ⟨e, h⟩
theorem xm_le_trans {a b c : va_W} (h1 : xm_le a b) (h2 : xm_le b c) : xm_le a c := fun i x e h => by
  obtain ⟨e', h'⟩ := h1 i x e h
  exact h2 i x e' h'
/-! inversions -/
section ZE
variable {α β : Type} {r : β}
theorem ze_i {S : List Value} {k : Int32 → List Value → Option β} (h : zq_i S k = some r) : ∃ x S', S = .int x :: S' ∧ k x S' = some r := by
  unfold zq_i at h
  split at h
  · exact ⟨_, _, rfl, h⟩
  · cases h
theorem ze_l {S : List Value} {k : Int64 → List Value → Option β} (h : zq_l S k = some r) : ∃ x S', S = .long x :: S' ∧ k x S' = some r := by
  unfold zq_l at h
  split at h
  · exact ⟨_, _, rfl, h⟩
  · cases h
theorem ze_r {S : List Value} {k : Nat → List Value → Option β} (h : zq_r S k = some r) : ∃ x S', S = .ref x :: S' ∧ k x S' = some r := by
  unfold zq_r at h
  split at h
  · exact ⟨_, _, rfl, h⟩
  · cases h
theorem ze_v {S : List Value} {k : Value → List Value → Option β} (h : zq_v S k = some r) : ∃ v S', S = v :: S' ∧ v.category = 1 ∧ k v S' = some r := by
  unfold zq_v at h
  split at h
  · exact ⟨_, _, rfl, rfl, h⟩
  · exact ⟨_, _, rfl, rfl, h⟩
  · exact ⟨_, _, rfl, rfl, h⟩
  · exact ⟨_, _, rfl, rfl, h⟩
  · cases h
theorem ze_b {b : Bool} {k : Option β} (h : zq_b b k = some r) : b = true ∧ k = some r := by
  unfold zq_b at h
  split at h
  · exact ⟨rfl, h⟩
  · cases h
theorem ze_n {l : List α} {j : Nat} {k : α → Option β} (h : zq_n l j k = some r) : ∃ v, l[j]? = some v ∧ k v = some r := by
  unfold zq_n at h
  split at h
  · exact ⟨_, ‹_›, h⟩
  · cases h
theorem ze_m {o : Option α} {k : α → Option β} (h : zq_m o k = some r) : ∃ v, o = some v ∧ k v = some r := by
  unfold zq_m at h
  split at h
  · exact ⟨_, rfl, h⟩
  · cases h
theorem ze_o {h : List zO} {a c : Nat} {k : List Value → Option β} (q : zq_o h a c k = some r) : ∃ fs, h[a]? = some (.inl (c, fs)) ∧ k fs = some r := by
  unfold zq_o at q
  split at q
  · rename_i c' fs e
    obtain ⟨h1, h2⟩ := ze_b q
    have := Nat.eq_of_beq_eq_true h1
    subst this
    exact ⟨_, e, h2⟩
  · cases q
theorem ze_a {h : List zO} {a : Nat} {k : List Int32 → Option β} (q : zq_a h a k = some r) : ∃ xs, h[a]? = some (.inr (.inl xs)) ∧ k xs = some r := by
  unfold zq_a at q
  split at q
  · exact ⟨_, ‹_›, q⟩
  · cases q
theorem ze_z {h : List zO} {a : Nat} {k : List Int32 → Option β} (q : zq_z h a k = some r) : ∃ xs, h[a]? = some (.inr (.inr (.inl xs))) ∧ k xs = some r := by
  unfold zq_z at q
  split at q
  · exact ⟨_, ‹_›, q⟩
  · cases q
theorem ze_q {h : List zO} {a : Nat} {k : Nat → List (Option Nat) → Option β} (q : zq_q h a k = some r) : ∃ t xs, h[a]? = some (.inr (.inr (.inr (t, xs)))) ∧ k t xs = some r := by
  unfold zq_q at q
  split at q
  · exact ⟨_, _, ‹_›, q⟩
  · cases q
theorem ze_and {a b : Bool} (h : and a b = true) : a = true ∧ b = true := by
  cases a <;> cases b <;> simp_all
theorem ze_or {a b : Bool} (h : or a b = true) : a = true ∨ b = true := by
  cases a <;> cases b <;> simp_all
/-- an index of a place: what the machine asks of it -/
theorem ze_x {i : Int32} {n : Nat} {k : Nat → Option β} (h : zq_x i n k = some r) : vp_in i n ∧ i.toNatClampNeg < n ∧ k i.toNatClampNeg = some r := by
  obtain ⟨h1, h2⟩ := ze_b h
  obtain ⟨h3, h4⟩ := ze_and h1
  have h3 := of_decide_eq_true h3
  have h4 := of_decide_eq_true h4
  exact ⟨vp_in_iff.mpr ⟨h3, by omega⟩, h4, h2⟩
theorem ze_cond {b : Bool} {x y : Option β} (h : cond b x y = some r) : (b = true ∧ x = some r) ∨ (b = false ∧ y = some r) := by
  cases b with
  | false => exact Or.inr ⟨rfl, h⟩
  | true => exact Or.inl ⟨rfl, h⟩
end ZE
/-! what a state of the model says of a state of the machine: E is where the script lies -/
abbrev xm_T : Type := List (ClassId × FieldType)
def zm_V (E : Nat) (ws : va_W) (q v : Value) : Prop := match q with
  | .int x => v = .int x
  | .long x => v = .long x
  | .null => v = .null
  | .ref k => ∃ (a : Nat) (e : va_E), v = .ref a ∧ ws[k]? = some (a, e)
  | .retAddr _ => v = .ref E
  | _ => False
theorem zm_V_mono {E : Nat} {ws ws' : va_W} (h : xm_le ws ws') {q v : Value} (hv : zm_V E ws q v) : zm_V E ws' q v := by
  cases q with
  | ref k =>
    obtain ⟨a, e, h1, h2⟩ := hv
    obtain ⟨e', h3⟩ := h _ _ _ h2
    exact ⟨a, e', h1, h3⟩
  | _ => exact hv
theorem zm_cat {E : Nat} {ws : va_W} {q v : Value} (h : zm_V E ws q v) : v.category = q.category := by
  cases q with
  | ref k => obtain ⟨a, e, rfl, -⟩ := h; rfl
  | int x => cases h; rfl
  | long x => cases h; rfl
  | null => cases h; rfl
  | retAddr x => cases h; rfl
  | _ => exact h.elim
/-- what a row of references holds -/
def zm_R (ws : va_W) (v a : Option Nat) : Prop := match v with
  | none => a = none
  | some k => ∃ (b : Nat) (e : va_E), a = some b ∧ ws[k]? = some (b, e)
theorem zm_R_mono {ws ws' : va_W} (h : xm_le ws ws') {v a : Option Nat} (hv : zm_R ws v a) : zm_R ws' v a := by
  cases v with
  | none => exact hv
  | some k =>
    obtain ⟨b, e, h1, h2⟩ := hv
    obtain ⟨e', h3⟩ := h _ _ _ h2
    exact ⟨b, e', h1, h3⟩
theorem zm_rf {E : Nat} {ws : va_W} {v a : Option Nat} (h : zm_R ws v a) : zm_V E ws (zrf v) (va_rf a) := by
  cases v with
  | none => have h' : a = none := h; subst h'; rfl
  | some k => obtain ⟨b, e, rfl, h2⟩ := h; exact ⟨b, e, rfl, h2⟩
def zm_O (E : Nat) (ws : va_W) (tys : xm_T) (o : zO) (w : Nat × va_E) : Prop := match o with
  | .inl (c, fs) => ∃ vs, w.2 = .inr (c, vs) ∧ xf_2 (zm_V E ws) fs vs
  | .inr (.inl xs) => ∃ (cA : ClassId) (t0 : Nat) (f : Nat → Int32), w.2 = .inl (cA, xs.length, .inl f) ∧ tys[t0]? = some (cA, .int) ∧ xs.length ≤ 1048576 ∧ ∀ (j : Nat) (x : Int32), xs[j]? = some x → f j = x
  | .inr (.inr (.inl xs)) => ∃ (cA : ClassId) (t0 : Nat) (f : Nat → Int32), w.2 = .inl (cA, xs.length, .inl f) ∧ tys[t0]? = some (cA, .boolean) ∧ xs.length ≤ 1048576 ∧ ∀ (j : Nat) (x : Int32), xs[j]? = some x → f j = x
  | .inr (.inr (.inr (t, xs))) => ∃ (cA : ClassId) (t0 : Nat) (f : Nat → Option Nat), w.2 = .inl (cA, xs.length, .inr (.inr (.inr (.inr f)))) ∧ tys[t0]? = some (cA, zTY t) ∧ (1 ≤ t ∧ t ≤ 4) ∧ xs.length ≤ 1048576 ∧ ∀ (j : Nat) (v : Option Nat), xs[j]? = some v → zm_R ws v (f j)
theorem zm_S_mono {E : Nat} {ws ws' : va_W} (h : xm_le ws ws') {S st : List Value} (hL : xf_2 (zm_V E ws) S st) : xf_2 (zm_V E ws') S st := xf_2_mono (fun _ _ q => zm_V_mono h q) hL
theorem zm_tys {tys : xm_T} (tys' : xm_T) {t0 : Nat} {q : ClassId × FieldType} (h : tys[t0]? = some q) : (tys ++ tys')[t0]? = some q := by
  rw [List.getElem?_append_left (List.getElem?_eq_some_iff.mp h).1]; exact h
theorem zm_O_mono {E : Nat} {ws ws' : va_W} {tys : xm_T} (tys' : xm_T) (h : xm_le ws ws') {o : zO} {w : Nat × va_E} (hO : zm_O E ws tys o w) : zm_O E ws' (tys ++ tys') o w := by
  match o, hO with
  | .inl (c, fs), ⟨vs, h1, h2⟩ => exact ⟨vs, h1, zm_S_mono h h2⟩
  | .inr (.inl xs), ⟨cA, t0, f, h1, h2, h3⟩ => exact ⟨cA, t0, f, h1, zm_tys tys' h2, h3⟩
  | .inr (.inr (.inl xs)), ⟨cA, t0, f, h1, h2, h3⟩ => exact ⟨cA, t0, f, h1, zm_tys tys' h2, h3⟩
  | .inr (.inr (.inr (t, xs))), ⟨cA, t0, f, h1, h2, h3, h4, h5⟩ => exact ⟨cA, t0, f, h1, zm_tys tys' h2, h3, h4, fun j v hv => zm_R_mono h (h5 j v hv)⟩
theorem zm_H_mono {E : Nat} {ws ws' : va_W} {tys : xm_T} (tys' : xm_T) (h : xm_le ws ws') {hs : List zO} {w : va_W} (hO : xf_2 (zm_O E ws tys) hs w) : xf_2 (zm_O E ws' (tys ++ tys')) hs w := xf_2_mono (fun _ _ q => zm_O_mono tys' h q) hO
theorem zm_H_mono' {E : Nat} {ws ws' : va_W} {tys : xm_T} (h : xm_le ws ws') {hs : List zO} {w : va_W} (hO : xf_2 (zm_O E ws tys) hs w) : xf_2 (zm_O E ws' tys) hs w := by
  have := zm_H_mono [] h hO
  rwa [List.append_nil] at this
/-- locals -/
def zm_L (E : Nat) (ws : va_W) (L : zL) (lv : List (Nat × Value)) : Prop := ∀ (i : Nat) (v : Value), L i = some v → ∃ w, (i, w) ∈ lv ∧ zm_V E ws v w
theorem zm_L_mono {E : Nat} {ws ws' : va_W} (h : xm_le ws ws') {L : zL} {lv : List (Nat × Value)} (hL : zm_L E ws L lv) : zm_L E ws' L lv := fun i v hv => by
  obtain ⟨w, h1, h2⟩ := hL i v hv
  exact ⟨w, h1, zm_V_mono h h2⟩
theorem zL_cut_of {L : zL} {i j : Nat} {u : Value} (h : zL_cut L i j = some u) : L j = some u ∧ ∀ x, u = .long x → j + 1 ≠ i := by
  unfold zL_cut at h
  split at h
  · rename_i x e
    split at h
    · cases h
    · cases h; exact ⟨e, fun _ _ => ‹_›⟩
  · rename_i hn
    exact ⟨h, fun x hx => absurd (hx ▸ h) (hn x)⟩
theorem zm_long {E : Nat} {ws : va_W} {q v : Value} (h : zm_V E ws q v) (hc : (v.category == 2) = true) : ∃ x, q = .long x := by
  have h1 := zm_cat h
  cases q with
  | long x => exact ⟨x, rfl⟩
  | double x => exact h.elim
  | _ => rw [h1] at hc; cases hc
theorem zm_L_cut {E : Nat} {ws : va_W} {L : zL} {lv : List (Nat × Value)} {i j : Nat} {u : Value} (hL : zm_L E ws L lv) (h : zL_cut L i j = some u) : ∃ w, (j, w) ∈ lv ∧ zm_V E ws u w ∧ (j + 1 == i && w.category == 2) = false := by
  obtain ⟨h1, h2⟩ := zL_cut_of h
  obtain ⟨w, h3, h4⟩ := hL j u h1
  refine ⟨w, h3, h4, ?_⟩
  cases hc : (w.category == 2) with
  | false => simp
  | true =>
    obtain ⟨x, rfl⟩ := zm_long h4 hc
    have := h2 x rfl
    simp [this]
theorem zm_L_set {E : Nat} {ws : va_W} {L : zL} {lv : List (Nat × Value)} {i : Nat} {v w : Value} (hL : zm_L E ws L lv) (hv : zm_V E ws v w) : zm_L E ws (zL_set L i v) ((i, w) :: lv.filter (fun q => !(q.1 == i) && !(q.1 + 1 == i && q.2.category == 2))) := by
  intro j u hu
  unfold zL_set at hu
  split at hu
  · rename_i e
    cases hu; subst e
    exact ⟨w, List.mem_cons_self, hv⟩
  · rename_i e
    obtain ⟨w', h1, h2, h3⟩ := zm_L_cut hL hu
    refine ⟨w', List.mem_cons_of_mem _ (List.mem_filter.mpr ⟨h1, ?_⟩), h2⟩
    show (!(j == i) && !(j + 1 == i && w'.category == 2)) = true
    rw [h3]; simp [e]
theorem zm_L_set2 {E : Nat} {ws : va_W} {L : zL} {lv : List (Nat × Value)} {i : Nat} {v w : Value} (hL : zm_L E ws L lv) (hv : zm_V E ws v w) : zm_L E ws (zL_set2 L i v) ((i, w) :: lv.filter (fun q => !(q.1 == i) && (!(q.1 == i + 1) && !(q.1 + 1 == i && q.2.category == 2)))) := by
  intro j u hu
  unfold zL_set2 at hu
  split at hu
  · rename_i e
    cases hu; subst e
    exact ⟨w, List.mem_cons_self, hv⟩
  · split at hu
    · cases hu
    · rename_i e e2
      obtain ⟨w', h1, h2, h3⟩ := zm_L_cut hL hu
      refine ⟨w', List.mem_cons_of_mem _ (List.mem_filter.mpr ⟨h1, ?_⟩), h2⟩
      show (!(j == i) && (!(j == i + 1) && !(j + 1 == i && w'.category == 2))) = true
      rw [h3]; simp [e, e2]
/-- a cell by its number; a cell written -/
theorem zm_at {E : Nat} {ws : va_W} {tys : xm_T} {h : List zO} {i : Nat} {o : zO} {x : Nat × va_E} (r4 : xf_2 (zm_O E ws tys) h ws) (hh : h[i]? = some o) (hw : ws[i]? = some x) : zm_O E ws tys o x := by
  obtain ⟨y, h1, h2⟩ := xf_2_get r4 _ _ hh
  rw [hw] at h1
  cases h1
  exact h2
theorem zm_set {E : Nat} {ws : va_W} {tys : xm_T} {h : List zO} {i a : Nat} {e e' : va_E} {o : zO} (r4 : xf_2 (zm_O E ws tys) h ws) (hw : ws[i]? = some (a, e)) (ho : zm_O E ws tys o (a, e')) : xf_2 (zm_O E (ws.set i (a, e')) tys) (h.set i o) (ws.set i (a, e')) := by
  have hle := xm_le_set (e' := e') hw
  have h3 := zm_O_mono [] hle ho
  rw [List.append_nil] at h3
  exact xf_2_set (zm_H_mono' hle r4) i h3
theorem zm_setEl {α β : Type} {P : α → β → Prop} {xs : List α} {k : Nat} {v : α} {w : β} {f g : Nat → β} (h : ∀ (j : Nat) (x : α), xs[j]? = some x → P x (f j)) (hv : P v w) (hg : ∀ j, g j = if j = k then w else f j) : ∀ (j : Nat) (x : α), (xs.set k v)[j]? = some x → P x (g j) := by
  intro j x hx
  rw [List.getElem?_set] at hx
  rw [hg]
  by_cases hj : k = j
  · subst hj
    simp only [if_pos] at hx
    split at hx
    · cases hx
      rw [if_pos rfl]; exact hv
    · cases hx
  · rw [if_neg hj] at hx
    rw [if_neg (fun z => hj z.symm)]
    exact h j x hx
theorem zm_fit {E : Nat} {ws : va_W} {t : Nat} {q v : Value} (hq : zfit t q = true) (hm : zm_V E ws q v) : (t = 0 ∧ ∃ x, q = .int x ∧ v = .int x) ∨ (t = 1 ∧ ∃ x, q = .int x ∧ v = .int x ∧ (x = 0 ∨ x = 1)) ∨ (t = 2 ∧ ∃ r, v = va_rf r) ∨ (t = 3 ∧ ∃ x, q = .long x ∧ v = .long x) := by
  unfold zfit at hq
  split at hq
  · cases hm; exact Or.inl ⟨rfl, _, rfl, rfl⟩
  · cases hm
    refine Or.inr (Or.inl ⟨rfl, _, rfl, rfl, ?_⟩)
    rcases ze_or hq with h | h
    · exact Or.inl (by simpa using h)
    · exact Or.inr (by simpa using h)
  · obtain ⟨a, e, rfl, -⟩ := hm
    exact Or.inr (Or.inr (Or.inl ⟨rfl, some a, rfl⟩))
  · cases hm; exact Or.inr (Or.inr (Or.inl ⟨rfl, none, rfl⟩))
  · cases hm; exact Or.inr (Or.inr (Or.inl ⟨rfl, some _, rfl⟩))
  · cases hm; exact Or.inr (Or.inr (Or.inr ⟨rfl, _, rfl, rfl⟩))
  · cases hq
