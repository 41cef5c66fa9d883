/-! the rows of a TRY: catch by catch, and its FINALLY's -/
/-- a catch: its number, where it begins, where it ends -/
abbrev tC : Type := Nat × Nat × Nat
def ck (w : Int) : List tC → Int
  | [] => 0
  | _ :: cs => w + ck w cs
def cw : List tC → Int
  | [] => 0
  | c :: cs => 6 * ((c.2.2 : Int) + 1 - c.2.1) + cw cs
/-- one behind the other, from lo on -/
def ordc : Nat → List tC → Prop
  | _, [] => True
  | lo, c :: cs => lo ≤ c.2.1 ∧ c.2.1 ≤ c.2.2 ∧ ordc c.2.2 cs
def chs (P : yM) (cs : List tC) : List (Int × Int) := cs.map fun c => (P 8 c.1, (c.2.1 : Int))
/-- what a run of rows leaves, and how many there are at most -/
def rwO (cc d : Nat) (M M' : yM) (w f to : Int) : Prop :=
  lw cc d M M' ∧ lK cc M M' ∧ lX cc M M' ∧ (∀ a j, a ≠ 21 → a ≠ 22 → M' a j = M a j) ∧ 12 * (M' 21 1 - M 21 1) ≤ w ∧ (∀ r : Nat, M 21 1 ≤ (r : Int) → (r : Int) < M' 21 1 → f ≤ M' 22 (4 * r) ∧ M' 22 (4 * r + 1) ≤ to)
section TwA
variable {cc d e b i N n n' r o c : Nat} {P M M' M0 M1 M2 M3 MB Mc Me : yM} {op x y z nd gd lb v L L1 p u w f to g pl : Int} {gb : Nat → Int}
theorem ck_0 (hw : 0 ≤ w) : ∀ (cs : List tC), 0 ≤ ck w cs
  | [] => Int.le_refl _
  | _ :: cs => by have := ck_0 hw cs; show 0 ≤ w + ck w cs; omega
theorem rwO_refl (hw : 0 ≤ w) : rwO cc d M M w f to := ⟨⟨fun _ _ _ _ _ _ _ _ => rfl, rfl, id, rfl⟩, lK_refl, fun _ _ => rfl, fun _ _ _ _ => rfl, by omega, fun r r1 r2 => absurd r2 (by omega)⟩
theorem rwO_trans {w' : Int} (h1 : rwO cc d M M1 w f to) (h2 : rwO cc d M1 M2 w' f to) : rwO cc d M M2 (w + w') f to := by
  obtain ⟨a1, a2, a3, a4, a5, a6⟩ := h1
  obtain ⟨b1, b2, b3, b4, b5, b6⟩ := h2
  refine ⟨lw_trans a1 b1, lK_trans a2 b2, lX_trans a3 b3 a2.1.1, fun a j q1 q2 => (b4 a j q1 q2).trans (a4 a j q1 q2), by omega, fun r r1 r2 => ?_⟩
  by_cases q : (r : Int) < M1 21 1
  · rw [b2.2.2.2.2.2 (4 * r) (by omega), b2.2.2.2.2.2 (4 * r + 1) (by omega)]
    exact a6 r r1 q
  · exact b6 r (by omega) r2
theorem rwO_lr (hW : 0 ≤ M 21 1) (h1 : lw cc d M M') (h2 : lK cc M M') (h3 : lX cc M M') (h4 : lrD cc gb pl x f to M M') (hw : w = 6 * (to + 1 - f)) : rwO cc d M M' w f to := by
  obtain ⟨a1, a2, a3, a4, a5⟩ := h4
  exact ⟨h1, h2, h3, a1, by omega, fun r r1 r2 => by have := a4 r r1 r2; omega⟩
theorem hk_two (hW : 0 ≤ M 21 1) (h1 : M 21 1 ≤ M1 21 1) (h2 : lK cc M1 M2) {t : Nat} : hk M2 t (M 21 1).toNat (M2 21 1 - M 21 1).toNat = hk M1 t (M 21 1).toNat (M1 21 1 - M 21 1).toNat ++ hk M2 t (M1 21 1).toNat (M2 21 1 - M1 21 1).toNat := by
  have := h2.1
  rw [show (M2 21 1 - M 21 1).toNat = (M1 21 1 - M 21 1).toNat + (M2 21 1 - M1 21 1).toNat by omega, hk_add, show (M 21 1).toNat + (M1 21 1 - M 21 1).toNat = (M1 21 1).toNat by omega]
  rw [hk_eq (M := M1) (M' := M2) (M1 21 1 - M 21 1).toNat (fun j hj => h2.2.2.2.2.2 j (by omega))]
theorem gb_cg (h : ∀ t : Nat, f ≤ (t : Int) → (t : Int) < to → f_49 N M (t : Int) g = some (gb t) ∧ (gb t = 0 ∨ gb t = 1)) (ho : ∀ a j, a ≠ 21 → a ≠ 22 → M' a j = M a j) : ∀ t : Nat, f ≤ (t : Int) → (t : Int) < to → f_49 N M' (t : Int) g = some (gb t) ∧ (gb t = 0 ∨ gb t = 1) := fun t t1 t2 => by
  rw [gd_cg (funext fun j => ho 99 j (by omega) (by omega)) (funext fun j => ho 101 j (by omega) (by omega))]
  exact h t t1 t2
theorem rw53 (hcc : pC cc) (hA : pA P) (hd : d ≤ 90) (hN : 1000 ≤ N) (hb : b ≤ 90) (h0 : 0 ≤ f) (hft : f ≤ to) (hw : w = 6 * (to + 1 - f)) : ∀ (cs : List tC) (fu : Nat) (M M' : yM) (x left : Int), sO cc P d b M → to ≤ M cc 0 → (∀ t : Nat, f ≤ (t : Int) → (t : Int) < to → f_49 N M (t : Int) g = some (gb t) ∧ (gb t = 0 ∨ gb t = 1)) → a_chain (yq P) x (cs.map fun c => c.1) → (∀ c, c ∈ cs → P 7 c.1 = 12 ∧ (c.1 : Int) < P 1 7 ∧ M 103 c.1 = (c.2.1 : Int) ∧ (c.2.1 : Int) < M cc 0) → (cs.length : Int) ≤ left → left ≤ 90 → left < fu → 12 * (M 21 1 - M cc 11) + ck w cs ≤ tT (M cc 0) → f_53_8 N cc fu M g f to x left = some M' →
    sO cc P d b M' ∧ rwO cc d M M' (ck w cs) f to ∧ ∀ t : Nat, ((t : Int) < f ∨ to ≤ (t : Int) ∨ gb t = 0 → hk M' t (M 21 1).toNat (M' 21 1 - M 21 1).toNat = []) ∧ (f ≤ (t : Int) → (t : Int) < to → gb t = 1 → a_may (M (cc + 1) t) → hk M' t (M 21 1).toNat (M' 21 1 - M 21 1).toNat = chs P cs)
  | cs, 0, _, _, _, left, _, _, _, _, _, h1, _, h2, _, _ => absurd h2 (by omega)
  | [], fu + 1, M, M', x, left, hs, ht, hG, hc, hcs, hl1, hl2, hl3, hT, he => by
    have hx : x = -1 := hc
    subst hx
    rw [f_53_8, show yrel 2 (-1) 0 = true from rfl, cond_true] at he
    have e := Option.some.inj he
    subst e
    refine ⟨hs, rwO_refl (Int.le_refl _), fun t => ⟨fun _ => ?_, fun _ _ _ _ => ?_⟩⟩
    · rw [show (M 21 1 - M 21 1).toNat = 0 by omega]; rfl
    · rw [show (M 21 1 - M 21 1).toNat = 0 by omega]; rfl
  | c :: cs, fu + 1, M, M', x, left, hs, ht, hG, hc, hcs, hl1, hl2, hl3, hT, he => by
    have hr := cc_rg hcc
    obtain ⟨hx, hc2⟩ := hc
    have hx : x = (c.1 : Int) := hx
    subst hx
    obtain ⟨c1, c2, c3, c4⟩ := hcs c List.mem_cons_self
    have hnn := hA.1
    have hO := (hA.2.2.2.1 c.1 c2).2.2.2.2.2.2.2.2.2.1 c1
    have hW := hs.1.2.1
    have hR0 := hs.2.2.2.2.1
    have hlen : ((c :: cs).length : Int) = cs.length + 1 := by rw [List.length_cons]; omega
    have hck : ck w (c :: cs) = w + ck w cs := rfl
    have hck0 := ck_0 (w := w) (by omega) cs
    rw [f_53_8, rel2 ⟨by omega, by omega⟩ ⟨by decide, by decide⟩, cond_df (by omega), rel5 ⟨by omega, by omega⟩ ⟨by decide, by decide⟩, cond_df (by omega), rd_P (a := 8) hs.1.1 ⟨by omega, by omega⟩ (by omega), rd_in (a := 103) (by omega) (by show (c.1 : Int) < ((90 : Nat) : Int); omega), Int.toNat_natCast, c3] at he
    obtain ⟨M1, e1, v1, W1⟩ := lT_61 (cc := cc) (d := d) (N := N) (M := M) (x1 := f) (x2 := to) (x3 := g) (x4 := (c.2.1 : Int)) (x5 := P 8 c.1) hcc hN h0 (by have := hW.1; omega) (by omega) (by have := hW.1; omega) hW
    rw [e1] at he
    have he : ylet (yrd M1 10 (c.1 : Int)) (fun v5 => f_53_8 N cc fu M1 g f to v5 (left + -1)) = some M' := he
    obtain ⟨s1, w1, k1, x1, D1⟩ := lrw hcc hd hN hb hs h0 hft ht ⟨by omega, c4⟩ ⟨by omega, hO.1.2⟩ (by omega) hG e1
    rw [ylet_eq, rd_P s1.1.1 ⟨by omega, by omega⟩ (by omega)] at he
    have o1 := D1.1
    have z0 : M1 cc 0 = M cc 0 := o1 _ _ (by omega) (by omega)
    have z11 : M1 cc 11 = M cc 11 := o1 _ _ (by omega) (by omega)
    have D2 := D1.2.1
    obtain ⟨s2, R2, H2⟩ := rw53 hcc hA hd hN hb h0 hft hw cs fu M1 M' (P 10 c.1) (left + -1) s1 (by omega) (gb_cg hG o1) hc2 (fun c' hc' => by
      obtain ⟨q1, q2, q3, q4⟩ := hcs c' (List.mem_cons_of_mem _ hc')
      exact ⟨q1, q2, by rw [o1 103 _ (by omega) (by omega)]; exact q3, by omega⟩) (by omega) (by omega) (by omega) (by rw [z11, z0]; omega) he
    refine ⟨s2, by rw [hck]; exact rwO_trans (rwO_lr (by omega) w1 k1 x1 D1 hw) R2, fun t => ?_⟩
    rw [hk_two (by omega) D2.1 R2.2.1]
    obtain ⟨p1, p2⟩ := H2 t
    obtain ⟨q1, q2⟩ := D1.2.2.2.2 t
    refine ⟨fun q => ?_, fun t1 t2 t3 t4 => ?_⟩
    · rw [p1 q, q1 q]; rfl
    · rw [q2 t1 t2 t3 t4, p2 t1 t2 t3 (by rw [o1 _ _ (by omega) (by omega)]; exact t4)]; rfl
/-- catch by catch, for the FINALLY -/
theorem rw56 (hcc : pC cc) (hA : pA P) (hd : d ≤ 90) (hN : 1000 ≤ N) (hb : b ≤ 90) {lo : Nat} : ∀ (cs : List tC) (lo fu : Nat) (M M' : yM) (x left : Int), sO cc P d b M → (∀ t : Nat, (t : Int) < M cc 0 → f_49 N M (t : Int) g = some (gb t) ∧ (gb t = 0 ∨ gb t = 1)) → a_chain (yq P) x (cs.map fun c => c.1) → (∀ c, c ∈ cs → P 7 c.1 = 12 ∧ (c.1 : Int) < P 1 7 ∧ M 103 c.1 = (c.2.1 : Int) ∧ M 104 c.1 = (c.2.2 : Int) ∧ (c.2.2 : Int) ≤ M cc 0) → ordc lo cs → 0 ≤ pl ∧ pl < M cc 0 → (cs.length : Int) ≤ left → left ≤ 90 → left < fu → 12 * (M 21 1 - M cc 11) + cw cs ≤ tT (M cc 0) → f_56_15 N cc fu M g pl x left = some M' →
    sO cc P d b M' ∧ rwO cc d M M' (cw cs) lo (M cc 0) ∧ ∀ t : Nat, ((∀ c, c ∈ cs → ¬ (c.2.1 ≤ t ∧ t < c.2.2)) ∨ gb t = 0 → hk M' t (M 21 1).toNat (M' 21 1 - M 21 1).toNat = []) ∧ (∀ c, c ∈ cs → c.2.1 ≤ t → t < c.2.2 → gb t = 1 → a_may (M (cc + 1) t) → hk M' t (M 21 1).toNat (M' 21 1 - M 21 1).toNat = [(-1, pl)])
  | cs, _, 0, _, _, _, left, _, _, _, _, _, _, h1, _, h2, _, _ => absurd h2 (by omega)
  | [], lo, fu + 1, M, M', x, left, hs, hG, hc, hcs, ho, hpl, hl1, hl2, hl3, hT, he => by
    have hx : x = -1 := hc
    subst hx
    rw [f_56_15, show yrel 2 (-1) 0 = true from rfl, cond_true] at he
    have e := Option.some.inj he
    subst e
    refine ⟨hs, rwO_refl (Int.le_refl _), fun t => ⟨fun _ => ?_, fun c hc => absurd hc List.not_mem_nil⟩⟩
    rw [show (M 21 1 - M 21 1).toNat = 0 by omega]; rfl
  | c :: cs, lo, fu + 1, M, M', x, left, hs, hG, hc, hcs, ho, hpl, hl1, hl2, hl3, hT, he => by
    have hr := cc_rg hcc
    obtain ⟨hx, hc2⟩ := hc
    have hx : x = (c.1 : Int) := hx
    subst hx
    obtain ⟨o1', o2', o3'⟩ := ho
    obtain ⟨c1, c2, c3, c4, c5⟩ := hcs c List.mem_cons_self
    have hnn := hA.1
    have hW := hs.1.2.1
    have hR0 := hs.2.2.2.2.1
    have hlen : ((c :: cs).length : Int) = cs.length + 1 := by rw [List.length_cons]; omega
    have hcw : cw (c :: cs) = 6 * ((c.2.2 : Int) + 1 - c.2.1) + cw cs := rfl
    have hord : ∀ (cs : List tC) (lo : Nat), ordc lo cs → 0 ≤ cw cs ∧ ∀ c, c ∈ cs → lo ≤ c.2.1 := by
      intro cs
      induction cs with
      | nil => exact fun lo _ => ⟨Int.le_refl _, fun c hc => absurd hc List.not_mem_nil⟩
      | cons c cs ih =>
        intro lo h
        obtain ⟨h1, h2, h3⟩ := h
        obtain ⟨i1, i2⟩ := ih _ h3
        refine ⟨by show 0 ≤ 6 * ((c.2.2 : Int) + 1 - c.2.1) + cw cs; omega, fun c' hc' => ?_⟩
        rcases List.mem_cons.mp hc' with rfl | hc'
        · exact h1
        · have := i2 c' hc'; omega
    obtain ⟨hcw0, hlo⟩ := hord cs _ o3'
    rw [f_56_15, rel2 ⟨by omega, by omega⟩ ⟨by decide, by decide⟩, cond_df (by omega), rel5 ⟨by omega, by omega⟩ ⟨by decide, by decide⟩, cond_df (by omega), rd_in (a := 103) (by omega) (by show (c.1 : Int) < ((90 : Nat) : Int); omega), rd_in (a := 104) (by omega) (by show (c.1 : Int) < ((90 : Nat) : Int); omega), Int.toNat_natCast, c3, c4] at he
    obtain ⟨M1, e1, v1, W1⟩ := lT_61 (cc := cc) (d := d) (N := N) (M := M) (x1 := (c.2.1 : Int)) (x2 := (c.2.2 : Int)) (x3 := g) (x4 := pl) (x5 := -1) hcc hN (by omega) (by have := hW.1; omega) (by omega) (by have := hW.1; omega) hW
    rw [e1] at he
    have he : ylet (yrd M1 10 (c.1 : Int)) (fun v6 => f_56_15 N cc fu M1 g pl v6 (left + -1)) = some M' := he
    obtain ⟨s1, w1, k1, x1, D1⟩ := lrw (gb := gb) (g := g) hcc hd hN hb hs (by omega) (by omega) c5 hpl ⟨Int.le_refl _, by have := hA.2.2.1; omega⟩ (by omega) (fun t t1 t2 => hG t (by omega)) e1
    rw [ylet_eq, rd_P s1.1.1 ⟨by omega, by omega⟩ (by omega)] at he
    have o1 := D1.1
    have z0 : M1 cc 0 = M cc 0 := o1 _ _ (by omega) (by omega)
    have z11 : M1 cc 11 = M cc 11 := o1 _ _ (by omega) (by omega)
    have D2 := D1.2.1
    obtain ⟨s2, R2, H2⟩ := rw56 hcc hA hd hN hb (lo := lo) cs c.2.2 fu M1 M' (P 10 c.1) (left + -1) s1 (fun t ht => by
      rw [gd_cg (funext fun j => o1 99 j (by omega) (by omega)) (funext fun j => o1 101 j (by omega) (by omega))]
      exact hG t (by omega)) hc2 (fun c' hc' => by
      obtain ⟨q1, q2, q3, q4, q5⟩ := hcs c' (List.mem_cons_of_mem _ hc')
      exact ⟨q1, q2, by rw [o1 103 _ (by omega) (by omega)]; exact q3, by rw [o1 104 _ (by omega) (by omega)]; exact q4, by omega⟩) o3' (by omega) (by omega) (by omega) (by omega) (by rw [z11, z0]; omega) he
    have R1 := rwO_lr (w := 6 * ((c.2.2 : Int) + 1 - c.2.1)) (by omega) w1 k1 x1 D1 rfl
    have R1' : rwO cc d M M1 (6 * ((c.2.2 : Int) + 1 - c.2.1)) lo (M cc 0) := ⟨R1.1, R1.2.1, R1.2.2.1, R1.2.2.2.1, R1.2.2.2.2.1, fun r r1 r2 => by have := R1.2.2.2.2.2 r r1 r2; omega⟩
    have R2' : rwO cc d M1 M' (cw cs) lo (M cc 0) := ⟨R2.1, R2.2.1, R2.2.2.1, R2.2.2.2.1, R2.2.2.2.2.1, fun r r1 r2 => by have := R2.2.2.2.2.2 r r1 r2; omega⟩
    refine ⟨s2, by rw [hcw]; exact rwO_trans R1' R2', fun t => ?_⟩
    rw [hk_two (by omega) D2.1 R2.2.1]
    obtain ⟨p1, p2⟩ := H2 t
    obtain ⟨q1, q2⟩ := D1.2.2.2.2 t
    refine ⟨fun q => ?_, fun c' hc' t1 t2 t3 t4 => ?_⟩
    · rcases q with q | q
      · have qc := q c List.mem_cons_self
        rw [p1 (Or.inl fun c' hc' => q c' (List.mem_cons_of_mem _ hc')), q1 (by omega)]; rfl
      · rw [p1 (Or.inr q), q1 (Or.inr (Or.inr q))]; rfl
    · rcases List.mem_cons.mp hc' with rfl | hc'
      · rw [q2 (by omega) (by omega) t3 t4, p1 (Or.inl fun c' hc' => by have := hlo c' hc'; omega)]; rfl
      · have := hlo c' hc'
        rw [q1 (by omega), p2 c' hc' t1 t2 t3 (by rw [o1 _ _ (by omega) (by omega)]; exact t4)]; rfl
end TwA
