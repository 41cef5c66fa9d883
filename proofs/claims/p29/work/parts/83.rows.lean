/-! what goes around a TRY, and its rows -/
def fhs (P : yM) (n : Nat) (l : Int) : List (Int × Int) := if P 8 n = -1 then [] else [(-1, l)]
/-- what the rows behind a TRY's code are -/
def tlD (cc : Nat) (P : yM) (n g : Nat) (fr to l : Int) (cs : List tC) (Mq M' : yM) : Prop := ∀ t : Nat, a_may (Mq (cc + 1) t) →
  (fr ≤ (t : Int) → (t : Int) < to → (on M' (M' 101 t) g → hk M' t (Mq 21 1).toNat (M' 21 1 - Mq 21 1).toNat = chs P cs ++ fhs P n l) ∧ (¬ on M' (M' 101 t) g → hk M' t (Mq 21 1).toNat (M' 21 1 - Mq 21 1).toNat = [])) ∧
  (∀ c, c ∈ cs → c.2.1 ≤ t → t < c.2.2 → (on M' (M' 101 t) g → hk M' t (Mq 21 1).toNat (M' 21 1 - Mq 21 1).toNat = fhs P n l) ∧ (¬ on M' (M' 101 t) g → hk M' t (Mq 21 1).toNat (M' 21 1 - Mq 21 1).toNat = [])) ∧
  (to ≤ (t : Int) → (∀ c, c ∈ cs → ¬ (c.2.1 ≤ t ∧ t < c.2.2)) → hk M' t (Mq 21 1).toNat (M' 21 1 - Mq 21 1).toNat = [])
section RtA
variable {cc d e b i N n n' r o c g lo : Nat} {P M M' M0 M1 M2 M3 MB Mc Me Mp Mq : yM} {op x y z nd gd lb v L L1 p u ca fr to w l : Int} {tgt tgt1 : Int → Nat} {k : Nat → Nat → Int} {bg : Nat → List Nat} {ch : Nat → List (Int × Int)} {H H1 : Int → List (Int × Int)} {hl : List (Int × Int)} {G G1 : aC} {ly : yM → Int → Int → Option yM} {cs : List tC}
theorem cw_0 : ∀ (cs : List tC) (lo : Nat), ordc lo cs → 0 ≤ cw cs
  | [], _, _ => Int.le_refl _
  | c :: cs, lo, h => by
    have := cw_0 cs _ h.2.2
    have h2 := h.2.1
    show 0 ≤ 6 * ((c.2.2 : Int) + 1 - c.2.1) + cw cs
    omega
theorem tl_ok (hC : trC cc P d n M0) (hN : 1000 ≤ N) (hT : trS cc P d n g M0 Mq) (hE : lE cc Mq) (hch : a_chain (yq P) (P 10 n) (cs.map fun c => c.1)) (hcl : (cs.length : Int) ≤ 90) (hcs : ∀ c, c ∈ cs → own P n c.1 ∧ Mq 103 c.1 = (c.2.1 : Int) ∧ Mq 104 c.1 = (c.2.2 : Int) ∧ (c.2.2 : Int) ≤ Mq cc 0 ∧ (c.2.1 : Int) < Mq cc 0) (ho : ordc lo cs) (hlo : to ≤ (lo : Int)) (hfr : M0 cc 0 = fr) (hft : fr ≤ to) (hto : to ≤ Mq cc 0) (hl : P 8 n ≠ -1 → 0 ≤ l ∧ l < Mq cc 0)
    (hP : 12 * (Mq 21 1 - Mq cc 11) + ck (6 * (to + 1 - fr)) cs + (if P 8 n = -1 then 0 else 6 * (to + 1 - fr) + cw cs) ≤ tT (Mq cc 0)) (he : f_63_135 N ly cc Mq (n : Int) (g : Int) (M0 96 10 + 1) (P 8 n) fr to l = some M') (h0 : M' cc 1 = 0) :
    sO cc P d d M' ∧ bs cc P d n M0 M' ∧ lE cc M' ∧ lK cc Mq M' ∧ (M' cc 0 = Mq cc 0 ∧ M' cc 10 = Mq cc 10 ∧ M' 96 7 = Mq 96 7 ∧ M' 96 10 = Mq 96 10) ∧ 12 * (M' 21 1 - Mq 21 1) ≤ ck (6 * (to + 1 - fr)) cs + (if P 8 n = -1 then 0 else 6 * (to + 1 - fr) + cw cs) ∧
      (∀ t : Nat, (t : Int) < Mq cc 0 → M' (cc + 2) t = if to ≤ (t : Int) ∧ Mq 102 t = M0 96 10 + 1 then Mq cc 0 else Mq (cc + 2) t) ∧ tlD cc P n g fr to l cs Mq M' := by
  obtain ⟨hcc, hd, hA, hs0, hn, h11⟩ := id hC
  have hr := cc_rg hcc
  have hn7 := nd_lt hA hn
  have hW0 := hs0.1.2.1.1
  have hWq := hT.1.1.2.1.1
  have hi3 := hs0.2.2.2.1
  have hi4 := hs0.2.2.2.2.1
  have hKq := hT.2.1.1.2.1.1
  have hLq := hT.2.2.2.1
  have hqg := hT.2.2.1.2.1
  unfold f_63_135 at he
  obtain ⟨M1, e1, v1, W1⟩ := lT_69 (cc := cc) (d := d) (N := N) (M := Mq) (x1 := M0 96 10 + 1) (x2 := to) hcc hN (by omega) (by omega) hT.1.1.2.1
  rw [e1] at he
  have he : Option.bind (f_53 N cc M1 (n : Int) (g : Int) fr to) (fun t18 => cond (yrel 0 (P 8 n) (-1)) (some t18) (Option.bind (f_56 N cc t18 (n : Int) (g : Int) fr to l) fun t20 => some t20)) = some M' := he
  obtain ⟨M2, e2, v2, W2⟩ := lT_53 (cc := cc) (d := d) (N := N) (M := M1) (x1 := (n : Int)) (x2 := (g : Int)) (x3 := fr) (x4 := to) hcc hN (by omega) (by omega) (by omega) (by omega) W1
  rw [e2] at he
  have he : cond (yrel 0 (P 8 n) (-1)) (some M2) (Option.bind (f_56 N cc M2 (n : Int) (g : Int) fr to l) fun t20 => some t20) = some M' := he
  -- what goes around
  obtain ⟨s1, g1, o1, x1⟩ := stl hcc (by omega) hN (by omega) hT.1 ⟨by omega, by omega⟩ (by omega) (by omega) e1
  have b1 := bs_st hT.2.1 g1 o1 x1 (by omega) hcc
  have z0 : M1 cc 0 = Mq cc 0 := o1 _ _ (by omega)
  have z10 : M1 cc 10 = Mq cc 10 := o1 _ _ (by omega)
  have z11 : M1 cc 11 = Mq cc 11 := o1 _ _ (by omega)
  have z7 : M1 96 7 = Mq 96 7 := o1 _ _ (by omega)
  have zl : M1 96 10 = Mq 96 10 := o1 _ _ (by omega)
  have zr : M1 21 1 = Mq 21 1 := o1 _ _ (by omega)
  have hgb : ∀ t : Nat, (t : Int) < M1 cc 0 → f_49 N M1 (t : Int) (g : Int) = some (gbf M1 g t) ∧ (gbf M1 g t = 0 ∨ gbf M1 g t = 1) := fun t ht => gb_ok s1.2 (by omega) (by omega) hN (by omega) ht
  -- rows of the CATCHES
  unfold f_53 at e2
  rw [rd_P s1.1.1 ⟨by omega, by omega⟩ hn7, ylet_eq] at e2
  have hck0 := ck_0 (w := 6 * (to + 1 - fr)) (by omega) cs
  have hcw0 := cw_0 cs _ ho
  have hif : (0 : Int) ≤ (if P 8 n = -1 then 0 else 6 * (to + 1 - fr) + cw cs) := by
    by_cases q : P 8 n = -1
    · rw [if_pos q]; exact Int.le_refl _
    · rw [if_neg q]; omega
  obtain ⟨s2, R2, H2⟩ := rw53 (d := d) (b := d) (gb := gbf M1 g) hcc hA (by omega) hN (by omega) (by omega) hft rfl cs N M1 M2 (P 10 n) 90 s1 (by omega) (fun t t1 t2 => hgb t (by omega)) hch (fun c hc => by
    obtain ⟨q1, q2, q3, q4, q5⟩ := hcs c hc
    exact ⟨(own_12 q1).1, (own_12 q1).2, by rw [o1 103 _ (by omega)]; exact q2, by omega⟩) hcl (by omega) (by omega) (by rw [z11, z0, zr]; omega) e2
  have o2 := R2.2.2.2.1
  have y0 : M2 cc 0 = Mq cc 0 := (o2 _ _ (by omega) (by omega)).trans z0
  have y10 : M2 cc 10 = Mq cc 10 := (o2 _ _ (by omega) (by omega)).trans z10
  have y7 : M2 96 7 = Mq 96 7 := (o2 _ _ (by omega) (by omega)).trans z7
  have yl : M2 96 10 = Mq 96 10 := (o2 _ _ (by omega) (by omega)).trans zl
  have y11 : M2 cc 11 = Mq cc 11 := (o2 _ _ (by omega) (by omega)).trans z11
  have b2 := bs_rw b1 R2 (by omega) (by omega) hcc
  have E2 : lE cc M2 := lE_eq hE y0 (fun t => (o2 _ _ (by omega) (by omega)).trans (o1 _ _ (by omega)))
  have hR2 := R2.2.2.2.2.1
  have hR2c := R2.2.1.1
  have hq0 : 0 ≤ Mq 21 1 := by omega
  have hx2 : ∀ t : Nat, (t : Int) < Mq cc 0 → M2 (cc + 2) t = if to ≤ (t : Int) ∧ Mq 102 t = M0 96 10 + 1 then Mq cc 0 else Mq (cc + 2) t := fun t ht => by
    rw [o2 _ _ (by omega) (by omega), x1]
    by_cases q : to ≤ (t : Int) ∧ Mq 102 t = M0 96 10 + 1
    · rw [if_pos q, if_pos ⟨q.1, ht, q.2⟩]
    · rw [if_neg q, if_neg (fun q2 => q ⟨q2.1, q2.2.2⟩)]
  have hm1 : ∀ t, M1 (cc + 1) t = Mq (cc + 1) t := fun t => o1 _ _ (by omega)
  by_cases hfin : P 8 n = -1
  · rw [hfin, show yrel 0 (-1) (-1) = true from rfl, cond_true] at he
    have e := Option.some.inj he
    subst e
    rw [if_pos hfin]
    refine ⟨s2, b2, E2, lK_trans g1.2.1 R2.2.1, ⟨y0, y10, y7, yl⟩, by omega, hx2, fun t ht => ?_⟩
    obtain ⟨p1, p2⟩ := H2 t
    rw [zr] at p1 p2
    have hgt : on M2 (M2 101 t) g ↔ on M1 (M1 101 t) g := by
      have e99 : M2 99 = M1 99 := funext fun j => o2 99 j (by omega) (by omega)
      rw [o2 101 t (by omega) (by omega)]
      have key : ∀ (k : Nat) (u : Int), onc M2 g k u ↔ onc M1 g k u := by
        intro k
        induction k with
        | zero => intro u; exact Iff.rfl
        | succ k ih => intro u; show (0 ≤ u ∧ onc M2 g k (M2 99 u.toNat)) ↔ (0 ≤ u ∧ onc M1 g k (M1 99 u.toNat)); rw [e99, ih]
      exact ⟨fun ⟨k, h⟩ => ⟨k, (key k _).mp h⟩, fun ⟨k, h⟩ => ⟨k, (key k _).mpr h⟩⟩
    have hf : fhs P n l = [] := if_pos hfin
    rw [hf, List.append_nil]
    refine ⟨fun t1 t2 => ⟨fun q => ?_, fun q => ?_⟩, fun c hc t1 t2 => ?_, fun t1 _ => p1 (Or.inr (Or.inl t1))⟩
    · exact p2 t1 t2 (gb_on (hgt.mp q)) (by rw [hm1]; exact ht)
    · exact p1 (Or.inr (Or.inr (gb_off fun q2 => q (hgt.mpr q2))))
    · have hlo2 := (ordc_mem cs _ ho c hc).1
      have := p1 (Or.inr (Or.inl (by omega)))
      exact ⟨fun _ => this, fun _ => this⟩
  · obtain ⟨oa', -⟩ := (hA.2.2.2.1 n hn.1).2.2.2.2.2.2.2.2.1 h11
    have of := oa'.resolve_left hfin
    have hl := hl hfin
    have hn1 := hn.1
    have hnn := hA.1
    rw [rel0 ⟨by have := of.1; omega, by have := of.2.1; omega⟩ ⟨by decide, by decide⟩, cond_df hfin] at he
    obtain ⟨M4, e4, v4, W4⟩ := lT_56 (cc := cc) (d := d) (N := N) (M := M2) (x1 := (n : Int)) (x2 := (g : Int)) (x3 := fr) (x4 := to) (x5 := l) hcc hN (by omega) (by omega) (by omega) (by omega) W2
    rw [e4] at he
    have e := Option.some.inj he
    subst e
    unfold f_56 at e4
    obtain ⟨M3, e3, v3, W3⟩ := lT_61 (cc := cc) (d := d) (N := N) (M := M2) (x1 := fr) (x2 := to) (x3 := (g : Int)) (x4 := l) (x5 := -1) hcc hN (by omega) (by omega) (by omega) (by omega) W2
    rw [e3] at e4
    have e4 : ylet (yrd M3 10 (n : Int)) (fun v2 => f_56_15 N cc N M3 (g : Int) l v2 90) = some M4 := e4
    rw [if_neg hfin] at hP ⊢
    have hgb2 : ∀ t : Nat, (t : Int) < M2 cc 0 → f_49 N M2 (t : Int) (g : Int) = some (gbf M1 g t) ∧ (gbf M1 g t = 0 ∨ gbf M1 g t = 1) := fun t ht => by
      rw [gd_cg (funext fun j => o2 99 j (by omega) (by omega)) (funext fun j => o2 101 j (by omega) (by omega))]
      exact hgb t (by omega)
    obtain ⟨s3, w3, k3, x3, D3⟩ := lrw (gb := gbf M1 g) (pl := l) hcc (by omega) hN (by omega) s2 (by omega) hft (by omega) ⟨by omega, by omega⟩ ⟨Int.le_refl _, by have := hA.2.2.1; omega⟩ (by rw [y0, y11]; omega) (fun t t1 t2 => hgb2 t (by omega)) e3
    have o3 := D3.1
    have D3c := D3.2.1
    have u0 : M3 cc 0 = Mq cc 0 := (o3 _ _ (by omega) (by omega)).trans y0
    have u11 : M3 cc 11 = Mq cc 11 := (o3 _ _ (by omega) (by omega)).trans y11
    rw [rd_P s3.1.1 ⟨by omega, by omega⟩ hn7, ylet_eq] at e4
    obtain ⟨s4, R4, H4⟩ := rw56 (d := d) (b := d) (gb := gbf M1 g) (lo := lo) hcc hA (by omega) hN (by omega) cs lo N M3 M4 (P 10 n) 90 s3 (fun t ht => by
      rw [gd_cg (funext fun j => o3 99 j (by omega) (by omega)) (funext fun j => o3 101 j (by omega) (by omega))]
      exact hgb2 t (by omega)) hch (fun c hc => by
      obtain ⟨q1, q2, q3, q4, q5⟩ := hcs c hc
      refine ⟨(own_12 q1).1, (own_12 q1).2, ?_, ?_, by omega⟩
      · rw [o3 103 _ (by omega) (by omega), o2 103 _ (by omega) (by omega), o1 103 _ (by omega)]; exact q2
      · rw [o3 104 _ (by omega) (by omega), o2 104 _ (by omega) (by omega), o1 104 _ (by omega)]; exact q3) ho (by omega) hcl (by omega) (by omega) (by rw [u11, u0]; omega) e4
    have o4 := R4.2.2.2.1
    have hR4 := R4.2.2.2.2.1
    have hR4c := R4.2.1.1
    have R3 := rwO_lr (w := 6 * (to + 1 - fr)) (by omega) w3 k3 x3 D3 rfl
    have b3 := bs_rw b2 R3 (by omega) (by omega) hcc
    have b4 := bs_rw b3 R4 (by omega) (by rw [o4 cc 0 (by omega) (by omega)]; exact Int.le_refl _) hcc
    have q0 : M4 cc 0 = Mq cc 0 := (o4 _ _ (by omega) (by omega)).trans u0
    have k34 : lK cc M2 M4 := lK_trans k3 R4.2.1
    refine ⟨s4, b4, lE_eq E2 (q0.trans y0.symm) (fun t => (o4 _ _ (by omega) (by omega)).trans (o3 _ _ (by omega) (by omega))), lK_trans g1.2.1 (lK_trans R2.2.1 k34), ⟨q0, ?_, ?_, ?_⟩, by omega, fun t ht => ?_, fun t ht => ?_⟩
    · rw [o4 _ _ (by omega) (by omega), o3 _ _ (by omega) (by omega)]; exact y10
    · rw [o4 _ _ (by omega) (by omega), o3 _ _ (by omega) (by omega)]; exact y7
    · rw [o4 _ _ (by omega) (by omega), o3 _ _ (by omega) (by omega)]; exact yl
    · rw [o4 _ _ (by omega) (by omega), o3 _ _ (by omega) (by omega)]
      exact hx2 t ht
    · obtain ⟨p1, p2⟩ := H2 t
      obtain ⟨r1, r2⟩ := D3.2.2.2.2 t
      obtain ⟨t1', t2'⟩ := H4 t
      rw [zr] at p1 p2
      have hsplit : hk M4 t (Mq 21 1).toNat (M4 21 1 - Mq 21 1).toNat = hk M2 t (Mq 21 1).toNat (M2 21 1 - Mq 21 1).toNat ++ (hk M3 t (M2 21 1).toNat (M3 21 1 - M2 21 1).toNat ++ hk M4 t (M3 21 1).toNat (M4 21 1 - M3 21 1).toNat) := by
        rw [hk_two hq0 (by omega) k34, hk_two (M := M2) (M1 := M3) (by omega) D3c.1 R4.2.1]
      have hgt : on M4 (M4 101 t) g ↔ on M1 (M1 101 t) g := by
        have e99 : M4 99 = M1 99 := funext fun j => (o4 99 j (by omega) (by omega)).trans ((o3 99 j (by omega) (by omega)).trans (o2 99 j (by omega) (by omega)))
        rw [o4 101 t (by omega) (by omega), o3 101 t (by omega) (by omega), o2 101 t (by omega) (by omega)]
        have key : ∀ (k : Nat) (u : Int), onc M4 g k u ↔ onc M1 g k u := by
          intro k
          induction k with
          | zero => intro u; exact Iff.rfl
          | succ k ih => intro u; show (0 ≤ u ∧ onc M4 g k (M4 99 u.toNat)) ↔ (0 ≤ u ∧ onc M1 g k (M1 99 u.toNat)); rw [e99, ih]
        exact ⟨fun ⟨k, h⟩ => ⟨k, (key k _).mp h⟩, fun ⟨k, h⟩ => ⟨k, (key k _).mpr h⟩⟩
      have hf : fhs P n l = [(-1, l)] := if_neg hfin
      have hmay1 : a_may (M1 (cc + 1) t) := by rw [hm1]; exact ht
      have hmay2 : a_may (M2 (cc + 1) t) := by rw [o2 _ _ (by omega) (by omega)]; exact hmay1
      have hmay3 : a_may (M3 (cc + 1) t) := by rw [o3 _ _ (by omega) (by omega)]; exact hmay2
      have hlos := ordc_mem cs _ ho
      rw [hsplit, hf]
      refine ⟨fun t1 t2 => ⟨fun q => ?_, fun q => ?_⟩, fun c hc t1 t2 => ⟨fun q => ?_, fun q => ?_⟩, fun t1 t2 => ?_⟩
      · have q1 := gb_on (hgt.mp q)
        rw [p2 t1 t2 q1 hmay1, r2 t1 t2 q1 hmay2, t1' (Or.inl fun c hc => by have := (hlos c hc).1; omega), List.append_nil]
      · have q1 := gb_off fun q2 => q (hgt.mpr q2)
        rw [p1 (Or.inr (Or.inr q1)), r1 (Or.inr (Or.inr q1)), t1' (Or.inr q1)]; rfl
      · have q1 := gb_on (hgt.mp q)
        have := (hlos c hc).1
        rw [p1 (Or.inr (Or.inl (by omega))), r1 (Or.inr (Or.inl (by omega))), t2' c hc t1 t2 q1 hmay3]; rfl
      · have q1 := gb_off fun q2 => q (hgt.mpr q2)
        rw [p1 (Or.inr (Or.inr q1)), r1 (Or.inr (Or.inr q1)), t1' (Or.inr q1)]; rfl
      · rw [p1 (Or.inr (Or.inl t1)), r1 (Or.inr (Or.inl t1)), t1' (Or.inl t2)]; rfl
end RtA
