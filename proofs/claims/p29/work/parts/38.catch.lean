/-! a TRY's catches, and a TRY whole -/
section ACa
variable {q : Nat → Nat → Int} {K : Nat → Nat → Nat → Int} {BG : Nat → Nat → List Nat} {CH : Nat → Nat → List (Int × Int)} {bl : Int → Int → Bool} {mo de : Int} {nv : Nat → Prop} {cn : Nat → Int → Prop} {kc : Int → Prop} {I : aX → Prop}
variable {f f0 f' f1 f2 : aF} {r : List aF} {j i bi s n R : Nat} {Y Y0 Y1 : yM} {G : aC} {e0 m : Nat} {c c1 : Int} {e e1 : Nat → Nat → Int} {X0 X : aX} {bd : Nat → Nat} {vp : Nat → Prop}
/-- which catch takes it -/
theorem look_cs {x : Int} {rest : List (Int × Int)} : ∀ {cs : List (Nat × Nat)}, (∀ c, c ∈ cs → q 1 c.1 ≠ -1) → (∃ c, c ∈ cs ∧ a_look bl x (cs.map (fun c => (q 1 c.1, (c.2 : Int))) ++ rest) = some (c.2 : Int)) ∨ ((∀ c, c ∈ cs → ¬ bl x (q 1 c.1) = true) ∧ a_look bl x (cs.map (fun c => (q 1 c.1, (c.2 : Int))) ++ rest) = a_look bl x rest)
  | [], _ => Or.inr ⟨fun _ h => absurd h List.not_mem_nil, rfl⟩
  | c :: cs, h => by
    have e : a_look bl x ((c :: cs).map (fun c => (q 1 c.1, (c.2 : Int))) ++ rest) = if q 1 c.1 = -1 ∨ bl x (q 1 c.1) = true then some (c.2 : Int) else a_look bl x (cs.map (fun c => (q 1 c.1, (c.2 : Int))) ++ rest) := rfl
    rw [e]
    by_cases hb : bl x (q 1 c.1) = true
    · exact Or.inl ⟨c, List.mem_cons_self, if_pos (Or.inr hb)⟩
    · have hn : ¬ (q 1 c.1 = -1 ∨ bl x (q 1 c.1) = true) := fun ho => by
        rcases ho with ho | ho
        · exact h c List.mem_cons_self ho
        · exact hb ho
      rw [if_neg hn]
      rcases look_cs (cs := cs) (rest := rest) (x := x) (fun c hc => h c (List.mem_cons_of_mem _ hc)) with ⟨c', h1, h2⟩ | ⟨h1, h2⟩
      · exact Or.inl ⟨c', List.mem_cons_of_mem _ h1, h2⟩
      · refine Or.inr ⟨fun c' hc' => ?_, h2⟩
        rcases List.mem_cons.mp hc' with rfl | hc'
        · exact hb
        · exact h1 c' hc'
theorem ct_mem {k : Nat → Nat → Int} {bg : Nat → List Nat} {P : Nat → aC → Nat → Nat → Nat → Prop} {g2 : aG} {fin : Int} {e' l : Nat} {c0 : Nat × Nat} : ∀ {cs : List (Nat × Nat)} {s0 : Nat}, a_ct q k bg P G g2 fin e' cs s0 l → c0 ∈ cs →
    bg c0.2 = [c0.1] ∧ k 1 c0.2 = 11 ∧ k 2 c0.2 = (G.2.1 : Int) ∧ ∃ s1 s2, P (q 2 c0.1).toNat (g2 :: G.1, G.2.1 + 1, G.2.2.1, (G.2.1 : Int), G.2.2.2.2) (c0.2 + 1) 0 s1 ∧ a_fn P G fin s1 s2 ∧ ((fin = -1 ∧ s2 = l) ∨ (bg s2 = [] ∧ k 1 s2 = 6 ∧ k 2 s2 = (e' : Int)))
  | [], _, _, h => absurd h List.not_mem_nil
  | c :: cs, s0, hc, h => by
    obtain ⟨h1, h2, h3, h4, s1, s2, h5, h6, h7⟩ := hc
    rcases List.mem_cons.mp h with rfl | h
    · rw [h1]
      refine ⟨h2, h3, h4, s1, s2, h5, h6, ?_⟩
      by_cases hl : cs = [] ∧ fin = -1
      · rw [if_pos hl] at h7
        exact Or.inl ⟨hl.2, h7.symm⟩
      · rw [if_neg hl] at h7
        exact Or.inr ⟨h7.1, h7.2.1, h7.2.2.1⟩
    · have hl : ¬ (cs = [] ∧ fin = -1) := fun hl => by rw [hl.1] at h; exact absurd h List.not_mem_nil
      rw [if_neg hl] at h7
      exact ct_mem h7.2.2.2 h
theorem hs_cons {g : aG} {gs : List aG} : a_hs (g :: gs) = g.2.2.2 ++ a_hs gs := rfl
/-- behind a part that came to its end: the FINALLY, and on to the end -/
theorem try_norm {p1 p2 n1 : Nat} (A : a_ast q K BG CH bl nv cn kc bd vp) (hI : a_inv K BG CH bl mo de I) (ih : a_ex q K BG CH bl mo de nv cn kc I R) (h : a_to q K BG CH bl mo de I (f0 :: r, false, j, true, Y0) s (f1 :: r, false, 0, true, Y) c (a_bi n)) (hq : q 0 n = 11) (hc : c ≤ -8) (hf : a_fr G f0 f1) (hhas : a_has f0 G.2.1) (hlp : a_lp G) (hR : mo - Y 13 3 ≤ R)
    (hp : f1.2.1 = p1) (hfn : a_fn (a_Ld q (K f0.1) (BG f0.1) (CH f0.1) m) G (q 1 n) p1 p2) (he : (q 1 n = -1 ∧ p2 = e0) ∨ (BG f0.1 p2 = [] ∧ K f0.1 1 p2 = 6 ∧ K f0.1 2 p2 = (e0 : Int))) (hnv : nv n → (q 1 n ≠ -1 ∧ nv (q 1 n).toNat) ∨ nv n1) (hn1 : ¬ nv n1) : a_go q K BG CH bl mo de nv cn kc n G e0 f0 r j Y0 := by
  have e1 : f1.1 = f0.1 := hf.1
  by_cases hfin : q 1 n = -1
  · unfold a_fn at hfn
    rw [if_pos hfin] at hfn
    have hnn : ¬ nv n := fun hv => by
      rcases hnv hv with ⟨h1, -⟩ | h1
      · exact h1 hfin
      · exact hn1 h1
    rcases he with ⟨-, he⟩ | ⟨b1, b2, b3⟩
    · exact to_fin h (by omega) (nofin_imb hfin) hf (Or.inl ⟨rfl, rfl, by omega, hnn⟩)
    · have ep : f1.2.1 = p2 := by omega
      have g1 := to_op hI h (st_skip (d := e0) (by rw [e1, ep, b1]; rfl) (by rw [e1, ep]; exact b2) (by rw [e1, ep]; exact b3)) a_D_same
      exact to_fin g1 (by omega) (nofin_imb hfin) (fr_at hf) (Or.inl ⟨rfl, rfl, rfl, hnn⟩)
  · unfold a_fn at hfn
    rw [if_neg hfin] at hfn
    rcases he with ⟨he, -⟩ | ⟨b1, b2, b3⟩
    · exact absurd he hfin
    refine fin_run (dd := G.2.1) (hh := G.2.2.1) A hI ih h hq hfin (by omega) hf (Nat.le_refl _) (Nat.le_refl _) (by rw [e1, hp]; exact hfn) (has_fr hhas hf (Nat.le_refl _)) hlp hR (fun s' f2 Y' u1 u2 u3 u4 u5 u6 u7 => ?_)
    have g1 := to_op hI u1 (st_skip (d := e0) (by rw [u2.1, u4, b1]; rfl) (by rw [u2.1, u4]; exact b2) (by rw [u2.1, u4]; exact b3)) a_D_same
    exact to_fin g1 (by omega) (fun _ _ _ => rfl) (fr_at u2) (Or.inl ⟨rfl, rfl, rfl, fun hv => by
      rcases hnv hv with ⟨-, h1⟩ | h1
      · exact u5 h1
      · exact hn1 h1⟩)
/-- what is at a TRY's last place, if it has a FINALLY -/
def a_la (q : Nat → Nat → Int) (k : Nat → Nat → Int) (bg : Nat → List Nat) (ch : Nat → List (Int × Int)) (P : Nat → aC → Nat → Nat → Nat → Prop) (n : Nat) (G : aC) (l : Nat) : Prop :=
  bg l = [] ∧ k 1 l = 11 ∧ k 2 l = (G.2.1 : Int) ∧ ∃ l', P (q 1 n).toNat (G.1, G.2.1 + 1, G.2.2.1 + 1, G.2.2.2) (l + 1) 0 l' ∧ bg l' = [] ∧ k 1 l' = 12 ∧ k 2 l' = (G.2.1 : Int) ∧ ch l' = a_hs G.1
/-- a catch -/
theorem try_catch {cs : List (Nat × Nat)} {c0 : Nat × Nat} {s0 l : Nat} {hs : List (Int × Int)} (A : a_ast q K BG CH bl nv cn kc bd vp) (hI : a_inv K BG CH bl mo de I) (ih : a_ex q K BG CH bl mo de nv cn kc I R) (h : a_to q K BG CH bl mo de I (f0 :: r, false, j, true, Y0) s (f1 :: r, true, 0, true, Y) c (a_bi n)) (hq : q 0 n = 11) (hc : c ≤ -8) (hf : a_fr G f0 f1) (hhas : a_has f0 G.2.1) (hlp : a_lp G) (hR : mo - Y 13 3 ≤ R)
    (hl : a_look bl (a_kd Y (Y 0 16)) (CH f1.1 f1.2.1) = some (c0.2 : Int)) (hcl : a_chain q (q 3 n) (cs.map fun c => c.1)) (hhs : hs = (if q 1 n = -1 then [] else [(-1, (l : Int))]))
    (hct : a_ct q (K f0.1) (BG f0.1) (a_Ld q (K f0.1) (BG f0.1) (CH f0.1) m) G (n, G.2.2.2.1, G.2.2.2.2, hs) (q 1 n) e0 cs s0 l) (hm : c0 ∈ cs) (hla : if q 1 n = -1 then e0 = l else a_la q (K f0.1) (BG f0.1) (CH f0.1) (a_Ld q (K f0.1) (BG f0.1) (CH f0.1) m) n G l) : a_go q K BG CH bl mo de nv cn kc n G e0 f0 r j Y0 := by
  obtain ⟨Ab, -, A12, -, -, -, -, -, -, An, -, -, -, -, -, -, Acc, -, Ac, -⟩ := id A
  have hm' : c0.1 ∈ cs.map fun c => c.1 := List.mem_map.mpr ⟨c0, hm, rfl⟩
  have hq12 := (Ac n _ c0.1 hq hcl hm').2
  obtain ⟨b1, b2, b3, s1, s2, b4, b5, b6⟩ := ct_mem hct hm
  have hfl := (hI.2 _ h.2.1).2.2 rfl
  dsimp only at hfl
  have g1 := to_op hI h (st_look hl) a_D_same
  rw [Int.toNat_natCast] at g1
  have e1 : f1.1 = f0.1 := hf.1
  rcases to_begin (n' := c0.1) hI g1 (by omega) (by show (BG f1.1 c0.2)[0]? = _; rw [e1, b1]; rfl) with w | ⟨g2, y1, y2, y3, y4⟩
  · exact off_go w
  have g2' := to_imb (e1 := a_bi n) g2 (Int.le_refl _) (fun k x hx => by
    have h1 : ¬ x = c0.1 := fun hx' => A12 c0.1 hq12 k (by rw [← hx']; exact hx)
    have h2 : ¬ k = c0.1 := fun hk => by
      have := hx.1
      rw [hk] at this
      omega
    show a_bi n k x + ((if x = c0.1 then 1 else 0) - (if k = c0.1 then 1 else 0)) = a_bi n k x
    rw [if_neg h1, if_neg h2]; omega)
  have g3 := to_op hI g2' (st_caught (d := G.2.1) (by show 0 < a_begin Y c0.1 1 0; rw [y4]; omega) (by show (BG f1.1 c0.2).length = 0 + 1; rw [e1, b1]; rfl) (by show K f1.1 1 c0.2 = 11; rw [e1]; exact b2) (by show K f1.1 2 c0.2 = _; rw [e1]; exact b3)) a_D_same
  have hf1 : a_fr G f0 (f1.1, c0.2, f1.2.2) := hf
  have hf2 := fr_upd (i := c0.2 + 1) (v := a_begin Y c0.1 0 16) hf1
  have hh1 : a_has (f1.1, c0.2, f1.2.2) G.2.1 := has_fr hhas hf1 (Nat.le_refl _)
  rcases to_sub (G := ((n, G.2.2.2.1, G.2.2.2.2, hs) :: G.1, G.2.1 + 1, G.2.2.1, (G.2.1 : Int), G.2.2.2.2)) hI ih g3 (by omega) (by show a_Ld q (K f1.1) (BG f1.1) (CH f1.1) m _ _ (c0.2 + 1) 0 s1; rw [e1]; exact b4) (has_upd (i := c0.2 + 1) (v := a_begin Y c0.1 0 16) hh1) (fun lt lg hx => by
    have := hlp lt lg hx
    show lg ≤ (_ :: G.1).length
    rw [List.length_cons]; omega) (by omega) with w | ⟨s', f2, fl, bi', Y', k1, k2, k3, k4⟩
  · exact off_go w
  have k5 := to_drop k1 (Ab c0.1 (by omega))
  have k6 : a_fr G f0 f2 := fr_trans hf2 k2 (Nat.le_succ _) (Nat.le_refl _)
  rcases k3 with ⟨rfl, rfl, v7, v8⟩ | ⟨rfl, lt, lg, dd, h2, m', v7, v8, v9, v10, v11⟩ | ⟨rfl, dd, h2, m', v, v7, v8, v9, v10, v11⟩ | ⟨rfl, rfl, v7, v8⟩
  · refine try_norm (n1 := (q 2 c0.1).toNat) A hI ih k5 hq (by omega) k6 hhas hlp (by omega) v7 b5 ?_ (fun hv => ?_) v8
    · rcases b6 with ⟨x1, x2⟩ | x1
      · rw [if_pos x1] at hla
        exact Or.inl ⟨x1, by omega⟩
      · exact Or.inr x1
    · rcases An n _ hq hcl hv with x1 | ⟨-, x1⟩
      · exact Or.inl x1
      · exact Or.inr (x1 _ hm')
  · exact try_leave (g := (n, G.2.2.2.1, G.2.2.2.2, hs)) A hI ih k5 hq (by omega) k6 hlp (by omega) rfl rfl rfl (Or.inl ⟨lt, lg, dd, h2, m', v7, Nat.le_trans (Nat.le_succ _) v8, v9, v10, v11⟩)
  · exact try_leave (g := (n, G.2.2.2.1, G.2.2.2.2, hs)) A hI ih k5 hq (by omega) k6 hlp (by omega) rfl rfl rfl (Or.inr ⟨dd, h2, m', v, Nat.le_trans (Nat.le_succ _) v7, v8, v9, v10, v11⟩)
  · rw [hs_cons] at v7
    have v7' : a_look bl (a_kd Y' (Y' 0 16)) (CH f2.1 f2.2.1) = a_look bl (a_kd Y' (Y' 0 16)) (hs ++ a_hs G.1) := v7
    by_cases hfin : q 1 n = -1
    · rw [if_pos hfin] at hhs
      rw [hhs] at v7'
      exact to_fin k5 (by omega) (nofin_imb hfin) k6 (Or.inr (Or.inr (Or.inr ⟨rfl, rfl, v7', ko_mono (fun x hx => Acc n _ c0.1 x hq hcl hm' hx (fun h => absurd hfin h)) v8⟩)))
    · rw [if_neg hfin] at hhs hla
      obtain ⟨z1, z2, z3, l', z4, z5, z6, z7, z8⟩ := hla
      rw [hhs] at v7'
      exact try_last (l := l) A hI ih k5 hq hfin (by omega) k6 hhas hlp (by omega) (v7'.trans (if_pos (Or.inl rfl))) z1 z2 z3 z4 z5 z6 z7 z8 (fun hnf => ko_mono (fun x hx => Acc n _ c0.1 x hq hcl hm' hx (fun _ => hnf)) v8)
/-- a TRY -/
theorem nd_try (A : a_ast q K BG CH bl nv cn kc bd vp) (hI : a_inv K BG CH bl mo de I) (ih : a_ex q K BG CH bl mo de nv cn kc I R) (h : a_to q K BG CH bl mo de I (f :: r, false, j, true, Y0) 1 (f :: r, false, j + 1, true, Y) (-127) (a_bi n)) (hh : a_has f G.2.1) (hlp : a_lp G) (hR : mo - Y 13 3 ≤ R) (hq : q 0 n = 11)
    (hn : a_try q (K f.1) (BG f.1) (CH f.1) (a_Ld q (K f.1) (BG f.1) (CH f.1) m) n G f.2.1 j e0) : a_go q K BG CH bl mo de nv cn kc n G e0 f r j Y0 := by
  obtain ⟨cs, p1, p2, l, hs, hcl, hhs, hL, hfn, b1, b2, b3, hct, hla⟩ := hn
  have hla : if q 1 n = -1 then e0 = l else a_la q (K f.1) (BG f.1) (CH f.1) (a_Ld q (K f.1) (BG f.1) (CH f.1) m) n G l := by
    by_cases hfin : q 1 n = -1
    · rw [if_pos hfin] at hla ⊢
      exact hla
    · rw [if_neg hfin] at hla ⊢
      obtain ⟨z1, z2, z3, l', z4, z5, z6, z7, z8, -⟩ := hla
      exact ⟨z1, z2, z3, l', z4, z5, z6, z7, z8⟩
  obtain ⟨Ab, -, -, -, -, -, -, -, -, An, -, -, -, -, -, Aca, -, -, Ac, -⟩ := id A
  rcases to_sub (G := ((n, G.2.2.2.1, G.2.2.2.2, (cs.map fun c => (q 1 c.1, (c.2 : Int))) ++ hs) :: G.1, G.2)) hI ih h (by omega) hL hh (fun lt lg hx => by
    have := hlp lt lg hx
    show lg ≤ (_ :: G.1).length
    rw [List.length_cons]; omega) hR with w | ⟨s', f2, fl, bi', Y', k1, k2, k3, k4⟩
  · exact off_go w
  have k5 := to_drop k1 (Ab n (by omega))
  have k6 : a_fr G f f2 := k2
  rcases k3 with ⟨rfl, rfl, v7, v8⟩ | ⟨rfl, lt, lg, dd, h2, m', v7, v8, v9, v10, v11⟩ | ⟨rfl, dd, h2, m', v, v7, v8, v9, v10, v11⟩ | ⟨rfl, rfl, v7, v8⟩
  · refine try_norm (n1 := (q 2 n).toNat) A hI ih k5 hq (by omega) k6 hh hlp (by omega) v7 hfn (Or.inr ⟨b1, b2, b3⟩) (fun hv => ?_) v8
    rcases An n _ hq hcl hv with x1 | ⟨x1, -⟩
    · exact Or.inl x1
    · exact Or.inr x1
  · exact try_leave (g := (n, G.2.2.2.1, G.2.2.2.2, (cs.map fun c => (q 1 c.1, (c.2 : Int))) ++ hs)) A hI ih k5 hq (by omega) k6 hlp (by omega) rfl rfl rfl (Or.inl ⟨lt, lg, dd, h2, m', v7, v8, v9, v10, v11⟩)
  · exact try_leave (g := (n, G.2.2.2.1, G.2.2.2.2, (cs.map fun c => (q 1 c.1, (c.2 : Int))) ++ hs)) A hI ih k5 hq (by omega) k6 hlp (by omega) rfl rfl rfl (Or.inr ⟨dd, h2, m', v, v7, v8, v9, v10, v11⟩)
  · rw [hs_cons] at v7
    have v7' : a_look bl (a_kd Y' (Y' 0 16)) (CH f2.1 f2.2.1) = a_look bl (a_kd Y' (Y' 0 16)) ((cs.map fun c => (q 1 c.1, (c.2 : Int))) ++ (hs ++ a_hs G.1)) := by
      rw [← List.append_assoc]; exact v7
    rcases look_cs (q := q) (bl := bl) (x := a_kd Y' (Y' 0 16)) (rest := hs ++ a_hs G.1) (cs := cs) (fun c hc => (Ac n _ c.1 hq hcl (List.mem_map.mpr ⟨c, hc, rfl⟩)).1) with ⟨c0, x1, x2⟩ | ⟨x1, x2⟩
    · exact try_catch A hI ih k5 hq (by omega) k6 hh hlp (by omega) (v7'.trans x2) hcl hhs hct x1 hla
    · have hfl := (hI.2 _ k5.2.1).2.2 rfl
      dsimp only at hfl
      have hko : (q 1 n ≠ -1 → ¬ nv (q 1 n).toNat) → a_ko cn kc n Y' := by
        intro hnf
        rcases v8 with v8 | v8 | v8
        · exact Or.inl v8
        · exact Or.inr (Or.inl v8)
        · by_cases h40 : 40 ≤ Y' 0 16
          · exact Or.inl h40
          · have ek : a_kd Y' (Y' 0 16) = Y' 2 (Y' 0 16).toNat := by
              unfold a_kd
              rw [if_pos (by omega)]
            rw [ek] at x1
            refine Or.inr (Or.inr (Aca n _ _ hq hcl v8 (fun c hc => ?_) hnf))
            obtain ⟨c', hc', rfl⟩ := List.mem_map.mp hc
            exact x1 c' hc'
      by_cases hfin : q 1 n = -1
      · rw [if_pos hfin] at hhs
        rw [x2, hhs] at v7'
        exact to_fin k5 (by omega) (nofin_imb hfin) k6 (Or.inr (Or.inr (Or.inr ⟨rfl, rfl, v7', hko (fun h => absurd hfin h)⟩)))
      · rw [if_neg hfin] at hhs hla
        obtain ⟨z1, z2, z3, l', z4, z5, z6, z7, z8⟩ := hla
        rw [x2, hhs] at v7'
        exact try_last (l := l) A hI ih k5 hq hfin (by omega) k6 hh hlp (by omega) (v7'.trans (if_pos (Or.inl rfl))) z1 z2 z3 z4 z5 z6 z7 z8 (fun hnf => hko (fun _ => hnf))
end ACa
