/-! laying ends, whatever is laid -/
def lT (cc d : Nat) (M : yM) (o : Option yM) : Prop := lW cc M → ∃ M', o = some M' ∧ lw cc d M M' ∧ lW cc M'
section LyT
variable {cc d e a i N n : Nat} {M M1 M2 M' X : yM} {o : Option yM} {v k x y z x1 x2 x3 x4 x5 x6 x7 x8 g b nd f u : Int}
theorem lT_ret (h : lQ cc d M M') : lT cc d M (some M') := fun hW => ⟨M', rfl, h hW⟩
theorem lT_pre (h : lQ cc d M X) (hk : lT cc d X o) : lT cc d M o := by
  intro hW
  obtain ⟨a1, a2⟩ := h hW
  obtain ⟨M', e1, b1, b2⟩ := hk a2
  exact ⟨M', e1, (lQ_trans (fun _ => ⟨a1, a2⟩) (fun _ => ⟨b1, b2⟩)) hW⟩
theorem lT_step {B : yM → Option yM} (h : lQ cc d M X) (hk : ∀ t, lT cc d t (B t)) : lT cc d M (ylet X B) := lT_pre h (hk X)
theorem lT_val {α : Type} {w : α} {B : α → Option yM} (hk : ∀ v, lT cc d M (B v)) : lT cc d M (ylet w B) := hk w
theorem lT_valr {B : Int → Option yM} (h : lW cc M → 0 ≤ x ∧ x ≤ 300) (hk : ∀ v, 0 ≤ v → v ≤ 300 → lT cc d M (B v)) : lT cc d M (ylet x B) := fun hW => hk x (h hW).1 (h hW).2 hW
theorem lT_pair {Y : yM × Int} {B : yM × Int → Option yM} (h : lQ cc d M Y.1) (hk : ∀ t : yM × Int, lT cc d t.1 (B t)) : lT cc d M (ylet Y B) := lT_pre h (hk Y)
theorem lT_bind {K : yM → Option yM} (h : lT cc d M o) (hk : ∀ t, lT cc d t (K t)) : lT cc d M (Option.bind o K) := by
  intro hW
  obtain ⟨M1, rfl, a1, a2⟩ := h hW
  exact lT_pre (fun _ => ⟨a1, a2⟩) (hk M1) hW
theorem lT_cond {b : Bool} {o1 o2 : Option yM} (h1 : lT cc d M o1) (h2 : lT cc d M o2) : lT cc d M (cond b o1 o2) := by
  cases b with
  | true => rw [cond_true]; exact h1
  | false => rw [cond_false]; exact h2
theorem lT_mono (h : d ≤ e) (h1 : lT cc e M o) : lT cc d M o := by
  intro hW
  obtain ⟨M', e1, a1, a2⟩ := h1 hW
  exact ⟨M', e1, (lQ_mono h (fun _ => ⟨a1, a2⟩)) hW⟩
theorem lT_69_2 (hcc : pC cc) : ∀ (n : Nat) {M : yM} {x3 : Int}, 0 ≤ x3 → x3 ≤ 300 → 300 - x3 < n → lT cc d M (f_69_2 N cc n M x1 x3)
  | 0, _, _, _, _, h => absurd h (by omega)
  | n + 1, M, x3, h0, h1, h2 => by
    intro hW
    have hl := hW.1
    rw [f_69_2, rel3 ⟨by omega, by omega⟩ ⟨by omega, by omega⟩]
    by_cases hc : M cc 0 ≤ x3
    · rw [cond_dt hc]
      exact lT_ret lQ_refl hW
    · rw [cond_df hc]
      refine lT_cond ?_ (lT_step (lQ_wr hcc (by omega)) fun t => ?_) hW
      · exact lT_69_2 hcc n (by omega) (by omega) (by omega)
      · exact lT_69_2 hcc n (by omega) (by omega) (by omega)
theorem lT_69 (hcc : pC cc) (hN : 1000 ≤ N) (h0 : 0 ≤ x2) (h1 : x2 ≤ 300) : lT cc d M (f_69 N cc M x1 x2) := lT_69_2 hcc N h0 h1 (by omega)
theorem T_49_7 : ∀ (n : Nat) {M : yM} {x2 x3 x4 : Int}, 0 ≤ x4 → x4 ≤ 90 → x4 < n → ∃ v, f_49_7 N n M x2 x3 x4 = some v ∧ (v = 0 ∨ v = 1)
  | 0, _, _, _, _, h0, _, h => absurd h (by omega)
  | n + 1, M, x2, x3, x4, h0, h1, h2 => by
    have e19 : ∃ v, f_49_19 N M x2 x3 = some v ∧ (v = 0 ∨ v = 1) := by
      unfold f_49_19
      cases yrel 1 x3 x2 with
      | true => exact ⟨0, rfl, Or.inl rfl⟩
      | false => exact ⟨1, rfl, Or.inr rfl⟩
    rw [f_49_7]
    cases yrel 5 x3 x2 with
    | true => exact e19
    | false =>
      rw [cond_false, rel5 ⟨by omega, by omega⟩ ⟨by decide, by decide⟩]
      by_cases hc : x4 ≤ 0
      · rw [cond_dt hc]; exact e19
      · rw [cond_df hc, ylet_eq]
        exact T_49_7 n (by omega) (by omega) (by omega)
theorem T_49 (hN : 1000 ≤ N) : ∃ v, f_49 N M x1 x2 = some v ∧ (v = 0 ∨ v = 1) := by
  unfold f_49
  rw [ylet_eq]
  exact T_49_7 N (by omega) (by omega) (by omega)
theorem lT_61_11 (hcc : pC cc) (hN : 1000 ≤ N) (ht0 : 0 ≤ x2) (ht : x2 ≤ 301) : ∀ (n : Nat) {M : yM} {x6 x7 x8 : Int}, 0 ≤ x8 → x8 ≤ 302 → 302 - x8 < n → lT cc d M (f_61_11 N cc n M x2 x3 x4 x5 x6 x7 x8)
  | 0, _, _, _, _, _, _, h => absurd h (by omega)
  | n + 1, M, x6, x7, x8, h0, h1, h2 => by
    rw [f_61_11, rel4 ⟨by omega, by omega⟩ ⟨by omega, by omega⟩]
    by_cases hc : x2 < x8
    · rw [cond_dt hc]
      exact lT_ret lQ_refl
    · rw [cond_df hc]
      have ih : ∀ {M : yM} {x6 x7 : Int}, lT cc d M (f_61_11 N cc n M x2 x3 x4 x5 x6 x7 (x8 + 1)) := fun {M x6 x7} => lT_61_11 hcc hN ht0 ht n (by omega) (by omega) (by omega)
      have h48 : ∀ {M : yM}, lT cc d M (f_61_48 N cc (f_61_11 N cc n) M x2 x3 x4 x5 x8) := fun {M} => by
        unfold f_61_48 f_61_54
        exact lT_val fun v => ih
      have h39 : ∀ {M : yM}, lT cc d M (f_61_39 N cc (f_61_11 N cc n) M x2 x3 x4 x5 x6 x7 x8) := fun {M} => by
        unfold f_61_39
        refine lT_cond h48 (lT_bind (fun hW => ?_) fun t => h48)
        obtain ⟨M', e1, e2⟩ := lQ_140 (x1 := x6) (x2 := x8) (x3 := x4) (x4 := x5) (d := d) hcc hW
        exact ⟨M', e1, e2 hW⟩
      have h34 : ∀ {M : yM}, lT cc d M (f_61_34 N cc (f_61_11 N cc n) M x2 x3 x4 x5 x6 x8) := fun {M} => ih
      refine lT_cond h39 ?_
      obtain ⟨w, e49, -⟩ := T_49 (M := M) (x1 := x8) (x2 := x3) hN
      rw [e49]
      exact lT_cond h39 (lT_cond h34 (lT_cond h34 (lT_cond ih h34)))
theorem lT_61 (hcc : pC cc) (hN : 1000 ≤ N) (h1 : 0 ≤ x1) (h2 : x1 ≤ 300) (h3 : 0 ≤ x2) (h4 : x2 ≤ 301) : lT cc d M (f_61 N cc M x1 x2 x3 x4 x5) := by
  unfold f_61
  exact lT_cond (lT_61_11 hcc hN h3 h4 N h1 (by omega) (by omega)) (lT_ret lQ_refl)
theorem rd_cf (hW : lW cc M) : (0 ≤ yrd M 103 x ∧ yrd M 103 x ≤ 300) ∧ 0 ≤ yrd M 104 x ∧ yrd M 104 x ≤ 300 := by
  unfold yrd
  have e3 : yln 103 = 90 := rfl
  have e4 : yln 104 = 90 := rfl
  rw [e3, e4]
  by_cases q : 0 ≤ yw x ∧ (yw x).toNat < 90
  · rw [if_pos q, if_pos q]
    exact hW.2.2.2 _ q.2
  · rw [if_neg q, if_neg q]
    omega
theorem lT_53 (hcc : pC cc) (hN : 1000 ≤ N) (h1 : 0 ≤ x3) (h2 : x3 ≤ 300) (h3 : 0 ≤ x4) (h4 : x4 ≤ 300) : lT cc d M (f_53 N cc M x1 x2 x3 x4) := by
  have key : ∀ (n : Nat) {M : yM} {x5 x6 : Int}, 0 ≤ x6 → x6 ≤ 90 → x6 < n → lT cc d M (f_53_8 N cc n M x2 x3 x4 x5 x6) := by
    intro n
    induction n with
    | zero => intro M x5 x6 q0 _ q; exact absurd q (by omega)
    | succ n ih =>
      intro M x5 x6 q0 q1 q2
      rw [f_53_8]
      refine lT_cond (lT_ret lQ_refl) ?_
      rw [rel5 ⟨by omega, by omega⟩ ⟨by decide, by decide⟩]
      by_cases hc : x6 ≤ 0
      · rw [cond_dt hc]; exact lT_ret lQ_refl
      · rw [cond_df hc]
        exact lT_bind (lT_61 hcc hN h1 h2 h3 (by omega)) fun t => lT_val fun v => ih (by omega) (by omega) (by omega)
  unfold f_53
  exact lT_val fun v => key N (by omega) (by omega) (by omega)
theorem lT_56 (hcc : pC cc) (hN : 1000 ≤ N) (h1 : 0 ≤ x3) (h2 : x3 ≤ 300) (h3 : 0 ≤ x4) (h4 : x4 ≤ 300) : lT cc d M (f_56 N cc M x1 x2 x3 x4 x5) := by
  have key : ∀ (n : Nat) {M : yM} {x6 x7 : Int}, 0 ≤ x7 → x7 ≤ 90 → x7 < n → lT cc d M (f_56_15 N cc n M x2 x5 x6 x7) := by
    intro n
    induction n with
    | zero => intro M x6 x7 q0 _ q; exact absurd q (by omega)
    | succ n ih =>
      intro M x6 x7 q0 q1 q2
      rw [f_56_15]
      refine lT_cond (lT_ret lQ_refl) ?_
      rw [rel5 ⟨by omega, by omega⟩ ⟨by decide, by decide⟩]
      by_cases hc : x7 ≤ 0
      · rw [cond_dt hc]; exact lT_ret lQ_refl
      · rw [cond_df hc]
        intro hW
        obtain ⟨⟨r1, r2⟩, r3, r4⟩ := rd_cf (x := x6) hW
        exact lT_bind (lT_61 hcc hN r1 r2 r3 (by omega)) (fun t => lT_val fun v => ih (by omega) (by omega) (by omega)) hW
  unfold f_56
  exact lT_bind (lT_61 hcc hN h1 h2 h3 (by omega)) fun t => lT_val fun v => key N (by omega) (by omega) (by omega)
end LyT
section LyT2
variable {cc d e a i N n : Nat} {M M1 M2 M' X : yM} {o : Option yM} {v k x y z x1 x2 x3 x4 x5 x6 x7 x8 g b nd f u : Int} {ly : yM → Int → Int → Option yM}
theorem pz_s (hd : d < 90) : 105 + 1 * ypz 91 ((d : Int) + 1) = 105 + (d + 1) := by
  rw [show ((d : Int) + 1) = ((d + 1 : Nat) : Int) from rfl, pz91 (by omega) (by omega), Int.toNat_natCast, Nat.one_mul]
theorem pz_d (hd : d < 91) : 105 + 1 * ypz 91 (d : Int) = 105 + d := by
  rw [pz91 (by omega) (by omega), Int.toNat_natCast, Nat.one_mul]
theorem lQ_pl (hcc : pC cc) (hd : d < 90) : lQ cc d M (yU M (105 + (d + 1)) i v) := lQ_U hcc (by omega)
theorem lT_ly (hly : ∀ M n, lT cc (d + 1) M (ly M n ((d : Int) + 1))) : lT cc d M (ly M x ((d : Int) + 1)) := lT_mono (Nat.le_succ d) (hly M x)
theorem lT_65 (hcc : pC cc) (hN : 1000 ≤ N) (hd : d < 90) (hly : ∀ M n, lT cc (d + 1) M (ly M n ((d : Int) + 1))) : lT cc d M (f_65 N ly cc M (d : Int) x2) := by
  have key : ∀ (n : Nat) {M : yM} {r3 : Nat} {x4 x5 : Int}, 0 ≤ x5 → x5 ≤ 90 → x5 < n → lT cc d M (f_65_9 N ly cc n M (d : Int) x2 r3 x4 x5) := by
    intro n
    induction n with
    | zero => intro M r3 x4 x5 q0 _ q; exact absurd q (by omega)
    | succ n ih =>
      intro M r3 x4 x5 q0 q1 q2
      rw [f_65_9]
      refine lT_cond (lT_ret lQ_refl) ?_
      rw [rel5 ⟨by omega, by omega⟩ ⟨by decide, by decide⟩]
      by_cases hc : x5 ≤ 0
      · rw [cond_dt hc]; exact lT_ret lQ_refl
      · rw [cond_df hc]
        have ih' : ∀ {M : yM} {v : Int}, lT cc d M (f_65_71 N ly cc (f_65_9 N ly cc n) M (d : Int) x2 r3 x5 v) := fun {M v} => by
          unfold f_65_71
          exact ih (by omega) (by omega) (by omega)
        refine lT_val fun v4 => lT_val fun v5 => lT_cond (lT_cond ih' ?_) (lT_step (lQ_54 hcc) fun t => ih')
        rw [pz_s hd]
        exact lT_step (lQ_48 hcc hd) fun t => lT_step (lQ_pl hcc hd) fun t => lT_step (lQ_pl hcc hd) fun t => lT_bind (lT_ly hly) fun t => ih'
  unfold f_65
  exact lT_val fun v => key N (by omega) (by omega) (by omega)
theorem lT_51 (hcc : pC cc) (hN : 1000 ≤ N) (hd : d < 90) (hly : ∀ M n, lT cc (d + 1) M (ly M n ((d : Int) + 1))) : lT cc d M (f_51 N ly cc M x1 (d : Int)) := by
  unfold f_51
  exact lT_bind (lT_65 hcc hN hd hly) fun t => lT_step (lQ_46 hcc) fun t => lT_ret lQ_refl
theorem lT_60 (hcc : pC cc) (hN : 1000 ≤ N) (hd : d < 90) (hly : ∀ M n, lT cc (d + 1) M (ly M n ((d : Int) + 1))) : lT cc d M (f_60 N ly cc M x1 (d : Int)) := by
  unfold f_60
  exact lT_step (lQ_45 hcc) fun t => lT_bind (lT_65 hcc hN hd hly) fun t => lT_step (lQ_45 hcc) fun t => lT_ret lQ_refl
theorem lT_52 (hcc : pC cc) (hd : d < 90) (hly : ∀ M n, lT cc (d + 1) M (ly M n ((d : Int) + 1))) : lT cc d M (f_52 ly cc M x1 (d : Int) x3) := by
  unfold f_52
  rw [pz_s hd]
  refine lT_val fun v1 => lT_step (fun hW => lQ_wrc hcc (Or.inl rfl) hW.1.1 hW.1.2 hW) fun t => lT_step (lQ_40 hcc) fun t => lT_step (lQ_45 hcc) fun t => lT_step (lQ_47 hcc hd) fun t => lT_step (lQ_pl hcc hd) fun t => lT_step (lQ_pl hcc hd) fun t => lT_step (lQ_pl hcc hd) fun t => lT_bind (lT_ly hly) fun t => lT_step (fun hW => lQ_wrc hcc (Or.inr rfl) hW.1.1 hW.1.2 hW) fun t => lT_ret lQ_refl
theorem lT_55 (hcc : pC cc) (hd : d < 90) (hly : ∀ M n, lT cc (d + 1) M (ly M n ((d : Int) + 1))) : lT cc d M (f_55 ly cc M x1 (d : Int) x3) := by
  unfold f_55
  rw [pz_s hd]
  exact lT_val fun v1 => lT_cond (lT_ret lQ_refl) (lT_step (lQ_47 hcc hd) fun t => lT_step (lQ_pl hcc hd) fun t => lT_step (lQ_pl hcc hd) fun t => lT_bind (lT_ly hly) fun t => lT_ret lQ_refl)
theorem lT_57 (hcc : pC cc) (hN : 1000 ≤ N) (hd : d < 90) (hly : ∀ M n, lT cc (d + 1) M (ly M n ((d : Int) + 1))) : lT cc d M (f_57 N ly cc M x1 (d : Int)) := by
  unfold f_57
  refine lT_val fun v1 => lT_val fun v2 => lT_valr (fun hW => hW.1) fun v3 g1 g2 => lT_pair (lQ_67 hcc) fun t => lT_val fun v5 => lT_step (lQ_46 hcc) fun t => lT_step (lQ_47 hcc hd) fun t => lT_bind (lT_ly hly) fun t => lT_cond ?_ (lT_bind (lT_69 hcc hN g1 g2) fun t => lT_ret lQ_refl)
  exact lT_pair (lQ_67 hcc) fun t => lT_val fun v11 => lT_step (lQ_46 hcc) fun t => lT_bind (lT_69 hcc hN g1 g2) fun t => lT_bind (lT_ly hly) fun t => lT_bind (lT_69 hcc hN g1 g2) fun t => lT_ret lQ_refl
theorem lT_58 (hcc : pC cc) (hN : 1000 ≤ N) (hd : d < 90) (hly : ∀ M n, lT cc (d + 1) M (ly M n ((d : Int) + 1))) : lT cc d M (f_58 N ly cc M x1 (d : Int)) := by
  unfold f_58
  rw [pz_s hd]
  exact lT_val fun v1 => lT_pair (lQ_67 hcc) fun t => lT_val fun v3 => lT_step (lQ_45 hcc) fun t => lT_valr (fun hW => hW.1) fun v5 g1 g2 => lT_step (lQ_46 hcc) fun t => lT_step (lQ_47 hcc hd) fun t => lT_step (lQ_pl hcc hd) fun t => lT_step (lQ_pl hcc hd) fun t => lT_bind (lT_ly hly) fun t => lT_step (lQ_45 hcc) fun t => lT_bind (lT_69 hcc hN g1 g2) fun t => lT_ret lQ_refl
theorem lT_63_135 (hcc : pC cc) (hN : 1000 ≤ N) (h7 : 0 ≤ x7 ∧ x7 ≤ 300) (h8 : 0 ≤ x8 ∧ x8 ≤ 300) : lT cc d M (f_63_135 N ly cc M x1 x4 x5 x6 x7 x8 x) := by
  unfold f_63_135
  exact lT_bind (lT_69 hcc hN h8.1 h8.2) fun t => lT_bind (lT_53 hcc hN h7.1 h7.2 h8.1 h8.2) fun t => lT_cond (lT_ret lQ_refl) (lT_bind (lT_56 hcc hN h7.1 h7.2 h8.1 h8.2) fun t => lT_ret lQ_refl)
theorem lT_63_100 (hcc : pC cc) (hN : 1000 ≤ N) (hd : d < 90) (hly : ∀ M n, lT cc (d + 1) M (ly M n ((d : Int) + 1))) (h7 : 0 ≤ x7 ∧ x7 ≤ 300) (h8 : 0 ≤ x8 ∧ x8 ≤ 300) {r3 : Nat} : lT cc d M (f_63_100 N ly cc M x1 (d : Int) r3 x4 x5 x6 x7 x8) := by
  unfold f_63_100
  exact lT_val fun v15 => lT_cond (lT_63_135 hcc hN h7 h8) (lT_step (lQ_45 hcc) fun t => lT_bind (lT_55 hcc hd hly) fun t => lT_step (lQ_45 hcc) fun t => lT_63_135 hcc hN h7 h8)
theorem lT_63_63 (hcc : pC cc) (hN : 1000 ≤ N) (hd : d < 90) (hly : ∀ M n, lT cc (d + 1) M (ly M n ((d : Int) + 1))) (h7 : 0 ≤ x7 ∧ x7 ≤ 300) (h8 : 0 ≤ x8 ∧ x8 ≤ 300) {r3 : Nat} : ∀ (n : Nat) {M : yM} {x9 x10 : Int}, 0 ≤ x10 → x10 ≤ 90 → x10 < n → lT cc d M (f_63_63 N ly cc n M x1 (d : Int) r3 x4 x5 x6 x7 x8 x9 x10)
  | 0, _, _, _, _, _, h => absurd h (by omega)
  | n + 1, M, x9, x10, q0, q1, q2 => by
    rw [f_63_63]
    refine lT_cond (lT_63_100 hcc hN hd hly h7 h8) ?_
    rw [rel5 ⟨by omega, by omega⟩ ⟨by decide, by decide⟩]
    by_cases hc : x10 ≤ 0
    · rw [cond_dt hc]; exact lT_63_100 hcc hN hd hly h7 h8
    · rw [cond_df hc]
      have ih : ∀ {M : yM} {x9 : Int}, lT cc d M (f_63_98 N ly cc (f_63_63 N ly cc n) M x1 (d : Int) r3 x4 x5 x6 x7 x8 x9 x10) := fun {M x9} => by
        unfold f_63_98
        exact lT_63_63 hcc hN hd hly h7 h8 n (by omega) (by omega) (by omega)
      have ih2 : ∀ {M : yM} {x9 : Int}, lT cc d M (f_63_90 N ly cc (f_63_63 N ly cc n) M x1 (d : Int) r3 x4 x5 x6 x7 x8 x9 x10) := fun {M x9} => by
        unfold f_63_90
        exact lT_step (lQ_46 hcc) fun t => ih
      exact lT_bind (lT_52 hcc hd hly) fun t => lT_bind (lT_55 hcc hd hly) fun t => lT_val fun v => lT_cond ih2 (lT_cond ih ih2)
theorem lT_63 (hcc : pC cc) (hN : 1000 ≤ N) (hd : d < 90) (hly : ∀ M n, lT cc (d + 1) M (ly M n ((d : Int) + 1))) : lT cc d M (f_63 N ly cc M x1 (d : Int)) := by
  unfold f_63
  rw [pz_s hd]
  exact lT_pair (lQ_66 hcc) fun t => lT_val fun v2 => lT_pair (lQ_67 hcc) fun t => lT_val fun v4 => lT_val fun v5 => lT_valr (fun hW => hW.1) fun v6 g1 g2 => lT_step (lQ_47 hcc hd) fun t => lT_step (lQ_pl hcc hd) fun t => lT_bind (lT_ly hly) fun t => lT_valr (fun hW => hW.1) fun v10 g3 g4 => lT_bind (lT_55 hcc hd hly) fun t => lT_step (lQ_46 hcc) fun t => lT_val fun v13 => lT_63_63 hcc hN hd hly ⟨g1, g2⟩ ⟨g3, g4⟩ N (by omega) (by omega) (by omega)
theorem lT_64_27 (hcc : pC cc) (hN : 1000 ≤ N) (hd : d < 90) (hly : ∀ M n, lT cc (d + 1) M (ly M n ((d : Int) + 1))) {r3 : Nat} : lT cc d M (f_64_27 N ly cc M x1 (d : Int) r3 x4) := by
  unfold f_64_27
  rw [pz_s hd]
  refine lT_valr (fun hW => hW.1) fun v5 g1 g2 => lT_step (lQ_47 hcc hd) fun t => lT_step (lQ_pl hcc hd) fun t => lT_bind (lT_ly hly) fun t => lT_valr (fun hW => hW.1) fun v9 g3 g4 => lT_cond ?_ (lT_ret lQ_refl)
  refine lT_pair (lQ_67 hcc) fun t => lT_val fun v12 => lT_step (lQ_54 hcc) fun t => lT_step (lQ_46 hcc) fun t => lT_val fun v15 => lT_step (lQ_45 hcc) fun t => lT_valr (fun hW => hW.1) fun v17 g5 g6 => lT_step (lQ_54 hcc) fun t => lT_step (lQ_45 hcc) fun t => lT_val fun v20 => lT_step (lQ_45 hcc) fun t => lT_bind (lT_69 hcc hN g3 g4) fun t => lT_bind (lT_61 hcc hN g1 g2 g3 (by omega)) fun t => lT_bind (lT_61 hcc hN g5 g6 (by omega) (by omega)) fun t => lT_ret lQ_refl
theorem lT_64 (hcc : pC cc) (hN : 1000 ≤ N) (hd : d < 90) (hly : ∀ M n, lT cc (d + 1) M (ly M n ((d : Int) + 1))) : lT cc d M (f_64 N ly cc M x1 (d : Int)) := by
  unfold f_64
  exact lT_pair (lQ_66 hcc) fun t => lT_val fun v2 => lT_val fun v3 => lT_cond (lT_64_27 hcc hN hd hly) (lT_step (lQ_45 hcc) fun t => lT_64_27 hcc hN hd hly)
theorem lT_50 (hcc : pC cc) (hN : 1000 ≤ N) (hly : d < 90 → ∀ M n, lT cc (d + 1) M (ly M n ((d : Int) + 1))) (hd : d ≤ 90) : lT cc d M (f_50 N ly cc M x1 (d : Int)) := by
  unfold f_50
  rw [rel2 ⟨by omega, by omega⟩ ⟨by decide, by decide⟩, cond_df (by omega), rel2 ⟨by omega, by omega⟩ ⟨by decide, by decide⟩]
  by_cases h90 : (d : Int) + 1 < 91
  · rw [cond_dt h90]
    have hd : d < 90 := by omega
    have hl := hly hd
    unfold f_50_13
    refine lT_cond (lT_step (lQ_40 hcc) fun t => lT_cond (lT_step (lQ_47 hcc hd) fun t => lT_bind (lT_ly hl) fun t => lT_bind (lT_ly hl) fun t => lT_ret lQ_refl) ?_) (lT_ret lQ_refl)
    have h83 : lT cc d t (f_50_83 N ly cc t x1 (d : Int)) := by
      unfold f_50_83
      exact lT_step (lQ_62 hcc) fun t => lT_ret lQ_refl
    exact lT_cond (lT_bind (lT_57 hcc hN hd hl) fun t => lT_ret lQ_refl) (lT_cond (lT_bind (lT_58 hcc hN hd hl) fun t => lT_ret lQ_refl) (lT_cond (lT_bind (lT_51 hcc hN hd hl) fun t => lT_ret lQ_refl) (lT_cond (lT_bind (lT_60 hcc hN hd hl) fun t => lT_ret lQ_refl) (lT_cond h83 (lT_cond h83 (lT_cond (lT_bind (lT_63 hcc hN hd hl) fun t => lT_ret lQ_refl) (lT_cond h83 (lT_cond (lT_bind (lT_64 hcc hN hd hl) fun t => lT_ret lQ_refl) h83))))))))
  · rw [cond_df h90]
    unfold f_50_9
    rw [ylet_eq]
    unfold f_50_13
    rw [yU_at, show yrel 0 1 0 = false from rfl, cond_false]
    exact lT_ret (lQ_tl hcc)
/-- a node is laid, or its code is too long -/
theorem lT_y50 (hcc : pC cc) (hN : 1000 ≤ N) : ∀ (r : Nat) {d : Nat} {M : yM} {x1 : Int}, 91 ≤ r + d → d ≤ 90 → lT cc d M (fy_50 N cc r M x1 (d : Int))
  | 0, d, M, x1, h, h2 => absurd h (by omega)
  | r + 1, d, M, x1, h, h2 => lT_50 hcc hN (fun hd M n => lT_y50 hcc hN r (d := d + 1) (by omega) (by omega)) h2
end LyT2
