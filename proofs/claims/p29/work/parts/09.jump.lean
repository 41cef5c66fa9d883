/-! branches -/
def zpc (code : List zI) (j : Nat) : Nat := match code[j]? with
  | some i => i.1
  | none => 0
def zoff (code : List zI) (pc t : Nat) : Int := (zpc code t : Int) - (pc : Int)
def ze_if (c : Nat) (off : Int) : Instr := match c with
  | 0 => .ifCond .eq off
  | 1 => .ifCond .ne off
  | 2 => .ifCond .lt off
  | 3 => .ifCond .ge off
  | 4 => .ifCond .gt off
  | _ => .ifCond .le off
def ze_ic (c : Nat) (off : Int) : Instr := match c with
  | 0 => .if_icmp .eq off
  | 1 => .if_icmp .ne off
  | 2 => .if_icmp .lt off
  | 3 => .if_icmp .ge off
  | 4 => .if_icmp .gt off
  | _ => .if_icmp .le off
section ZN
variable {p : Program} {l : Launch} {e : Env} {R : Room} {s : State} {m : MethodId} {args : Array Value} {below : List Frame} {meth : Method} {c : Code} {Q : State → Prop} {cc : ByteArray} {nL : Nat} {own : String} {ini : Bool} {A : Nat → Prop} {E : Nat} {D : va_G} {W0 : va_W} {d : Nat} {sc : List Int32}
variable {pc nc ns : Nat} {L : zL} {S : List Value} {h : List zO}
theorem zn_br (C : zf_C p R s m args meth c cc nL own ini A E d sc) {q : Nat} (hq : q ≤ 5) {off : Int} {tgt : Nat} (hd : decode cc pc = .ok (ze_if q off, 3)) (ht : (pc : Int) + off = (tgt : Int)) {x : Int32}
    (kk : zf_G p l e R s m args below meth c Q nL A E D W0 (cond (zrel q x 0) tgt (pc + 3)) L S h nc ns) : zf_G p l e R s m args below meth c Q nL A E D W0 pc L (.int x :: S) h nc ns := by
  intro ls stk H locs hR
  obtain ⟨hx, hb, -⟩ := C
  obtain ⟨ws, tys, lv, r1, r2, r3, r4⟩ := hR
  obtain ⟨va, st', rfl, ma, r30⟩ := xf_2_cons r3
  cases ma
  have K := kk ls st' H locs ⟨ws, tys, lv, r1, r2, r30, r4⟩
  generalize hz : zrel q x 0 = b at K
  have Kt : b = true → W p l e R s m args below meth c H locs nc ns Q (F0 m tgt ls st') := fun h => by subst h; exact K
  have Kf : b = false → W p l e R s m args below meth c H locs nc ns Q (F0 m (pc + 3) ls st') := fun h => by subst h; exact K
  match q, hq, hd, hz with
  | 0, _, hd, hz => exact lv_if_eq hx hb hd ht (fun h => Kt (by rw [← hz]; exact decide_eq_true h)) (fun h => Kf (by rw [← hz]; exact decide_eq_false h))
  | 1, _, hd, hz => exact lv_if_ne hx hb hd ht (fun h => Kt (by rw [← hz]; show (!decide _) = true; rw [decide_eq_false h]; rfl)) (fun h => Kf (by rw [← hz]; show (!decide _) = false; rw [decide_eq_true h]; rfl))
  | 2, _, hd, hz => exact lv_if_lt hx hb hd ht (fun h => Kt (by rw [← hz]; exact decide_eq_true h)) (fun h => Kf (by rw [← hz]; exact decide_eq_false h))
  | 3, _, hd, hz => exact lv_if_ge hx hb hd ht (fun h => Kt (by rw [← hz]; exact decide_eq_true h)) (fun h => Kf (by rw [← hz]; exact decide_eq_false h))
  | 4, _, hd, hz => exact lv_if_gt hx hb hd ht (fun h => Kt (by rw [← hz]; exact decide_eq_true h)) (fun h => Kf (by rw [← hz]; exact decide_eq_false h))
  | 5, _, hd, hz => exact lv_if_le hx hb hd ht (fun h => Kt (by rw [← hz]; exact decide_eq_true h)) (fun h => Kf (by rw [← hz]; exact decide_eq_false h))
theorem zn_cmp (C : zf_C p R s m args meth c cc nL own ini A E d sc) {q : Nat} (hq : q ≤ 5) {off : Int} {tgt : Nat} (hd : decode cc pc = .ok (ze_ic q off, 3)) (ht : (pc : Int) + off = (tgt : Int)) {x y : Int32}
    (kk : zf_G p l e R s m args below meth c Q nL A E D W0 (cond (zrel q x y) tgt (pc + 3)) L S h nc ns) : zf_G p l e R s m args below meth c Q nL A E D W0 pc L (.int y :: .int x :: S) h nc ns := by
  intro ls stk H locs hR
  obtain ⟨hx, hb, -⟩ := C
  obtain ⟨ws, tys, lv, r1, r2, r3, r4⟩ := hR
  obtain ⟨va, st0, rfl, ma, r30⟩ := xf_2_cons r3
  obtain ⟨vb, st', rfl, mb, r31⟩ := xf_2_cons r30
  cases ma; cases mb
  have K := kk ls st' H locs ⟨ws, tys, lv, r1, r2, r31, r4⟩
  generalize hz : zrel q x y = b at K
  have Kt : b = true → W p l e R s m args below meth c H locs nc ns Q (F0 m tgt ls st') := fun h => by subst h; exact K
  have Kf : b = false → W p l e R s m args below meth c H locs nc ns Q (F0 m (pc + 3) ls st') := fun h => by subst h; exact K
  match q, hq, hd, hz with
  | 0, _, hd, hz => exact lv_icmp_eq hx hb hd ht (fun h => Kt (by rw [← hz]; exact decide_eq_true h)) (fun h => Kf (by rw [← hz]; exact decide_eq_false h))
  | 1, _, hd, hz => exact lv_icmp_ne hx hb hd ht (fun h => Kt (by rw [← hz]; show (!decide _) = true; rw [decide_eq_false h]; rfl)) (fun h => Kf (by rw [← hz]; show (!decide _) = false; rw [decide_eq_true h]; rfl))
  | 2, _, hd, hz => exact lv_icmp_lt hx hb hd ht (fun h => Kt (by rw [← hz]; exact decide_eq_true h)) (fun h => Kf (by rw [← hz]; exact decide_eq_false h))
  | 3, _, hd, hz => exact lv_icmp_ge hx hb hd ht (fun h => Kt (by rw [← hz]; exact decide_eq_true h)) (fun h => Kf (by rw [← hz]; exact decide_eq_false h))
  | 4, _, hd, hz => exact lv_icmp_gt hx hb hd ht (fun h => Kt (by rw [← hz]; exact decide_eq_true h)) (fun h => Kf (by rw [← hz]; exact decide_eq_false h))
  | 5, _, hd, hz => exact lv_icmp_le hx hb hd ht (fun h => Kt (by rw [← hz]; exact decide_eq_true h)) (fun h => Kf (by rw [← hz]; exact decide_eq_false h))
theorem zn_goto (C : zf_C p R s m args meth c cc nL own ini A E d sc) {off : Int} {tgt : Nat} (hd : decode cc pc = .ok (.goto off, 3)) (ht : (pc : Int) + off = (tgt : Int)) (kk : zf_G p l e R s m args below meth c Q nL A E D W0 tgt L S h nc ns) : zf_G p l e R s m args below meth c Q nL A E D W0 pc L S h nc ns :=
  fun ls stk H locs hR => lv_goto C.1 C.2.1 hd ht (kk ls stk H locs hR)
theorem zc_int {n : Nat} (h : n < 4294967296) : (zc n).toInt = (n : Int) - 2147483648 := by
  unfold zc
  rw [Int32.toInt_ofInt_of_le (by omega) (by omega)]
theorem zn_sw (C : zf_C p R s m args meth c cc nL own ini A E d sc) {lo df len : Nat} {ts : List Nat} (hlo : lo < 4294967296) {pcOf : Nat → Nat} (hd : decode cc pc = .ok (.tableswitch ((pcOf df : Int) - (pc : Int)) ((lo : Int) - 2147483648) ((lo : Int) - 2147483648 + (ts.length : Int) - 1) (ts.map fun t => (pcOf t : Int) - (pc : Int)).toArray, len)) {x : Int32}
    (kk : zf_G p l e R s m args below meth c Q nL A E D W0 (pcOf (if x.toInt < (zc lo).toInt then df else ts.getD (x.toInt - (zc lo).toInt).toNat df)) L S h nc ns) : zf_G p l e R s m args below meth c Q nL A E D W0 pc L (.int x :: S) h nc ns := by
  intro ls stk H locs hR
  obtain ⟨hx, hb, -⟩ := C
  obtain ⟨ws, tys, lv, r1, r2, r3, r4⟩ := hR
  obtain ⟨va, st', rfl, ma, r30⟩ := xf_2_cons r3
  cases ma
  have K := kk ls st' H locs ⟨ws, tys, lv, r1, r2, r30, r4⟩
  rw [zc_int hlo] at K
  by_cases c1 : x.toInt < (lo : Int) - 2147483648
  · rw [if_pos c1] at K
    exact lv_tableOut hx hb hd (Or.inl c1) (tgt := pcOf df) (by omega) K
  · rw [if_neg c1, List.getD_eq_getElem?_getD] at K
    by_cases c2 : (x.toInt - ((lo : Int) - 2147483648)).toNat < ts.length
    · rw [List.getElem?_eq_getElem c2] at K
      refine lv_tableIn hx hb hd (off := (pcOf (ts[(x.toInt - ((lo : Int) - 2147483648)).toNat]) : Int) - (pc : Int)) (tgt := pcOf (ts[(x.toInt - ((lo : Int) - 2147483648)).toNat])) (by omega) (by omega) ?_ (by omega) K
      rw [List.getElem?_toArray, List.getElem?_map, List.getElem?_eq_getElem c2]
      rfl
    · rw [List.getElem?_eq_none (by omega)] at K
      exact lv_tableOut hx hb hd (Or.inr (by omega)) (tgt := pcOf df) (by omega) K
end ZN
