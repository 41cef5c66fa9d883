/-! a frame by the executor -/
def xe_th90 (cc : ByteArray) (pc y z : Nat) : Bool := and (decide (decode cc (pc + 3) = .ok (.dup, 1))) (and (decide (decode cc (pc + 4) = .ok (.ldc y, 2))) (and (decide (decode cc (pc + 6) = .ok (.invokespecial z, 3))) (decide (decode cc (pc + 9) = .ok (.athrow, 1)))))
def xe_th91 (cc : ByteArray) (pc y z : Nat) : Bool := and (decide (decode cc (pc + 3) = .ok (.dup, 1))) (and (decide (decode cc (pc + 4) = .ok (.ldc_w y, 3))) (and (decide (decode cc (pc + 7) = .ok (.invokespecial z, 3))) (decide (decode cc (pc + 10) = .ok (.athrow, 1)))))
def xe_rok (own : String) (cc : ByteArray) (nL : Nat) (ini : Bool) (ex : List (Nat × Nat × Nat × Nat)) (code : List xv_I) (sw : List (List Nat)) (i : xv_I) : Prop :=
  i.2.2.1 = 200 ∨ i.2.2.1 = 89 ∨ (decode cc i.1 = .ok (xe_ins code sw i, i.2.1) ∧ xe_cnd nL ini sw i = true ∧ (xi_need i.2.2.1 = true → xi_site own i.2.2) ∧ (i.2.2.1 = 90 → ex = [] ∧ xe_th90 cc i.1 i.2.2.2.2.1 i.2.2.2.2.2.1 = true) ∧ (i.2.2.1 = 91 → ex = [] ∧ xe_th91 cc i.1 i.2.2.2.2.1 i.2.2.2.2.2.1 = true))
def xe_good (own : String) (cc : ByteArray) (nL : Nat) (ini : Bool) (ex : List (Nat × Nat × Nat × Nat)) (code : List xv_I) (sw : List (List Nat)) : Prop :=
  (∀ (j : Nat) (i : xv_I), code[j]? = some i → xe_rok own cc nL ini ex code sw i) ∧ ∀ (j : Nat) (i i' : xv_I), code[j]? = some i → code[j + 1]? = some i' → i.1 + i.2.1 = i'.1
def xh_row (own : String) (code : List xv_I) (a : Nat × Nat × Nat × Nat) (z : ExceptionTableEntry) : Prop := z.startPc = a.1 ∧ z.endPc = a.2.1 ∧ z.handlerPc = xe_pc (code.drop a.2.2.1) ∧ z.catchType ≠ 0 ∧ a.2.2.2 < 3 ∧ Cond.classLink own z.catchType (xg_EX a.2.2.2) ∈ xw_B
def xh_pass (own : String) (args : Array Value) (s : State) (pc k : Nat) (z : ExceptionTableEntry) : Prop := covers z pc = false ∨ (z.catchType ≠ 0 ∧ ∃ nm : String, (Cond.classLink own z.catchType nm).before args s = true ∧ va_Nc (xg_EX k) nm s)
theorem xg_NCall : ∀ a, a < 3 → ∀ b, b < 3 → a ≠ b → (xg_EX a, xg_EX b) ∈ xg_NC := by
  intro a ha b hb hn
  rcases (show a = 0 ∨ a = 1 ∨ a = 2 by omega) with rfl | rfl | rfl <;> rcases (show b = 0 ∨ b = 1 ∨ b = 2 by omega) with rfl | rfl | rfl <;> first | exact absurd rfl hn | decide +kernel
def xk_res (own : String) (args : Array Value) (s : State) (code : List xv_I) (pc k : Nat) (T : List ExceptionTableEntry) (κ : Option Nat → Option xv_R) (r : xv_R) : Prop :=
    (∃ (pre : List ExceptionTableEntry) (x : ExceptionTableEntry) (suf : List ExceptionTableEntry) (t : Nat), T = pre ++ x :: suf ∧ (∀ z ∈ pre, xh_pass own args s pc k z) ∧ covers x pc = true ∧ x.catchType ≠ 0 ∧ Cond.classLink own x.catchType (xg_EX k) ∈ xw_B ∧ x.handlerPc = xe_pc (code.drop t) ∧ κ (some t) = some r) ∨ ((∀ z ∈ T, xh_pass own args s pc k z) ∧ κ none = some r)
theorem xk_hand {own : String} {args : Array Value} {s : State} {code : List xv_I} {pc k : Nat} (hts : ∀ w ∈ xw_B, w.before args s = true) (hF : xf_F s) (hk : k < 3) : ∀ {ex : List (Nat × Nat × Nat × Nat)} {T : List ExceptionTableEntry}, xf_2 (xh_row own code) ex T → ∀ {κ : Option Nat → Option xv_R} {r : xv_R}, xq_hand ex pc k κ = some r →
    xk_res own args s code pc k T κ r
  | [], [], _, _, _, hf => Or.inr ⟨fun _ h => absurd h List.not_mem_nil, hf⟩
  | a :: ex, z :: T, hx, κ, r, hf => by
    obtain ⟨⟨h1, h2, h3, h4, h5, h6⟩, hx'⟩ := hx
    have hf' : cond (and (Nat.ble a.1 pc) (Nat.ble (Nat.succ pc) a.2.1)) (cond (Nat.beq a.2.2.2 k) (κ (some a.2.2.1)) (xq_hand ex pc k κ)) (xq_hand ex pc k κ) = some r := hf
    have hcov : covers z pc = and (Nat.ble a.1 pc) (Nat.ble (Nat.succ pc) a.2.1) := by
      unfold covers
      rw [h1, h2]
      congr 1
      · cases hb : Nat.ble a.1 pc with
        | true => exact decide_eq_true (xe_ble hb)
        | false => exact decide_eq_false (Nat.not_le.mpr (xe_nble hb))
      · cases hb : Nat.ble (Nat.succ pc) a.2.1 with
        | true => exact decide_eq_true (xe_ble hb)
        | false => exact decide_eq_false (by have := xe_nble hb; omega)
    have goOn : xh_pass own args s pc k z → xq_hand ex pc k κ = some r → xk_res own args s code pc k (z :: T) κ r := fun hz hr => by
      rcases xk_hand hts hF hk hx' hr with ⟨pre, x, suf, t, g1, g2, g3⟩ | ⟨g1, g2⟩
      · refine Or.inl ⟨z :: pre, x, suf, t, by rw [g1]; rfl, fun y hy => ?_, g3⟩
        rcases List.mem_cons.mp hy with rfl | hy
        · exact hz
        · exact g2 y hy
      · refine Or.inr ⟨fun y hy => ?_, g2⟩
        rcases List.mem_cons.mp hy with rfl | hy
        · exact hz
        · exact g1 y hy
    cases hb : and (Nat.ble a.1 pc) (Nat.ble (Nat.succ pc) a.2.1) with
    | false =>
      rw [hb] at hf' hcov
      exact goOn (Or.inl hcov) hf'
    | true =>
      rw [hb] at hf' hcov
      have hf2 : cond (Nat.beq a.2.2.2 k) (κ (some a.2.2.1)) (xq_hand ex pc k κ) = some r := hf'
      cases hc : Nat.beq a.2.2.2 k with
      | true =>
        rw [hc] at hf2
        have e1 := xe_beq hc
        rw [e1] at h6
        exact Or.inl ⟨[], z, T, a.2.2.1, rfl, fun _ h => absurd h List.not_mem_nil, hcov, h4, h6, h3, hf2⟩
      | false =>
        rw [hc] at hf2
        have n1 := xe_bne hc
        exact goOn (Or.inr ⟨h4, _, hts _ h6, hF.2 _ (xg_NCall k hk _ h5 (fun h => n1 h.symm))⟩) hf2
  | [], _ :: _, hx, _, _, _ => hx.elim
  | _ :: _, [], hx, _, _, _ => hx.elim
section XM
variable {p : Program} {l : Launch} {e : Env} {R : Room} {s : State} {m : MethodId} {args : Array Value} {below : List Frame} {meth : Method} {c : Code} {Q : State → Prop} {cc : ByteArray} {nL : Nat} {own : String} {ini : Bool} {A : Nat → Prop} {E : xm_E} {D : va_G} {W0 : va_W} {d : Nat} {sc : List xv_V}
variable {code : List xv_I} {sw : List (List Nat)} {ex : List (Nat × Nat × Nat × Nat)} {r : xv_R}
/-- the table of the handlers -/
def xh_T (own : String) (code : List xv_I) (ex : List (Nat × Nat × Nat × Nat)) (c : Code) (r : xv_R) : Prop := xf_2 (xh_row own code) ex c.exceptionTable.toList ∨ (ex = [] ∧ (r.1 = 1 ∨ r.1 = 9))
/-- a thrown one that this frame does not catch -/
def xh_out (p : Program) (l : Launch) (e : Env) (R : Room) (s : State) (m : MethodId) (args : Array Value) (below : List Frame) (meth : Method) (c : Code) (Q : State → Prop) (own : String) (A : Nat → Prop) (E : xm_E) (D : va_G) (W0 : va_W) (r : xv_R) : Prop :=
  ∀ (k pc : Nat) (h : List xv_O) (nc ns : Nat), r = (2 + k, (2, 0, 0), h, nc, ns) → k < 3 → (∀ z ∈ c.exceptionTable.toList, xh_pass own args s pc k z) → ∀ (q : Addr) (ce : Cell) (ws : va_W) (tys : xm_T) (H : Heap) (locs : List Loc) (ls : Array Slot) (rest : List Value),
    H[q]? = some ce → ce.vm = .none → s.vm.findClass (xg_EX k) = some ce.cls → xm_le W0 ws → xf_2 (xm_O E ws tys) h ws → va_K D vwCl tys s → va_P D vwCl ws H → va_D A ws → va_S A s.heap H locs → vx_W p l e R s m args below meth c H locs nc ns Q (F0 m pc ls rest) q
/-- a run of the executor from a place on, as the machine's -/
def xh_go (p : Program) (l : Launch) (e : Env) (R : Room) (s : State) (m : MethodId) (args : Array Value) (below : List Frame) (meth : Method) (c : Code) (Q : State → Prop) (nL : Nat) (A : Nat → Prop) (E : xm_E) (D : va_G) (W0 : va_W) (ih : List xv_I → xk_N) (is : List xv_I) (pc : Nat) (r : xv_R) : Prop :=
  ∀ (L : xv_L) (S : List xv_V) (h : List xv_O) (nc ns : Nat), ih is L S h nc ns = some r → xf_G p l e R s m args below meth c Q nL A E D W0 pc L S h nc ns
theorem xn_after (hown : s.vm.findClass own = some m.cls) (hts : ∀ w ∈ xw_B, w.before args s = true) (hF : xf_F s) (hT : xh_T own code ex c r) (hO : xh_out p l e R s m args below meth c Q own A E D W0 r) {ih : List xv_I → xk_N} {rest : List xv_I} {pc : Nat}
    (hnext : xh_go p l e R s m args below meth c Q nL A E D W0 ih rest (pc + 3) r) (hjump : ∀ t, xh_go p l e R s m args below meth c Q nL A E D W0 ih (xq_drop t code) (xe_pc (code.drop t)) r)
    {ws : va_W} {lv : List (Nat × Value)} {L : xv_L} {S : List xv_V} {ls : Array Slot} {st0 st : List Value} {H : Heap} {locs : List Loc} {nc ns : Nat} {R0 : xv_R} {aa : Array Value}
    (r1 : lv_has ls nL lv) (r2 : xf_2 (xm_L E ws) L lv) (r3 : xf_2 (xm_V E ws) S st) (hS : va_S A s.heap H locs) (hM : xm_le W0 ws) (hr : vx_Run p l e R s m args below meth c H locs nc ns R0.2.2.2.1 R0.2.2.2.2 (F0 m pc ls st0) st (xw_Q E D A ws R0 aa) (xw_X E D A ws R0) A)
    (hf : xa R0 pc code rest ex ih L S nc ns = some r) : W p l e R s m args below meth c H locs nc ns Q (F0 m pc ls st0) := by
  refine xa_run hr hS (fun v ws' tys' H1 locs1 hv hle hh hK hP hD hS1 => ?_) (fun k q ce ws' tys' H1 locs1 hk0 hk3 hce hcv hcl hle hh hK hP hD hS1 => ?_)
  · rcases xe_xa hf with ⟨h0, h1⟩ | ⟨h0, h1⟩ | ⟨h0, h1⟩
    · rcases hv with ⟨-, rfl⟩ | ⟨h2, -⟩
      · exact hnext _ _ _ _ _ h1 _ _ _ _ ⟨ws', tys', lv, r1, xm_L_mono hle r2, xm_S_mono hle r3, hh, hK, hP, hD, hS1, xm_le_trans hM hle⟩
      · rw [h0] at h2; cases h2
    · rcases hv with ⟨h2, -⟩ | ⟨-, x, rfl, hx⟩
      · rw [h0] at h2; cases h2
      · exact hnext _ _ _ _ _ h1 _ _ _ _ ⟨ws', tys', lv, r1, xm_L_mono hle r2, ⟨hx, xm_S_mono hle r3⟩, hh, hK, hP, hD, hS1, xm_le_trans hM hle⟩
    · rcases hv with ⟨h2, -⟩ | ⟨h2, -⟩ <;> (rw [h2] at h0; omega)
  · rcases xe_xa hf with ⟨h0, h1⟩ | ⟨h0, h1⟩ | ⟨h0, h1⟩
    · rw [h0] at hk0; omega
    · rw [h0] at hk0; omega
    · have ek : R0.1 - 2 = k := by omega
      rw [ek] at h1
      rcases hT with hT | ⟨he, hr1⟩
      · rcases xk_hand hts hF hk3 hT h1 with ⟨pre, x, suf, t, g1, g2, g3, g4, g5, g6, g7⟩ | ⟨g1, g2⟩
        · refine vx_catch hown pre x suf g1 g2 g3 g4 (hts _ g5) (hts _ (xg_cast k hk3)) hce hcv hcl ?_
          rw [g6]
          exact hjump t _ _ _ _ _ g7 _ _ _ _ ⟨ws', tys', lv, r1, xm_L_mono hle r2, ⟨Or.inr (Or.inr (Or.inr rfl)), trivial⟩, hh, hK, hP, hD, hS1, xm_le_trans hM hle⟩
        · have g3 := (Option.some.inj g2).symm
          rw [hk0] at g3
          exact hO k pc _ _ _ g3 hk3 g1 q ce ws' tys' H1 locs1 ls st hce hcv hcl (xm_le_trans hM hle) hh hK hP hD hS1
      · rw [he] at h1
        have g3 := (Option.some.inj h1).symm
        rw [hk0] at g3
        rw [g3] at hr1
        dsimp only at hr1
        omega
theorem xn_after5 (hown : s.vm.findClass own = some m.cls) (hts : ∀ w ∈ xw_B, w.before args s = true) (hF : xf_F s) (hT : xh_T own code ex c r) (hO : xh_out p l e R s m args below meth c Q own A E D W0 r) {ih : List xv_I → xk_N} {rest : List xv_I} {pc : Nat}
    (hnext : xh_go p l e R s m args below meth c Q nL A E D W0 ih rest (pc + 5) r) (hjump : ∀ t, xh_go p l e R s m args below meth c Q nL A E D W0 ih (xq_drop t code) (xe_pc (code.drop t)) r)
    {ws : va_W} {lv : List (Nat × Value)} {L : xv_L} {S : List xv_V} {ls : Array Slot} {st0 st : List Value} {H : Heap} {locs : List Loc} {nc ns : Nat} {R0 : xv_R} {aa : Array Value}
    (r1 : lv_has ls nL lv) (r2 : xf_2 (xm_L E ws) L lv) (r3 : xf_2 (xm_V E ws) S st) (hS : va_S A s.heap H locs) (hM : xm_le W0 ws) (hr : vx_Run5 p l e R s m args below meth c H locs nc ns R0.2.2.2.1 R0.2.2.2.2 (F0 m pc ls st0) st (xw_Q E D A ws R0 aa) (xw_X E D A ws R0) A)
    (hf : xa R0 pc code rest ex ih L S nc ns = some r) : W p l e R s m args below meth c H locs nc ns Q (F0 m pc ls st0) := by
  refine xa_run5 hr hS (fun v ws' tys' H1 locs1 hv hle hh hK hP hD hS1 => ?_) (fun k q ce ws' tys' H1 locs1 hk0 hk3 hce hcv hcl hle hh hK hP hD hS1 => ?_)
  · rcases xe_xa hf with ⟨h0, h1⟩ | ⟨h0, h1⟩ | ⟨h0, h1⟩
    · rcases hv with ⟨-, rfl⟩ | ⟨h2, -⟩
      · exact hnext _ _ _ _ _ h1 _ _ _ _ ⟨ws', tys', lv, r1, xm_L_mono hle r2, xm_S_mono hle r3, hh, hK, hP, hD, hS1, xm_le_trans hM hle⟩
      · rw [h0] at h2; cases h2
    · rcases hv with ⟨h2, -⟩ | ⟨-, x, rfl, hx⟩
      · rw [h0] at h2; cases h2
      · exact hnext _ _ _ _ _ h1 _ _ _ _ ⟨ws', tys', lv, r1, xm_L_mono hle r2, ⟨hx, xm_S_mono hle r3⟩, hh, hK, hP, hD, hS1, xm_le_trans hM hle⟩
    · rcases hv with ⟨h2, -⟩ | ⟨h2, -⟩ <;> (rw [h2] at h0; omega)
  · rcases xe_xa hf with ⟨h0, h1⟩ | ⟨h0, h1⟩ | ⟨h0, h1⟩
    · rw [h0] at hk0; omega
    · rw [h0] at hk0; omega
    · have ek : R0.1 - 2 = k := by omega
      rw [ek] at h1
      rcases hT with hT | ⟨he, hr1⟩
      · rcases xk_hand hts hF hk3 hT h1 with ⟨pre, x, suf, t, g1, g2, g3, g4, g5, g6, g7⟩ | ⟨g1, g2⟩
        · refine vx_catch hown pre x suf g1 g2 g3 g4 (hts _ g5) (hts _ (xg_cast k hk3)) hce hcv hcl ?_
          rw [g6]
          exact hjump t _ _ _ _ _ g7 _ _ _ _ ⟨ws', tys', lv, r1, xm_L_mono hle r2, ⟨Or.inr (Or.inr (Or.inr rfl)), trivial⟩, hh, hK, hP, hD, hS1, xm_le_trans hM hle⟩
        · have g3 := (Option.some.inj g2).symm
          rw [hk0] at g3
          exact hO k pc _ _ _ g3 hk3 g1 q ce ws' tys' H1 locs1 ls st hce hcv hcl (xm_le_trans hM hle) hh hK hP hD hS1
      · rw [he] at h1
        have g3 := (Option.some.inj h1).symm
        rw [hk0] at g3
        rw [g3] at hr1
        dsimp only at hr1
        omega
end XM
