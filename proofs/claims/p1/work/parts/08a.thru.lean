/-! every instruction goes on -/
def xs_thru (f : xv_L → List xv_V → List xv_O → xk_S → Option xv_R) : Prop := ∀ (L : xv_L) (S : List xv_V) (h : List xv_O) (k : xk_S) (r : xv_R), f L S h k = some r → ∃ L' S' h', k L' S' h' = some r
theorem xp_push {v : xv_V} : xs_thru (xo_push v) := by
  intro L S h k r hf
  exact ⟨_, _, _, hf⟩
theorem xp_iload {i : Nat} : xs_thru (xo_iload i) := by
  intro L S h k r hf
  obtain ⟨_, _, -, hf1⟩ := xe_get hf
  obtain ⟨-, hf2⟩ := xe_cond hf1
  exact ⟨_, _, _, hf2⟩
theorem xp_aload {i : Nat} : xs_thru (xo_aload i) := by
  intro L S h k r hf
  obtain ⟨_, _, -, hf1⟩ := xe_get hf
  obtain ⟨-, hf2⟩ := xe_cond hf1
  exact ⟨_, _, _, hf2⟩
theorem xp_lload {i : Nat} : xs_thru (xo_lload i) := by
  intro L S h k r hf
  obtain ⟨_, _, -, hf1⟩ := xe_get hf
  obtain ⟨-, hf2⟩ := xe_cond hf1
  exact ⟨_, _, _, hf2⟩
theorem xp_dload {i : Nat} : xs_thru (xo_dload i) := by
  intro L S h k r hf
  obtain ⟨_, _, -, hf1⟩ := xe_get hf
  obtain ⟨-, hf2⟩ := xe_cond hf1
  exact ⟨_, _, _, hf2⟩
theorem xp_istore {i : Nat} : xs_thru (xo_istore i) := by
  intro L S h k r hf
  obtain ⟨_, S, -, hf1⟩ := xe_pop hf
  obtain ⟨-, hf2⟩ := xe_cond hf1
  exact ⟨_, _, _, hf2⟩
theorem xp_astore {i : Nat} : xs_thru (xo_astore i) := by
  intro L S h k r hf
  obtain ⟨_, S, -, hf1⟩ := xe_pop hf
  obtain ⟨-, hf2⟩ := xe_cond hf1
  exact ⟨_, _, _, hf2⟩
theorem xp_lstore {i : Nat} : xs_thru (xo_lstore i) := by
  intro L S h k r hf
  obtain ⟨_, S, -, hf1⟩ := xe_pop hf
  obtain ⟨-, hf2⟩ := xe_cond hf1
  exact ⟨_, _, _, hf2⟩
theorem xp_dstore {i : Nat} : xs_thru (xo_dstore i) := by
  intro L S h k r hf
  obtain ⟨_, S, -, hf1⟩ := xe_pop hf
  obtain ⟨-, hf2⟩ := xe_cond hf1
  exact ⟨_, _, _, hf2⟩
theorem xp_iinc {i n : Nat} : xs_thru (xo_iinc i n) := by
  intro L S h k r hf
  obtain ⟨_, _, -, hf1⟩ := xe_get hf
  obtain ⟨_, -, hf2⟩ := xe_one hf1
  exact ⟨_, _, _, hf2⟩
theorem xp_bin {f : Nat → Nat → Nat} : xs_thru (xo_bin f) := by
  intro L S h k r hf
  obtain ⟨_, S, -, hf1⟩ := xe_pop hf
  obtain ⟨_, S, -, hf2⟩ := xe_pop hf1
  obtain ⟨_, -, hf3⟩ := xe_one hf2
  obtain ⟨_, -, hf4⟩ := xe_one hf3
  exact ⟨_, _, _, hf4⟩
theorem xe_ite {β : Type} {b : Bool} {x y : Option β} {r : β} (h : cond b x y = some r) : x = some r ∨ y = some r := by
  cases b with
  | true => exact Or.inl h
  | false => exact Or.inr h
theorem xp_and  : xs_thru (xo_and) := by
  intro L S h k r hf
  obtain ⟨_, S, -, hf1⟩ := xe_pop hf
  obtain ⟨_, S, -, hf2⟩ := xe_pop hf1
  obtain ⟨_, -, hf3⟩ := xe_one hf2
  rcases xe_ite hf3 with hf4 | hf4
  · obtain ⟨-, hf5⟩ := xe_cond hf4
    exact ⟨_, _, _, hf5⟩
  · obtain ⟨_, -, hf6⟩ := xe_one hf4
    exact ⟨_, _, _, hf6⟩
theorem xp_lbin {f : Nat → Nat → Nat} : xs_thru (xo_lbin f) := by
  intro L S h k r hf
  obtain ⟨_, S, -, hf1⟩ := xe_pop hf
  obtain ⟨_, S, -, hf2⟩ := xe_pop hf1
  obtain ⟨-, hf3⟩ := xe_cond hf2
  exact ⟨_, _, _, hf3⟩
theorem xp_lcmp  : xs_thru (xo_lcmp) := by
  intro L S h k r hf
  obtain ⟨_, S, -, hf1⟩ := xe_pop hf
  obtain ⟨_, S, -, hf2⟩ := xe_pop hf1
  obtain ⟨-, hf3⟩ := xe_cond hf2
  exact ⟨_, _, _, hf3⟩
theorem xp_i2l  : xs_thru (xo_i2l) := by
  intro L S h k r hf
  obtain ⟨_, S, -, hf1⟩ := xe_pop hf
  obtain ⟨_, -, hf2⟩ := xe_one hf1
  exact ⟨_, _, _, hf2⟩
theorem xp_dcmp  : xs_thru (xo_dcmp) := by
  intro L S h k r hf
  obtain ⟨_, S, -, hf1⟩ := xe_pop hf
  obtain ⟨_, S, -, hf2⟩ := xe_pop hf1
  obtain ⟨-, hf3⟩ := xe_cond hf2
  obtain ⟨-, hf4⟩ := xe_cond hf3
  exact ⟨_, _, _, hf4⟩
theorem xp_dup  : xs_thru (xo_dup) := by
  intro L S h k r hf
  obtain ⟨_, S, -, hf1⟩ := xe_pop hf
  obtain ⟨-, hf2⟩ := xe_condN hf1
  exact ⟨_, _, _, hf2⟩
theorem xp_dup2  : xs_thru (xo_dup2) := by
  intro L S h k r hf
  obtain ⟨_, S, -, hf1⟩ := xe_pop hf
  obtain ⟨_, S, -, hf2⟩ := xe_pop hf1
  obtain ⟨-, hf3⟩ := xe_condN hf2
  exact ⟨_, _, _, hf3⟩
theorem xp_dupx1  : xs_thru (xo_dupx1) := by
  intro L S h k r hf
  obtain ⟨_, S, -, hf1⟩ := xe_pop hf
  obtain ⟨_, S, -, hf2⟩ := xe_pop hf1
  obtain ⟨-, hf3⟩ := xe_condN hf2
  exact ⟨_, _, _, hf3⟩
theorem xp_pop  : xs_thru (xo_pop) := by
  intro L S h k r hf
  obtain ⟨_, S, -, hf1⟩ := xe_pop hf
  obtain ⟨-, hf2⟩ := xe_condN hf1
  exact ⟨_, _, _, hf2⟩
theorem xp_getf {ci f : Nat} : xs_thru (xo_getf ci f) := by
  intro L S h k r hf
  obtain ⟨_, S, -, hf1⟩ := xe_pop hf
  obtain ⟨-, _, _, _, -, hf2⟩ := xe_obj hf1
  obtain ⟨-, hf3⟩ := xe_cond hf2
  obtain ⟨_, -, hf4⟩ := xe_nth hf3
  exact ⟨_, _, _, hf4⟩
theorem xp_putf {ci f z : Nat} : xs_thru (xo_putf ci f z) := by
  intro L S h k r hf
  obtain ⟨_, S, -, hf1⟩ := xe_pop hf
  obtain ⟨_, S, -, hf2⟩ := xe_pop hf1
  obtain ⟨-, _, _, _, -, hf3⟩ := xe_obj hf2
  obtain ⟨-, hf4⟩ := xe_cond hf3
  obtain ⟨_, -, hf5⟩ := xe_nth hf4
  exact ⟨_, _, _, hf5⟩
theorem xp_ald {ty : Nat → Bool} : xs_thru (xo_ald ty) := by
  intro L S h k r hf
  obtain ⟨_, S, -, hf1⟩ := xe_pop hf
  obtain ⟨_, S, -, hf2⟩ := xe_pop hf1
  obtain ⟨_, -, hf3⟩ := xe_one hf2
  obtain ⟨-, _, _, _, -, hf4⟩ := xe_obj hf3
  obtain ⟨-, hf5⟩ := xe_cond hf4
  obtain ⟨_, -, hf6⟩ := xe_nth hf5
  exact ⟨_, _, _, hf6⟩
theorem xp_ast {ty : Nat → Bool} {vo : xv_V → Bool} : xs_thru (xo_ast ty vo) := by
  intro L S h k r hf
  obtain ⟨_, S, -, hf1⟩ := xe_pop hf
  obtain ⟨_, S, -, hf2⟩ := xe_pop hf1
  obtain ⟨_, S, -, hf3⟩ := xe_pop hf2
  obtain ⟨_, -, hf4⟩ := xe_one hf3
  obtain ⟨-, _, _, _, -, hf5⟩ := xe_obj hf4
  obtain ⟨-, hf6⟩ := xe_cond hf5
  obtain ⟨_, -, hf7⟩ := xe_nth hf6
  exact ⟨_, _, _, hf7⟩
theorem xp_iald {sc : List xv_V} : xs_thru (xo_iald sc) := by
  intro L S h k r hf
  obtain ⟨_, S, -, hf1⟩ := xe_pop hf
  obtain ⟨_, S, -, hf2⟩ := xe_pop hf1
  obtain ⟨_, -, hf3⟩ := xe_one hf2
  rcases xe_ite hf3 with hf4 | hf4
  · obtain ⟨-, hf5⟩ := xe_cond hf4
    obtain ⟨_, -, hf6⟩ := xe_nth hf5
    obtain ⟨-, hf7⟩ := xe_cond hf6
    exact ⟨_, _, _, hf7⟩
  · obtain ⟨-, _, _, _, -, hf8⟩ := xe_obj hf4
    obtain ⟨-, hf9⟩ := xe_cond hf8
    obtain ⟨_, -, hf10⟩ := xe_nth hf9
    exact ⟨_, _, _, hf10⟩
theorem xp_asta  : xs_thru (xo_asta) := by
  intro L S h k r hf
  obtain ⟨_, S, -, hf1⟩ := xe_pop hf
  obtain ⟨_, S, -, hf2⟩ := xe_pop hf1
  obtain ⟨_, S, -, hf3⟩ := xe_pop hf2
  obtain ⟨_, -, hf4⟩ := xe_one hf3
  obtain ⟨-, _, _, _, -, hf5⟩ := xe_obj hf4
  obtain ⟨-, hf6⟩ := xe_cond hf5
  obtain ⟨_, -, hf7⟩ := xe_nth hf6
  rcases xe_ite hf7 with hf8 | hf8
  · exact ⟨_, _, _, hf8⟩
  · obtain ⟨-, _, _, _, -, hf9⟩ := xe_obj hf8
    obtain ⟨-, hf10⟩ := xe_cond hf9
    exact ⟨_, _, _, hf10⟩
theorem xp_alen {sc : List xv_V} : xs_thru (xo_alen sc) := by
  intro L S h k r hf
  obtain ⟨_, S, -, hf1⟩ := xe_pop hf
  rcases xe_ite hf1 with hf2 | hf2
  · obtain ⟨_, -, hf3⟩ := xe_nth hf2
    obtain ⟨-, hf4⟩ := xe_cond hf3
    exact ⟨_, _, _, hf4⟩
  rcases xe_ite hf2 with hf5 | hf5
  · exact ⟨_, _, _, hf5⟩
  · obtain ⟨-, _, _, _, -, hf6⟩ := xe_obj hf5
    obtain ⟨-, hf7⟩ := xe_cond hf6
    exact ⟨_, _, _, hf7⟩
theorem xp_cast {a b : Nat} : xs_thru (xo_cast a b) := by
  intro L S h k r hf
  obtain ⟨_, S, -, hf1⟩ := xe_pop hf
  obtain ⟨-, _, _, _, -, hf2⟩ := xe_obj hf1
  obtain ⟨-, hf3⟩ := xe_cond hf2
  exact ⟨_, _, _, hf3⟩
theorem xp_oinit {d : Nat} : xs_thru (xo_oinit d) := by
  intro L S h k r hf
  obtain ⟨_, S, -, hf1⟩ := xe_pop hf
  obtain ⟨-, _, _, _, -, hf2⟩ := xe_obj hf1
  obtain ⟨-, hf3⟩ := xe_cond hf2
  exact ⟨_, _, _, hf3⟩
theorem xp_max {d : Nat} : xs_thru (xo_max d) := by
  intro L S h k r hf
  obtain ⟨_, S, -, hf1⟩ := xe_pop hf
  obtain ⟨_, S, -, hf2⟩ := xe_pop hf1
  obtain ⟨_, -, hf3⟩ := xe_one hf2
  obtain ⟨_, -, hf4⟩ := xe_one hf3
  obtain ⟨-, hf5⟩ := xe_cond hf4
  exact ⟨_, _, _, hf5⟩
/-- an instruction up to 52 -/
theorem xp_all {d op x y z : Nat} {sc : List xv_V} (h : op ≤ 52) : xs_thru (xs d op x y z sc) := by
  match op, h with
  | 0, _ => exact xp_push
  | 1, _ => exact xp_push
  | 2, _ => exact xp_push
  | 3, _ => exact xp_push
  | 4, _ => exact xp_push
  | 5, _ => exact xp_push
  | 6, _ => exact xp_iload
  | 7, _ => exact xp_iload
  | 8, _ => exact xp_aload
  | 9, _ => exact xp_aload
  | 10, _ => exact xp_lload
  | 11, _ => exact xp_lload
  | 12, _ => exact xp_dload
  | 13, _ => exact xp_dload
  | 14, _ => exact xp_istore
  | 15, _ => exact xp_istore
  | 16, _ => exact xp_astore
  | 17, _ => exact xp_astore
  | 18, _ => exact xp_lstore
  | 19, _ => exact xp_lstore
  | 20, _ => exact xp_dstore
  | 21, _ => exact xp_dstore
  | 22, _ => exact xp_iinc
  | 23, _ => exact xp_bin
  | 24, _ => exact xp_bin
  | 25, _ => exact xp_bin
  | 26, _ => exact xp_and
  | 27, _ => exact xp_bin
  | 28, _ => exact xp_bin
  | 29, _ => exact xp_i2l
  | 30, _ => exact xp_lbin
  | 31, _ => exact xp_lbin
  | 32, _ => exact xp_lcmp
  | 33, _ => exact xp_dcmp
  | 34, _ => exact xp_dup
  | 35, _ => exact xp_dup2
  | 36, _ => exact xp_dupx1
  | 37, _ => exact xp_pop
  | 38, _ => exact xp_getf
  | 39, _ => exact xp_getf
  | 40, _ => exact xp_putf
  | 41, _ => exact xp_putf
  | 42, _ => exact xp_iald
  | 43, _ => exact xp_ast
  | 44, _ => exact xp_ald
  | 45, _ => exact xp_ast
  | 46, _ => exact xp_ald
  | 47, _ => exact xp_asta
  | 48, _ => exact xp_alen
  | 49, _ => exact xp_cast
  | 50, _ => exact xp_push
  | 51, _ => exact xp_oinit
  | 52, _ => exact xp_max
  | n + 53, h => omega
