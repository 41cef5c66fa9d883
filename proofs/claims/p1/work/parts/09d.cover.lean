/-! every script is in a box -/
def xv_ENT : List xv_En := xv_e0 ++ (xv_e1 ++ (xv_e2 ++ (xv_e3 ++ (xv_e4 ++ (xv_e5 ++ (xv_e6 ++ (xv_e7 ++ (xv_e8 ++ (xv_e9 ++ (xv_e10 ++ (xv_e11 ++ (xv_e12 ++ (xv_e13)))))))))))))
def xv_C1 : List (List Nat) := [[2147483648, 2147483649, 2147483650, 2147483651, 2147483652, 2147483653], [2147483648, 2147483649, 2147483650, 2147483651, 2147483652, 2147483653], [2147483648, 2147483680], [2147483648, 2147483649], [2147483648, 2147483649], [2147483648, 2147483649, 2147483650, 2147483651, 2147483652, 2147483653, 2147483654, 2147483655, 2147483656, 2147483657, 2147483658, 2147483659, 2147483660, 2147483661, 2147483662, 2147483663, 2147483664, 2147483665, 2147483666, 2147483667], [2147483648, 2147483649], [2147483648], [2147483648, 2147483649], [2147483648, 2147483649], [2147483648, 2147483649], [2147483648, 2147483649], [2147483649, 2147486649], [], [2147483648, 2147483649, 2147483650, 2147483651, 2147483652, 2147483653, 2147483654, 2147483655, 2147483656, 2147483657, 2147483658], [2147483648], [2147483648, 2147483688], [2147483648, 2147483688], [2147483648, 2147483688], [2147483648, 2147483649, 2147483650, 2147483651, 2147483652, 2147483653, 2147483654, 2147483655, 2147483656, 2147483657, 2147483658, 2147483659, 2147483660, 2147483661, 2147483662], [], [2147483648, 2147483649, 2147483650, 2147483651, 2147483652, 2147483653, 2147483654, 2147483655, 2147483656, 2147483657, 2147483658], [2147483649, 2147486649], [2147483648], [2147483648, 2147483649], [], [], [], [], [], [], []]
theorem xv_cov : ∀ k, k < 32 → (xv_ENT.filter (fun t => Nat.beq t.1 k)).map (fun t => t.2.1) = xv_parts (xv_C1.getD k []) 0 := by decide +kernel
theorem xv_partsOf (x : Int32) : ∀ (cs : List Nat) (lo : Nat), lo ≤ xb x → ∃ q ∈ xv_parts cs lo, ∀ E : xm_E, xm_V E [] q (.int x)
  | [], lo, h => ⟨(0, lo, 4294967295), List.mem_cons_self, fun _ => Or.inl ⟨rfl, h, by have := xb_lt x; show xb x ≤ 4294967295; omega⟩⟩
  | c :: cs, lo, h => by
    by_cases hc : xb x < c
    · exact ⟨(0, lo, c - 1), List.mem_cons_self, fun _ => Or.inl ⟨rfl, h, by show xb x ≤ c - 1; omega⟩⟩
    · obtain ⟨q, h1, h2⟩ := xv_partsOf x cs c (Nat.not_lt.mp hc)
      exact ⟨q, List.mem_cons_of_mem _ h1, h2⟩
theorem xv_and31 (x : Int32) : ∃ k, k < 32 ∧ x &&& 31 = Int32.ofNat k := by
  have h1 : (x &&& 31).toBitVec.toNat < 32 := by
    have h2 : (x &&& 31).toBitVec = x.toBitVec &&& (31 : Int32).toBitVec := rfl
    rw [h2, BitVec.toNat_and]
    exact Nat.lt_of_le_of_lt Nat.and_le_right (by decide)
  refine ⟨(x &&& 31).toBitVec.toNat, h1, ?_⟩
  generalize x &&& 31 = y
  apply Int32.toBitVec_inj.mp
  apply BitVec.eq_of_toNat_eq
  show y.toBitVec.toNat = (Int32.ofNat y.toBitVec.toNat).toBitVec.toNat
  rw [Int32.toBitVec_ofNat', BitVec.toNat_ofNat, Nat.mod_eq_of_lt y.toBitVec.isLt]
theorem xv_all : ∃ (r : xv_R), xv_p1 = some r ∧ r.1 = 9 ∧ r.2.2.2.1 ≤ 600000 ∧ r.2.2.2.2 ≤ 7300000 ∧ (∀ t ∈ xv_ENT, xv_ent r.2.2.1 r.2.2.2.1 r.2.2.2.2 t = true) ∧ ∀ n, n < 5 → xv_short r.2.2.1 r.2.2.2.1 r.2.2.2.2 n = true := by
  obtain ⟨r, h1, h2, h3, h4, h5⟩ := xv_runOf xv_gs
  refine ⟨r, h1, h2, h3, h4, ?_, ?_⟩
  · have hg : ∀ {f : List xv_O → Nat → Nat → Bool}, xv_run f = true → f r.2.2.1 r.2.2.2.1 r.2.2.2.2 = true := by
      intro f hf
      obtain ⟨r2, g1, -, -, -, g2⟩ := xv_runOf hf
      rw [h1] at g1
      cases g1
      exact g2
    intro t ht
    rcases List.mem_append.mp ht with ht | ht
    · exact List.all_eq_true.mp (hg xv_g0) t ht
    rcases List.mem_append.mp ht with ht | ht
    · exact List.all_eq_true.mp (hg xv_g1) t ht
    rcases List.mem_append.mp ht with ht | ht
    · exact List.all_eq_true.mp (hg xv_g2) t ht
    rcases List.mem_append.mp ht with ht | ht
    · exact List.all_eq_true.mp (hg xv_g3) t ht
    rcases List.mem_append.mp ht with ht | ht
    · exact List.all_eq_true.mp (hg xv_g4) t ht
    rcases List.mem_append.mp ht with ht | ht
    · exact List.all_eq_true.mp (hg xv_g5) t ht
    rcases List.mem_append.mp ht with ht | ht
    · exact List.all_eq_true.mp (hg xv_g6) t ht
    rcases List.mem_append.mp ht with ht | ht
    · exact List.all_eq_true.mp (hg xv_g7) t ht
    rcases List.mem_append.mp ht with ht | ht
    · exact List.all_eq_true.mp (hg xv_g8) t ht
    rcases List.mem_append.mp ht with ht | ht
    · exact List.all_eq_true.mp (hg xv_g9) t ht
    rcases List.mem_append.mp ht with ht | ht
    · exact List.all_eq_true.mp (hg xv_g10) t ht
    rcases List.mem_append.mp ht with ht | ht
    · exact List.all_eq_true.mp (hg xv_g11) t ht
    rcases List.mem_append.mp ht with ht | ht
    · exact List.all_eq_true.mp (hg xv_g12) t ht
    exact List.all_eq_true.mp (hg xv_g13) t ht
  · intro n hn
    refine List.all_eq_true.mp h5 n ?_
    rcases (show n = 0 ∨ n = 1 ∨ n = 2 ∨ n = 3 ∨ n = 4 by omega) with rfl | rfl | rfl | rfl | rfl <;> decide
