/-! all methods -/
theorem xk_all (k : Nat) (g : List xv_M) (t : xv_M) (hg : xg_MT[k / 16]? = some g) (ht : g[k % 16]? = some t) : xg_okM k t := by
  have hk : k = 16 * (k / 16) + k % 16 := (Nat.div_add_mod k 16).symm
  generalize k / 16 = q at hg hk
  generalize k % 16 = i at ht hk
  subst hk
  match q, hg with
  | 0, hg => cases hg; exact xk_g0 i t ht
  | 1, hg => cases hg; exact xk_g1 i t ht
  | 2, hg => cases hg; exact xk_g2 i t ht
  | 3, hg => cases hg; exact xk_g3 i t ht
  | 4, hg => cases hg; exact xk_g4 i t ht
  | 5, hg => cases hg; exact xk_g5 i t ht
  | 6, hg => cases hg; exact xk_g6 i t ht
  | 7, hg => cases hg; exact xk_g7 i t ht
  | 8, hg => cases hg; exact xk_g8 i t ht
  | 9, hg => cases hg; exact xk_g9 i t ht
  | 10, hg => cases hg; exact xk_g10 i t ht
  | 11, hg => cases hg; exact xk_g11 i t ht
  | q + 12, hg => cases hg
