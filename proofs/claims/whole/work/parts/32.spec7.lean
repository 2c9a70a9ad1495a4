theorem prU_m1 {u : NS} (hu : nN u ≤ 5) (h : (prU u).1 = -1) : prU u = (-1, -1) := by
  rcases prU_inv u with e | ⟨i, j, hi, hj, e⟩
  · exact e
  · rw [e] at h
    have h1 := congrArg Int32.toInt h
    rw [nI_toInt (show 10 * i + j < 2 ^ 31 by omega)] at h1
    have : (-1 : Int32).toInt = -1 := by decide
    omega
theorem div10 {i j : Nat} (hi : i < 100) (hj : j < 10) : nI (10 * i + j) / 10 = nI i := by
  rw [show (10 : Int32) = nI 10 from rfl, pk_div (by omega) (by decide) (by decide)]
  congr 1
  omega
theorem rem10 {i j : Nat} (hi : i < 100) (hj : j < 10) : nI (10 * i + j) - nI (10 * i + j) / 10 * 10 = nI j := by
  rw [show (10 : Int32) = nI 10 from rfl, pk_rem (by omega) (by decide) (by decide)]
  congr 1
  omega
theorem kAbout_j {u : NS} {v : SS} {j : Nat} {a : Int32} (hj : j < nN u) (hu : nN u ≤ 5) : kAbout u v (nI j) a = abU u v j a := by
  rw [kAbout, if_pos (kn_t hj (by omega)), nI_clamp (by omega)]
theorem oI_0 {o : Option Nat} (ho : ∀ j, o = some j → j < 2 ^ 31) : oI o = 0 ↔ o = some 0 := by
  have := oI_eq (i := 0) (o := o) (by decide) ho
  rw [← this]
  exact eq_comm
theorem kSun_0 {u : NS} (h : ¬ nN u = 0) : kSunday u 0 = (prU u).1 := by
  rw [kSunday, if_pos (by decide), if_neg h, if_pos rfl]
theorem kSun_1 {u : NS} (h : ¬ nN u = 0) : kSunday u 1 = (prU u).2 := by
  rw [kSunday, if_pos (by decide), if_neg h, if_neg (by decide)]
theorem toI64_0 : (0 : Int32).toInt64 = 0 := by decide
theorem isW_001 : isW 0 0 1 = true := by decide
