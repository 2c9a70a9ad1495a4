/-! the two readings of a page -/
theorem cAt_m {cs : Nat → Int32} {n i : Nat} (d : Nat) (h : d ≤ i) (hi : i - d < n) (hn : n < 2 ^ 31) : cAt cs n (nI i - nI d) = cs (i - d) := by
  rw [pk_sub h, cAt_in hi hn]
theorem cAt_neg {cs : Nat → Int32} {n i d : Nat} (h : i < d) (hd : d < 2 ^ 30) : cAt cs n (nI i - nI d) = 0 := by
  rw [cAt, if_neg (fun z => nlt_of_le z.1 (pk_sneg hd h))]
theorem add1_2 (a : Int32) : a + 1 - 2 = a - 1 := by
  rw [Int32.sub_eq_add_neg, Int32.add_assoc, show (1 : Int32) + -2 = -1 from rfl, ← Int32.sub_eq_add_neg]
theorem isW_sh (c : Int32) {lo hi : Nat} (hlo : lo ≤ 9) (hhi : hi ≤ 9) : isW (c - 48) (nI lo) (nI hi) = isW c (nI (lo + 48)) (nI (hi + 48)) := by
  rw [Bool.eq_iff_iff]
  constructor
  · intro h
    obtain ⟨k, h1, h2, e⟩ := isW_nat (by omega) (by omega) h
    have e2 : c = nI (k + 48) := by rw [← nI_add, ← e, show nI 48 = (48 : Int32) from rfl, Int32.sub_add_cancel]
    rw [e2, isW, decide_eq_true ((nI_leI (by omega) (by omega)).mpr (show lo + 48 ≤ k + 48 by omega)), decide_eq_true ((nI_leI (by omega) (by omega)).mpr (show k + 48 ≤ hi + 48 by omega))]; rfl
  · intro h
    obtain ⟨k, h1, h2, e⟩ := isW_nat (by omega) (by omega) h
    have e2 : c - 48 = nI (k - 48) := by rw [e]; exact pk_sub (b := 48) (by omega)
    rw [e2, isW, decide_eq_true ((nI_leI (by omega) (by omega)).mpr (show lo ≤ k - 48 by omega)), decide_eq_true ((nI_leI (by omega) (by omega)).mpr (show k - 48 ≤ hi by omega))]; rfl
theorem isW_n59 {c : Int32} {lo hi : Nat} (hhi : hi ≤ 58) (h : isW c (nI lo) (nI hi) = true) (hlo : lo < 2 ^ 31) : ¬ c = 59 := fun e => by
  obtain ⟨k, h1, h2, e2⟩ := isW_nat hlo (by omega) h
  rw [e] at e2
  have := (nI_eq (a := 59) (b := k) (by decide) (by omega)).mp e2
  omega
theorem kbl_n59 {c : Int32} (h : ¬ kbl c = -1) : ¬ c = 59 := fun e => by subst e; exact h (by decide)
theorem ffr_go {cs : Nat → Int32} {n i : Nat} : ∀ (f p : Nat), (∀ j, p ≤ j → j < i → fitB cs n j = true) → p ≤ i → p + f = n → i ≤ n → (i = n ∨ fitB cs n i = false) → ffr cs n f p = i
  | 0, p, _, h1, h2, h3, _ => by rw [ffr]; omega
  | f + 1, p, hg, h1, h2, h3, h4 => by
    rw [ffr]
    by_cases e : p = i
    · subst e
      rcases h4 with h4 | h4
      · omega
      · rw [if_neg (by rw [h4]; decide)]
    · rw [if_pos (hg p (Nat.le_refl _) (by omega))]
      exact ffr_go f (p + 1) (fun j a b => hg j (by omega) b) (by omega) (by omega) h3 h4
theorem ffr_is {cs : Nat → Int32} {n i : Nat} (hg : ∀ j, j < i → fitB cs n j = true) (h3 : i ≤ n) (h4 : i = n ∨ fitB cs n i = false) : ffr cs n n 0 = i := ffr_go n 0 (fun j _ h => hg j h) (Nat.zero_le _) (Nat.zero_add _) h3 h4
theorem ffr_all {cs : Nat → Int32} {n : Nat} : ∀ (f p : Nat), p + f = n → ffr cs n f p = n → ∀ j, p ≤ j → j < n → fitB cs n j = true
  | 0, p, h1, _, j, h2, h3 => by omega
  | f + 1, p, h1, h2, j, h3, h4 => by
    rw [ffr] at h2
    by_cases e : fitB cs n p = true
    · rw [if_pos e] at h2
      by_cases e2 : j = p
      · subst e2; exact e
      · exact ffr_all f (p + 1) (by omega) h2 j (by omega) h4
    · rw [if_neg e] at h2; omega
section
variable {cs : Nat → Int32} {n k : Nat}
/-- the page is well read up to a lodger's place -/
def rdK (cs : Nat → Int32) (n m : Nat) : Prop := 3 * m ≤ n ∧ (∀ j, j < 3 * m → fitB cs n j = true) ∧ ¬ cAt cs n (nI (3 * m) - 1) = 59 ∧ ¬ cAt cs n (nI (3 * m) - 2) = 59
theorem rd_0 (hn : n ≤ 18) : rdK cs n 0 := by
  refine ⟨Nat.zero_le _, fun j h => absurd h (Nat.not_lt_zero _), ?_, ?_⟩
  · rw [show (3 * 0) = 0 from rfl, show (1 : Int32) = nI 1 from rfl, cAt_neg (by decide) (by decide)]; decide
  · rw [show (3 * 0) = 0 from rfl, show (2 : Int32) = nI 2 from rfl, cAt_neg (by decide) (by decide)]; decide
theorem ft_0 {m : Nat} (hn : n ≤ 18) (h : rdK cs n m) : fitB cs n (3 * m) = decide (¬ kbl (cs (3 * m)) = -1) := by
  rw [fitB, if_neg h.2.2.1, if_neg h.2.2.2, if_pos (by omega)]
theorem ft_1 {m : Nat} (hn : n ≤ 18) (h : rdK cs n m) (h0 : 3 * m < n) (hk : ¬ kbl (cs (3 * m)) = -1) : fitB cs n (3 * m + 1) = isW (cs (3 * m + 1)) 48 57 := by
  have e1 : cAt cs n (nI (3 * m + 1) - 1) = cs (3 * m) := cAt_m 1 (by omega) (by omega) (by omega)
  have e2 : cAt cs n (nI (3 * m + 1) - 2) = cAt cs n (nI (3 * m) - 1) := by
    rw [← nI_1, add1_2]
  rw [fitB, e1, if_neg (kbl_n59 hk), e2, if_neg h.2.2.1, if_neg (by omega), if_pos (by omega)]
theorem ft_2 {m : Nat} (hn : n ≤ 18) (h1 : 3 * m + 1 < n) (hk : ¬ kbl (cs (3 * m)) = -1) (hw : isW (cs (3 * m + 1)) 48 57 = true) : fitB cs n (3 * m + 2) = ((decide (cs (3 * m + 2) = 44) && decide (3 * m + 2 < 14)) || (decide (cs (3 * m + 2) = 59) && decide (5 ≤ 3 * m + 2))) := by
  have e1 : cAt cs n (nI (3 * m + 2) - 1) = cs (3 * m + 1) := cAt_m 1 (by omega) (by omega) (by omega)
  have e2 : cAt cs n (nI (3 * m + 2) - 2) = cs (3 * m) := cAt_m 2 (by omega) (by omega) (by omega)
  rw [fitB, e1, if_neg (isW_n59 (lo := 48) (hi := 57) (by omega) hw (by decide)), e2, if_neg (kbl_n59 hk), if_neg (by omega), if_neg (by omega)]
theorem ft_3 {m : Nat} (hn : n ≤ 18) (h1 : 3 * m + 2 < n) (hs : cs (3 * m + 2) = 59) : fitB cs n (3 * m + 3) = isW (cs (3 * m + 3)) 49 52 := by
  have e1 : cAt cs n (nI (3 * m + 3) - 1) = cs (3 * m + 2) := cAt_m 1 (by omega) (by omega) (by omega)
  rw [fitB, e1, if_pos hs]
theorem ft_4 {m : Nat} (hn : n ≤ 18) (h1 : 3 * m + 3 < n) (hs : cs (3 * m + 2) = 59) (hw : isW (cs (3 * m + 3)) 49 52 = true) : fitB cs n (3 * m + 4) = false := by
  have e1 : cAt cs n (nI (3 * m + 4) - 1) = cs (3 * m + 3) := cAt_m 1 (by omega) (by omega) (by omega)
  have e2 : cAt cs n (nI (3 * m + 4) - 2) = cs (3 * m + 2) := cAt_m 2 (by omega) (by omega) (by omega)
  rw [fitB, e1, if_neg (isW_n59 (lo := 49) (hi := 52) (by omega) hw (by decide)), e2, if_pos hs]
theorem rd_s {m : Nat} (hn : n ≤ 18) (h : rdK cs n m) (hk : ¬ kbl (cs (3 * m)) = -1) (hw : isW (cs (3 * m + 1)) 48 57 = true) (h2 : 3 * m + 2 < n) (hc : cs (3 * m + 2) = 44) (hm : m < 4) : rdK cs n (m + 1) := by
  have f0 := ft_0 hn h
  have f1 := ft_1 hn h (by omega) hk
  have f2 := ft_2 (cs := cs) hn (by omega) hk hw
  refine ⟨by omega, fun j hj => ?_, ?_, ?_⟩
  · by_cases a : j < 3 * m
    · exact h.2.1 j a
    · by_cases b : j = 3 * m
      · subst b; rw [f0]; simp [hk]
      · by_cases c : j = 3 * m + 1
        · subst c; rw [f1, hw]
        · rw [show j = 3 * m + 2 by omega, f2]; simp [hc]; omega
  · rw [show (1 : Int32) = nI 1 from rfl, cAt_m 1 (by omega) (by omega) (by omega), show 3 * (m + 1) - 1 = 3 * m + 2 by omega, hc]; decide
  · rw [show (2 : Int32) = nI 2 from rfl, cAt_m 2 (by omega) (by omega) (by omega), show 3 * (m + 1) - 2 = 3 * m + 1 by omega]
    exact isW_n59 (lo := 48) (hi := 57) (by omega) hw (by decide)
/-- the first place where it goes wrong, and that it isn't a house -/
theorem ht_0 {m : Nat} (hn : n ≤ 18) (h : rdK cs n m) (e : 3 * m = n ∨ kbl (cs (3 * m)) = -1) : ffr cs n n 0 = 3 * m ∧ isHB cs n = false := by
  have f : ffr cs n n 0 = 3 * m := ffr_is h.2.1 h.1 (e.imp id (fun z => by rw [ft_0 hn h, z]; rfl))
  refine ⟨f, ?_⟩
  rw [isHB, f]
  by_cases c : 3 * m = n
  · have h' := h.2.2.2
    rw [c] at h'
    rw [decide_eq_false h']; rfl
  · rw [decide_eq_false c, Bool.and_false]
theorem ht_1 {m : Nat} (hn : n ≤ 18) (h : rdK cs n m) (h0 : 3 * m < n) (hk : ¬ kbl (cs (3 * m)) = -1) (e : (decide (3 * m + 1 < n) && isW (cs (3 * m + 1)) 48 57) = false) : ffr cs n n 0 = 3 * m + 1 ∧ isHB cs n = false := by
  have f0 := ft_0 hn h
  have f : ffr cs n n 0 = 3 * m + 1 := ffr_is (fun j hj => by
    by_cases a : j < 3 * m
    · exact h.2.1 j a
    · rw [show j = 3 * m by omega, f0]; simp [hk]) (by omega) (by
    by_cases c : 3 * m + 1 = n
    · exact Or.inl c
    · right
      rw [decide_eq_true (show 3 * m + 1 < n by omega), Bool.true_and] at e
      rw [ft_1 hn h h0 hk, e])
  refine ⟨f, ?_⟩
  rw [isHB, f]
  by_cases c : 3 * m + 1 = n
  · have e2 : cAt cs n (nI n - 2) = cAt cs n (nI (3 * m) - 1) := by
      rw [show nI n = nI (3 * m) + 1 from by rw [nI_1, c], add1_2]
    rw [e2, decide_eq_false h.2.2.1]; rfl
  · rw [decide_eq_false c, Bool.and_false]
theorem g_2 {m : Nat} (hn : n ≤ 18) (h : rdK cs n m) (h1 : 3 * m + 1 < n) (hk : ¬ kbl (cs (3 * m)) = -1) (hw : isW (cs (3 * m + 1)) 48 57 = true) : ∀ j, j < 3 * m + 2 → fitB cs n j = true := fun j hj => by
  have f0 := ft_0 hn h
  have f1 := ft_1 hn h (by omega) hk
  by_cases a : j < 3 * m
  · exact h.2.1 j a
  · by_cases b : j = 3 * m
    · subst b; rw [f0]; simp [hk]
    · rw [show j = 3 * m + 1 by omega, f1, hw]
theorem ht_2 {m : Nat} (hn : n ≤ 18) (h : rdK cs n m) (h1 : 3 * m + 1 < n) (hk : ¬ kbl (cs (3 * m)) = -1) (hw : isW (cs (3 * m + 1)) 48 57 = true) (e : 3 * m + 2 = n ∨ (¬ (cs (3 * m + 2) = 44 ∧ m < 4) ∧ ¬ (cs (3 * m + 2) = 59 ∧ 1 ≤ m))) : ffr cs n n 0 = 3 * m + 2 ∧ isHB cs n = false := by
  have f : ffr cs n n 0 = 3 * m + 2 := ffr_is (g_2 hn h h1 hk hw) (by omega) (e.imp id (fun z => by
    rw [ft_2 hn h1 hk hw]
    simp only [Bool.or_eq_false_iff, Bool.and_eq_false_iff, decide_eq_false_iff_not]
    refine ⟨?_, ?_⟩
    · by_cases a : cs (3 * m + 2) = 44
      · right; intro b; exact z.1 ⟨a, by omega⟩
      · exact Or.inl a
    · by_cases a : cs (3 * m + 2) = 59
      · right; intro b; exact z.2 ⟨a, by omega⟩
      · exact Or.inl a))
  refine ⟨f, ?_⟩
  rw [isHB, f]
  by_cases c : 3 * m + 2 = n
  · have e2 : cAt cs n (nI n - 2) = cs (3 * m) := by rw [← c]; exact cAt_m 2 (by omega) (by omega) (by omega)
    rw [e2, decide_eq_false (kbl_n59 hk)]; rfl
  · rw [decide_eq_false c, Bool.and_false]
theorem g_3 {m : Nat} (hn : n ≤ 18) (h : rdK cs n m) (h2 : 3 * m + 2 < n) (hk : ¬ kbl (cs (3 * m)) = -1) (hw : isW (cs (3 * m + 1)) 48 57 = true) (hs : cs (3 * m + 2) = 59) (hm : 1 ≤ m) : ∀ j, j < 3 * m + 3 → fitB cs n j = true := fun j hj => by
  by_cases a : j < 3 * m + 2
  · exact g_2 hn h (by omega) hk hw j a
  · rw [show j = 3 * m + 2 by omega, ft_2 hn (by omega) hk hw]; simp [hs]; omega
theorem ht_3 {m : Nat} (hn : n ≤ 18) (h : rdK cs n m) (h2 : 3 * m + 2 < n) (hk : ¬ kbl (cs (3 * m)) = -1) (hw : isW (cs (3 * m + 1)) 48 57 = true) (hs : cs (3 * m + 2) = 59) (hm : 1 ≤ m) (e : (decide (3 * m + 3 < n) && isW (cs (3 * m + 3)) 49 52) = false) : ffr cs n n 0 = 3 * m + 3 ∧ isHB cs n = false := by
  have f : ffr cs n n 0 = 3 * m + 3 := ffr_is (g_3 hn h h2 hk hw hs hm) (by omega) (by
    by_cases c : 3 * m + 3 = n
    · exact Or.inl c
    · right
      rw [decide_eq_true (show 3 * m + 3 < n by omega), Bool.true_and] at e
      rw [ft_3 hn h2 hs, e])
  refine ⟨f, ?_⟩
  rw [isHB, f]
  by_cases c : 3 * m + 3 = n
  · have e2 : cAt cs n (nI n - 2) = cs (3 * m + 1) := by rw [← c]; exact cAt_m 2 (by omega) (by omega) (by omega)
    rw [e2, decide_eq_false (isW_n59 (lo := 48) (hi := 57) (by omega) hw (by decide))]; rfl
  · rw [decide_eq_false c, Bool.and_false]
theorem ht_4 {m : Nat} (hn : n ≤ 18) (h : rdK cs n m) (h2 : 3 * m + 2 < n) (hk : ¬ kbl (cs (3 * m)) = -1) (hw : isW (cs (3 * m + 1)) 48 57 = true) (hs : cs (3 * m + 2) = 59) (hm : 1 ≤ m) (e : (decide (3 * m + 3 < n) && isW (cs (3 * m + 3)) 49 52) = true) : ffr cs n n 0 = 3 * m + 4 ∧ isHB cs n = decide (3 * m + 4 = n) := by
  simp only [Bool.and_eq_true, decide_eq_true_eq] at e
  have f : ffr cs n n 0 = 3 * m + 4 := ffr_is (fun j hj => by
    by_cases a : j < 3 * m + 3
    · exact g_3 hn h h2 hk hw hs hm j a
    · rw [show j = 3 * m + 3 by omega, ft_3 hn h2 hs, e.2]) (by omega) (by
    by_cases c : 3 * m + 4 = n
    · exact Or.inl c
    · exact Or.inr (ft_4 hn e.1 hs e.2))
  refine ⟨f, ?_⟩
  rw [isHB, f]
  by_cases c : 3 * m + 4 = n
  · have e2 : cAt cs n (nI n - 2) = cs (3 * m + 2) := by rw [← c]; exact cAt_m 2 (by omega) (by omega) (by omega)
    rw [e2, decide_eq_true hs, decide_eq_true c]; rfl
  · rw [decide_eq_false c, Bool.and_false]
end
/-- a house as it begins is as it may be -/
theorem okN_bgn {g : PG} (hg : g.2 ≤ 18) (h : isHB g.1 g.2 = true) (u : NS) : okN (bgn g u) := by
  obtain ⟨cs, n⟩ := g
  obtain ⟨kf, tf, sl, bf, n0, d, hh⟩ := u
  have hg : n ≤ 18 := hg
  have h : isHB cs n = true := h
  rw [isHB, Bool.and_eq_true, decide_eq_true_eq, decide_eq_true_eq] at h
  obtain ⟨h1, h2⟩ := h
  have hall := ffr_all n 0 (Nat.zero_add _) h2
  have h2n : 2 ≤ n := by
    rcases Nat.lt_or_ge n 2 with c | c
    · rw [show (2 : Int32) = nI 2 from rfl] at h1
      rw [cAt_neg c (by decide)] at h1
      exact absurd h1 (by decide)
    · exact c
  have hdig : ∀ i, i < min (n / 3) 5 → ∃ k, k < 10 ∧ mix (min (n / 3) 5) (fun j => cAt cs n (nI j * 3 + 1) - 48) tf i = nI k := fun i hi => by
    have h3 : 3 * i + 1 < n := by omega
    rw [mix_in hi]
    have e3 : cAt cs n (nI i * 3 + 1) = cs (3 * i + 1) := by
      rw [show nI i * 3 + 1 = nI (3 * i + 1) from by rw [show (3 : Int32) = nI 3 from rfl, pk_mul, nI_1, Nat.mul_comm]]
      exact cAt_in h3 (by omega)
    show ∃ k, k < 10 ∧ cAt cs n (nI i * 3 + 1) - 48 = nI k
    rw [e3]
    have hf := hall (3 * i + 1) (Nat.zero_le _) h3
    have hd : ∃ k, 48 ≤ k ∧ k ≤ 57 ∧ cs (3 * i + 1) = nI k := by
      rw [fitB] at hf
      split at hf
      · obtain ⟨k, k1, k2, k3⟩ := isW_nat (lo := 49) (hi := 52) (by decide) (by decide) hf
        exact ⟨k, by omega, by omega, k3⟩
      · split at hf
        · cases hf
        · rw [if_neg (by omega), if_pos (by omega)] at hf
          exact isW_nat (lo := 48) (hi := 57) (by decide) (by decide) hf
    obtain ⟨k, k1, k2, k3⟩ := hd
    exact ⟨k - 48, by omega, by rw [k3]; exact pk_sub (b := 48) (by omega)⟩
  refine ⟨Nat.min_le_right _ _, ?_, fun i hi => ?_, fun i hi _ => ?_⟩
  · have hf := hall (n - 1) (Nat.zero_le _) (by omega)
    have e1 : nI (n - 1) - 1 = nI n - 2 := by
      have : nI n = nI (n - 1) + 1 := by rw [nI_1, show n - 1 + 1 = n by omega]
      rw [this, add1_2]
    rw [fitB, e1, if_pos h1] at hf
    have e2 : cAt cs n (nI n - 1) = cs (n - 1) := cAt_m 1 (by omega) (by omega) (by omega)
    show ∃ e, e ≤ 4 ∧ cAt cs n (nI n - 1) - 48 = nI e
    obtain ⟨k, k1, k2, k3⟩ := isW_nat (lo := 49) (hi := 52) (by decide) (by decide) hf
    exact ⟨k - 48, by omega, by rw [e2, k3]; exact pk_sub (b := 48) (by omega)⟩
  · obtain ⟨k, hk, e⟩ := hdig i hi
    exact ⟨k, by omega, e⟩
  · obtain ⟨k, hk, e⟩ := hdig i hi
    show mix (min (n / 3) 5) (fun j => cAt cs n (nI j * 3 + 1) - 48) tf i < 10
    rw [e]
    exact (nI_ltI (a := k) (b := 10) (by omega) (by decide)).mpr hk
theorem byte_id {a : Int32} (h : isW a 32 126 = true) : vp_nar .byte (a.toInt8.toInt32) = a := by
  obtain ⟨k, h1, h2, rfl⟩ := isW_nat (lo := 32) (hi := 126) (by decide) (by decide) h
  have e : (nI k).toInt8.toInt32 = nI k := lg_i2b_small (by rw [nI_toInt (by omega)]; omega) (by rw [nI_toInt (by omega)]; omega)
  show (nI k).toInt8.toInt32.toInt8.toInt32 = nI k
  rw [e, e]
def setO (o : OS) (n : Nat) : OS := match o with
  | (_, as, sv, sd, wy, se, hh) => (n, as, sv, sd, wy, se, hh)
theorem mix_cong {α : Type} {n : Nat} {f f' g : Nat → α} (h : ∀ i, i < n → f i = f' i) : mix n f g = mix n f' g := by
  funext i
  by_cases c : i < n
  · rw [mix_in c, mix_in c, h i c]
  · rw [mix_out c, mix_out c]
theorem bgn_mod {cs : Nat → Int32} {n : Nat} (hn : n ≤ 18) (h : isHB cs n = true) (kf tf : Nat → Int32) (sl : Nat → Bool) (bf : Nat → Int32) (n0 : Nat) (d hh : Int32) : bgn (cs, n) (kf, tf, sl, bf, n0, d, hh) = (mix (min (n / 3) 5) (fun j => kbl (cs (3 * j))) kf, mix (min (n / 3) 5) (fun j => cs (3 * j + 1) - 48) tf, mix (min (n / 3) 5) (fun _ => false) sl, mix (min (n / 3) 5) (fun _ => 0) bf, min (n / 3) 5, cs (n - 1) - 48, 0) := by
  have h1 : 1 ≤ n := by
    rcases Nat.lt_or_ge n 1 with c | c
    · rw [isHB, show n = 0 by omega, show (2 : Int32) = nI 2 from rfl, cAt_neg (by decide) (by decide)] at h
      exact absurd h (by simp)
    · exact c
  have e1 : cAt cs n (nI n - 1) = cs (n - 1) := cAt_m 1 (by omega) (by omega) (by omega)
  have e3 : ∀ j, nI j * 3 = nI (3 * j) := fun j => by rw [show (3 : Int32) = nI 3 from rfl, pk_mul, Nat.mul_comm]
  have e2 : mix (min (n / 3) 5) (fun j => kbl (cAt cs n (nI j * 3))) kf = mix (min (n / 3) 5) (fun j => kbl (cs (3 * j))) kf := mix_cong (fun i hi => by
    show kbl (cAt cs n (nI i * 3)) = kbl (cs (3 * i))
    rw [e3, cAt_in (by omega) (by omega)])
  have e4 : mix (min (n / 3) 5) (fun j => cAt cs n (nI j * 3 + 1) - 48) tf = mix (min (n / 3) 5) (fun j => cs (3 * j + 1) - 48) tf := mix_cong (fun i hi => by
    show cAt cs n (nI i * 3 + 1) - 48 = cs (3 * i + 1) - 48
    rw [e3, nI_1, cAt_in (by omega) (by omega)])
  rw [bgn, e1, e2, e4]
theorem isHB_n {cs : Nat → Int32} {n : Nat} (h : isHB cs n = true) : ffr cs n n 0 = n := by
  rw [isHB, Bool.and_eq_true, decide_eq_true_eq, decide_eq_true_eq] at h
  exact h.2
theorem isHB_2 {cs : Nat → Int32} {n : Nat} (h : isHB cs n = true) : 2 ≤ n := by
  rcases Nat.lt_or_ge n 2 with c | c
  · rw [isHB, show (2 : Int32) = nI 2 from rfl, cAt_neg c (by decide)] at h
    exact absurd h (by simp)
  · exact c
