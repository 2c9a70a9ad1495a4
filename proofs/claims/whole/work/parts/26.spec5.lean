theorem hrs_s {k : Nat} {u : NS} (h : 0 < k) : ph (hrs (k - 1) u) = hrs k u := by
  cases k with
  | zero => omega
  | succ k => rfl
theorem mmax_nI {a b : Nat} (ha : a < 2 ^ 31) (hb : b < 2 ^ 31) : (if nI a < nI b then nI b else nI a) = nI (max a b) := by
  by_cases h : a < b
  · rw [if_pos ((nI_ltI ha hb).mpr h), Nat.max_eq_right (by omega)]
  · rw [if_neg (fun q => h ((nI_ltI ha hb).mp q)), Nat.max_eq_left (by omega)]
theorem nI_le0 {k : Nat} (hk : k < 2 ^ 31) (h : nI k ≤ 0) : k = 0 := by
  have := (nI_leI (a := k) (b := 0) hk (by decide)).mp h
  omega
theorem nI_gt0 {k : Nat} (h : ¬ nI k ≤ 0) : 0 < k := by
  rcases Nat.eq_zero_or_pos k with e | e
  · subst e; exact absurd (by decide) h
  · exact e
def lb (x : Cx) (q : Nat → Nat) (a : Nat → Nat → Nat) (p : Int32 × Int32) : va_W := [(q 0, .inr (1, [.ref (q 1), .int p.1, .int p.2])), (q 1, .inl (x.2.2.2.2.1, 3, .inr (.inr (.inr (.inr (fun i => if i < 3 then some (a i 0) else none))))))]
theorem val_eq (f : Nat) (u w : NS) (o : Option Nat) (L : Nat) (ho : ∀ j, o = some j → j < nN u) {b : Bool} (hb : (wbU (lec (cpy u w) o) == some L) = b) : bI b + (mst f (ph (lec (cpy u w) o)) L).1 = bI (wbU (lec u o) == some L) + (mst f (ph (lec u o)) L).1 := by
  have h := (eqN_cpy u w).lE (o := o) (fun j e => by rw [nN_cpy]; exact ho j e)
  rw [← hb, h.wE, h.pE.mE f L]
