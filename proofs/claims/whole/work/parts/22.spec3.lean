/-! the page and what is seen -/
def cAt (cs : Nat → Int32) (n : Nat) (p : Int32) : Int32 := if 0 ≤ p ∧ p < nI n then cs p.toNatClampNeg else 0
theorem cAt_in {cs : Nat → Int32} {n i : Nat} (h : i < n) (hn : n < 2 ^ 31) : cAt cs n (nI i) = cs i := by
  rw [cAt, if_pos ⟨nI_pos' (by omega), nI_lt h hn⟩, nI_clamp (by omega)]
def fitB (cs : Nat → Int32) (n i : Nat) : Bool :=
  if cAt cs n (nI i - 1) = 59 then isW (cs i) 49 52
  else if cAt cs n (nI i - 2) = 59 then false
  else if i % 3 = 0 then decide (¬ kbl (cs i) = -1)
  else if i % 3 = 1 then isW (cs i) 48 57
  else (decide (cs i = 44) && decide (i < 14)) || (decide (cs i = 59) && decide (5 ≤ i))
def ffr (cs : Nat → Int32) (n : Nat) : Nat → Nat → Nat
  | 0, _ => n
  | f + 1, i => if fitB cs n i = true then ffr cs n f (i + 1) else i
theorem ffr_le (cs : Nat → Int32) (n : Nat) : ∀ f i, i + f ≤ n → ffr cs n f i ≤ n
  | 0, _, _ => Nat.le_refl _
  | f + 1, i, h => by
    unfold ffr
    split
    · exact ffr_le cs n f (i + 1) (by omega)
    · omega
def isHB (cs : Nat → Int32) (n : Nat) : Bool := decide (cAt cs n (nI n - 2) = 59) && decide (ffr cs n n 0 = n)
def alr (hs wh : Nat → Int32) (b w : Int32) : Nat → Nat → Bool
  | 0, _ => true
  | f + 1, i => if hs i = b ∧ ¬ wh i = w then false else alr hs wh b w f (i + 1)
/-- a house as it begins -/
def bgn (g : PG) (u : NS) : NS := match g, u with
  | (cs, n), (kf, tf, sl, bf, _, _, _) => (mix (min (n / 3) 5) (fun j => kbl (cAt cs n (nI j * 3))) kf, mix (min (n / 3) 5) (fun j => cAt cs n (nI j * 3 + 1) - 48) tf, mix (min (n / 3) 5) (fun _ => false) sl, mix (min (n / 3) 5) (fun _ => 0) bf, min (n / 3) 5, cAt cs n (nI n - 1) - 48, 0)
theorem fl_app (a b : List va_W) : fl a ++ fl b = fl (a ++ b) := by simp [fl]
theorem pk_rem3 (i : Nat) (h : i < 2 ^ 31) : nI i - nI i / 3 * 3 = nI (i % 3) := pk_rem (d := 3) h (by decide) (by decide)
theorem pk_div3 (i : Nat) (h : i < 2 ^ 31) : nI i / 3 = nI (i / 3) := pk_div (d := 3) h (by decide) (by decide)
theorem nI_ne {i c : Nat} (hi : i < 2 ^ 31) (hc : c < 2 ^ 31) (h : ¬ nI i = nI c) : ¬ i = c := fun e => h (by rw [e])
