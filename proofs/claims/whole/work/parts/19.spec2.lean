/-! more of the house: keeping the bed, Sundays -/
theorem wb_f {kf tf : Nat → Int32} {sl : Nat → Bool} {i : Nat} (h : may kf sl i = false) : wb kf tf sl (i + 1) = wb kf tf sl i := by
  rw [wb, if_neg (fun e => by rw [h] at e; cases e.1)]
theorem wb_y {kf tf : Nat → Int32} {sl : Nat → Bool} {i : Nat} (h : may kf sl i = true) (h1 : ¬ wbL tf (wb kf tf sl i) ≤ tf i) : wb kf tf sl (i + 1) = some i := by
  rw [wb, if_pos ⟨h, lt_of_nle h1⟩]
theorem wb_z {kf tf : Nat → Int32} {sl : Nat → Bool} {i : Nat} (h1 : wbL tf (wb kf tf sl i) ≤ tf i) : wb kf tf sl (i + 1) = wb kf tf sl i := by
  rw [wb, if_neg (fun e => nlt_of_le h1 e.2)]
theorem wb_n {kf tf : Nat → Int32} {sl : Nat → Bool} {i : Nat} (h : may kf sl i = true) (h0 : wb kf tf sl i = none) (h1 : tf i < 10) : wb kf tf sl (i + 1) = some i := by
  rw [wb, if_pos ⟨h, by rw [h0]; exact h1⟩]
theorem wb_l {kf tf : Nat → Int32} {sl : Nat → Bool} {i j : Nat} (h : may kf sl i = true) (h0 : wb kf tf sl i = some j) (h1 : ¬ tf j ≤ tf i) : wb kf tf sl (i + 1) = some i := by
  rw [wb, if_pos ⟨h, by rw [h0]; exact lt_of_nle h1⟩]
theorem wb_g {kf tf : Nat → Int32} {sl : Nat → Bool} {i j : Nat} (h : may kf sl i = true) (h0 : wb kf tf sl i = some j) (h1 : tf j ≤ tf i) : wb kf tf sl (i + 1) = some j := by
  rw [wb, if_neg (fun e => by rw [h0] at e; exact nlt_of_le h1 e.2), h0]
theorem may_sl {kf : Nat → Int32} {sl : Nat → Bool} {i : Nat} (h : may kf sl i = true) : sl i = false := by
  cases e : sl i with
  | false => rfl
  | true => rw [may, e] at h; cases h
def nN (u : NS) : Nat := u.2.2.2.2.1
def kb : Nat → NS → Nat → Bool
  | 0, u, j => wbU u == some j
  | m + 1, u, j => (wbU u == some j) && kb m (ph u) j
theorem kb_f {m : Nat} {u : NS} {j : Nat} (h : ¬ wbU u = some j) : kb m u j = false := by
  cases m <;> simp [kb, h]
theorem kb_t {m : Nat} {u : NS} {j : Nat} (h : wbU u = some j) : kb (m + 1) u j = kb m (ph u) j := by simp [kb, h]
theorem wbU_lt {u : NS} {j : Nat} (h : wbU u = some j) : j < nN u := by
  obtain ⟨kf, tf, sl, bf, n, d, h'⟩ := u
  exact wb_lt h
theorem nN_ph (u : NS) : nN (ph u) = nN u := by obtain ⟨kf, tf, sl, bf, n, d, h⟩ := u; rfl
def awk (k h : Int32) : Nat → Nat → Int32 → Nat
  | 0, _, _ => 60
  | f + 1, p, t => if t + tbh k t (h + nI p) true < 10 then awk k h f (p + 1) (t + tbh k t (h + nI p) true) else p
theorem awk_le (k h : Int32) : ∀ (f p : Nat) (t : Int32), p + f ≤ 61 → awk k h f p t ≤ 60
  | 0, _, _, _ => Nat.le_refl _
  | f + 1, p, t, hp => by
    unfold awk
    split
    · exact awk_le k h f (p + 1) _ (by omega)
    · omega
def tog (kf tf : Nat → Int32) (h : Int32) (a b : Nat) : Nat := min (awk (kf a) h 60 1 (tf a)) (awk (kf b) h 60 1 (tf b))
theorem mmin_nI {a b : Nat} (ha : a < 2 ^ 31) (hb : b < 2 ^ 31) : (if nI b < nI a then nI b else nI a) = nI (min a b) := by
  by_cases h : b < a
  · rw [if_pos ((nI_ltI hb ha).mpr h), Nat.min_eq_right (by omega)]
  · rw [if_neg (fun q => h ((nI_ltI hb ha).mp q)), Nat.min_eq_left (by omega)]
def itr {σ : Type} (f : Nat → σ → σ) : Nat → Nat → σ → σ
  | 0, _, s => s
  | c + 1, b, s => itr f c (b + 1) (f b s)
theorem itr_go {σ : Type} {f : Nat → σ → σ} {n b : Nat} {s : σ} (h : b < n) : itr f (n - b) b s = itr f (n - (b + 1)) (b + 1) (f b s) := by
  rw [show n - b = (n - (b + 1)) + 1 by omega]; rfl
theorem itr_end {σ : Type} {f : Nat → σ → σ} {n b : Nat} {s : σ} (h : n ≤ b) : itr f (n - b) b s = s := by
  rw [show n - b = 0 by omega]; rfl
def prS (kf tf : Nat → Int32) (sl : Nat → Bool) (h : Int32) (a b : Nat) (s : Int32 × Int32) : Int32 × Int32 := if may kf sl a = true ∧ may kf sl b = true ∧ ¬ nI (tog kf tf h a b) ≤ s.2 then (nI (10 * a + b), nI (tog kf tf h a b)) else s
def prO (kf tf : Nat → Int32) (sl : Nat → Bool) (n : Nat) (h : Int32) (a : Nat) (s : Int32 × Int32) : Int32 × Int32 := itr (prS kf tf sl h a) (n - (a + 1)) (a + 1) s
/-- the two who are awake longest, and for how long -/
def prU (u : NS) : Int32 × Int32 := match u with
  | (kf, tf, sl, _, n, _, h) => itr (prO kf tf sl n h) n 0 (-1, -1)
theorem m1_nI {k : Nat} (h : k < 2 ^ 31) : (-1 : Int32) ≤ nI k := by
  rw [Int32.le_iff_toInt_le, nI_toInt h]
  have : (-1 : Int32).toInt = -1 := by decide
  omega
theorem m1_tog (kf tf : Nat → Int32) (h : Int32) (a b : Nat) : (-1 : Int32) ≤ nI (tog kf tf h a b) := by
  refine m1_nI ?_
  have := awk_le (kf a) h 60 1 (tf a) (by omega)
  rw [tog]
  omega
theorem itr_inv {σ : Type} {f : Nat → σ → σ} (I : σ → Prop) : ∀ (c b : Nat) (s : σ), I s → (∀ i s, b ≤ i → i < b + c → I s → I (f i s)) → I (itr f c b s)
  | 0, _, _, h, _ => h
  | c + 1, b, s, h, hf => itr_inv I c (b + 1) (f b s) (hf b s (Nat.le_refl _) (by omega) h) (fun i s h1 h2 h3 => hf i s (by omega) (by omega) h3)
theorem prO_ge {kf tf : Nat → Int32} {sl : Nat → Bool} {n : Nat} {h : Int32} {a : Nat} {s : Int32 × Int32} (hs : -1 ≤ s.2) : -1 ≤ (prO kf tf sl n h a s).2 := by
  refine itr_inv (fun s : Int32 × Int32 => (-1 : Int32) ≤ s.2) _ _ _ hs (fun b s _ _ h3 => ?_)
  show (-1 : Int32) ≤ (prS kf tf sl h a b s).2
  rw [prS]
  split
  · exact m1_tog kf tf h a b
  · exact h3
def eX (r : Int32) (Pw : va_W → Prop) : Option Value → va_W → Prop := fun v ws => v = some (.int r) ∧ Pw ws
theorem eXB_fit {b : Bool} {Pw : va_W → Prop} : ∀ v ws, eX (bI b) Pw v ws → retFit (some .boolean) v := fun v ws h => Or.inr (Or.inl ⟨.boolean, bI b, rfl, h.1, nar_bI b⟩)
theorem eXI_fit {r : Int32} {Pw : va_W → Prop} : ∀ v ws, eX r Pw v ws → retFit (some .int) v := fun v ws h => Or.inr (Or.inl ⟨.int, r, rfl, h.1, rfl⟩)
/-- a night of some state, with as many lodgers -/
def anyN (x : Cx) (q : Nat → Nat) : va_W → Prop := fun w => ∃ u : NS, nN u ≤ 5 ∧ w = nb x q u
