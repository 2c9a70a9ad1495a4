/-! the house as a pure state: kinds, tired, asleep, hours in bed, how many, drowse, the hour; what the calls do to it -/
abbrev NS : Type := (Nat → Int32) × (Nat → Int32) × (Nat → Bool) × (Nat → Int32) × Nat × Int32 × Int32
def nb (x : Cx) (q : Nat → Nat) (u : NS) : va_W := [(q 0, .inr (2, [.ref (q 1), .ref (q 2), .ref (q 3), .ref (q 4), .int (nI u.2.2.2.2.1), .int u.2.2.2.2.2.1, .int u.2.2.2.2.2.2])), (q 1, .inl (x.2.1, 5, .inl u.1)), (q 2, .inl (x.2.1, 5, .inl u.2.1)), (q 3, .inl (x.2.2.1, 5, .inl (fun i => bI (u.2.2.1 i)))), (q 4, .inl (x.2.1, 5, .inl u.2.2.2.1))]
abbrev PG : Type := (Nat → Int32) × Nat
def pb (x : Cx) (q : Nat → Nat) (g : PG) : va_W := [(q 0, .inr (3, [.ref (q 1), .int (nI g.2)])), (q 1, .inl (x.2.1, 18, .inl g.1))]
abbrev SS : Type := (Nat → Int32) × (Nat → Int32) × Nat
def sb (x : Cx) (q : Nat → Nat) (v : SS) : va_W := [(q 0, .inr (4, [.ref (q 1), .ref (q 2), .int (nI v.2.2)])), (q 1, .inl (x.2.1, 6, .inl v.1)), (q 2, .inl (x.2.1, 6, .inl v.2.1))]
def kn (n : Nat) (l : Int32) : Bool := decide (0 ≤ l) && decide (l < nI n)
def may (kf : Nat → Int32) (sl : Nat → Bool) (i : Nat) : Bool := !sl i && decide (¬ kf i = 1)
/-- how tired he is who has the bed so far; 10, if nobody has -/
def wbL (tf : Nat → Int32) : Option Nat → Int32
  | none => 10
  | some j => tf j
/-- the least tired of the first so many who may have the bed and are less than 10 tired -/
def wb (kf tf : Nat → Int32) (sl : Nat → Bool) : Nat → Option Nat
  | 0 => none
  | i + 1 => if may kf sl i = true ∧ tf i < wbL tf (wb kf tf sl i) then some i else wb kf tf sl i
def cntS (sl : Nat → Bool) : Nat → Nat
  | 0 => 0
  | i + 1 => cntS sl i + (if sl i = true then 1 else 0)
def sumT (tf : Nat → Int32) : Nat → Int32
  | 0 => 0
  | i + 1 => sumT tf i + tf i
def ev (h : Int32) : Int32 := if h - h / 2 * 2 = 0 then 1 else 0
def tbh (k t h : Int32) (his : Bool) : Int32 := if k = 2 then ev h else if k = 3 then (if t < 6 then 1 else 0) else if k = 4 then ev h + bI his else 1
def stT (t : Int32) : Int32 := if t < 10 then t else 10
def stS (t : Int32) (s : Bool) : Bool := if t < 10 then (if 2 < t then s else false) else true
def cT (t : Int32) : Int32 := if 0 < t - 3 then t - 3 else 0
def mix {α : Type} (n : Nat) (f g : Nat → α) : Nat → α := fun i => if i < n then f i else g i
theorem mix_0 {α : Type} (f g : Nat → α) : mix 0 f g = g := by funext i; simp [mix]
theorem mix_in {α : Type} {f g : Nat → α} {n i : Nat} (h : i < n) : mix n f g i = f i := if_pos h
theorem mix_out {α : Type} {f g : Nat → α} {n i : Nat} (h : ¬ i < n) : mix n f g i = g i := if_neg h
theorem mix_self {α : Type} {f g : Nat → α} {i : Nat} : mix i f g i = g i := if_neg (Nat.lt_irrefl i)
theorem mix_upd (f g : Nat → Int32) (i : Nat) {v : Int32} (h : v = f i) : upd (mix i f g) i v = mix (i + 1) f g := by
  funext j
  by_cases e : j = i
  · subst e; simp [upd, mix, h]
  · have : j < i ↔ j < i + 1 := by omega
    simp [upd, mix, e, this]
theorem mix_bup (f g : Nat → Bool) (i : Nat) {v : Bool} (h : v = f i) : bup (mix i f g) i v = mix (i + 1) f g := by
  funext j
  by_cases e : j = i
  · subst e; simp [bup, mix, h]
  · have : j < i ↔ j < i + 1 := by omega
    simp [bup, mix, e, this]
theorem upd_same {f : Nat → Int32} {i : Nat} {v : Int32} (h : v = f i) : upd f i v = f := by
  funext j
  by_cases e : j = i
  · subst e; simp [upd, h]
  · simp [upd, e]
theorem bup_same {f : Nat → Bool} {i : Nat} {v : Bool} (h : v = f i) : bup f i v = f := by
  funext j
  by_cases e : j = i
  · subst e; simp [bup, h]
  · simp [bup, e]
theorem upd_upd (f : Nat → Int32) (i : Nat) (u v : Int32) : upd (upd f i u) i v = upd f i v := by
  funext j
  by_cases e : j = i <;> simp [upd, e]
theorem upd_self (f : Nat → Int32) (i : Nat) (u : Int32) : upd f i u i = u := if_pos rfl
def pT1 (tf : Nat → Int32) (d : Int32) (o : Option Nat) : Nat → Int32 := match o with
  | none => tf
  | some j => upd tf j (tf j + d)
def pB (bf : Nat → Int32) (o : Option Nat) : Nat → Int32 := match o with
  | none => bf
  | some j => upd bf j (bf j + 1)
def pX (kf tf1 : Nat → Int32) (sl : Nat → Bool) (h' : Int32) (o : Option Nat) (i : Nat) : Int32 := if sl i = true then cT (tf1 i) else tf1 i + tbh (kf i) (tf1 i) h' (o == some i)
def pT (kf tf1 : Nat → Int32) (sl : Nat → Bool) (h' : Int32) (o : Option Nat) (i : Nat) : Int32 := stT (pX kf tf1 sl h' o i)
def pS (kf tf1 : Nat → Int32) (sl : Nat → Bool) (h' : Int32) (o : Option Nat) (i : Nat) : Bool := stS (pX kf tf1 sl h' o i) (sl i)
/-- an hour -/
def ph (u : NS) : NS := match u with
  | (kf, tf, sl, bf, n, d, h) => (kf, mix n (pT kf (pT1 tf d (wb kf tf sl n)) sl (h + 1) (wb kf tf sl n)) (pT1 tf d (wb kf tf sl n)), mix n (pS kf (pT1 tf d (wb kf tf sl n)) sl (h + 1) (wb kf tf sl n)) sl, pB bf (wb kf tf sl n), n, d, h + 1)
/-- coffee for one, a lecture to one (or nobody) -/
def cof (u : NS) (j : Nat) : NS := match u with
  | (kf, tf, sl, bf, n, d, h) => (kf, if sl j = true then tf else upd tf j (cT (tf j)), sl, bf, n, d, h)
def lec (u : NS) (o : Option Nat) : NS := match u, o with
  | u, none => u
  | (kf, tf, sl, bf, n, d, h), some j => if sl j = true then (kf, tf, sl, bf, n, d, h) else (kf, upd tf j (stT (tf j + 2)), bup sl j (stS (tf j + 2) (sl j)), bf, n, d, h)
def wak (u : NS) (j : Nat) (v : Int32) : NS := match u with
  | (kf, tf, sl, bf, n, d, h) => (kf, upd tf j v, bup sl j false, bf, n, d, h)
def cpy (u w : NS) : NS := match u, w with
  | (kf, tf, sl, bf, n, d, h), (kf', tf', sl', bf', _, _, _) => (mix n kf kf', mix n tf tf', mix n sl sl', mix n bf bf', n, d, h)
def wbU (u : NS) : Option Nat := match u with
  | (kf, tf, sl, _, n, _, _) => wb kf tf sl n
theorem wb_lt {kf tf : Nat → Int32} {sl : Nat → Bool} : ∀ {n j : Nat}, wb kf tf sl n = some j → j < n
  | 0, j, h => by simp [wb] at h
  | n + 1, j, h => by
    unfold wb at h
    split at h
    · simp at h; omega
    · have := wb_lt h
      omega
theorem kn_t {n j : Nat} (h : j < n) (hn : n < 2 ^ 31) : kn n (nI j) = true := by
  simp [kn, nI_pos' (show j < 2 ^ 31 by omega), nI_lt h hn]
theorem kn_m1 (n : Nat) : kn n (-1) = false := by
  have : ¬ (0 : Int32) ≤ -1 := by decide
  simp [kn, this]
theorem kn_f {n : Nat} (hn : n < 2 ^ 31) {l : Int32} (h : kn n l = true) : ∃ j : Nat, j < n ∧ l = nI j := by
  simp [kn] at h
  obtain ⟨j, hj, rfl⟩ := nI_of (x := l) (by
    have := h.1
    rw [Int32.le_iff_toInt_le] at this
    rw [Int32.lt_iff_toInt_lt]
    omega)
  exact ⟨j, (nI_ltI hj hn).mp h.2, rfl⟩
theorem oI_eq {o : Option Nat} {i : Nat} (hi : i < 2 ^ 31) (ho : ∀ j, o = some j → j < 2 ^ 31) : nI i = oI o ↔ o = some i := by
  cases o with
  | none =>
    simp only [oI, reduceCtorEq, iff_false]
    intro h
    have h1 := congrArg Int32.toInt h
    rw [nI_toInt hi] at h1
    have : (-1 : Int32).toInt = -1 := by decide
    omega
  | some j =>
    simp only [oI, Option.some.injEq]
    rw [nI_eq hi (ho j rfl)]
    exact eq_comm
theorem oI_m1 {o : Option Nat} (ho : ∀ j, o = some j → j < 2 ^ 31) : oI o = -1 ↔ o = none := by
  cases o with
  | none => simp [oI]
  | some j =>
    simp only [oI, reduceCtorEq, iff_false]
    intro h
    have h1 := congrArg Int32.toInt h
    rw [nI_toInt (ho j rfl)] at h1
    have : (-1 : Int32).toInt = -1 := by decide
    omega
