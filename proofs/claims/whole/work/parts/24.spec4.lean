/-! two houses that agree as far as there are lodgers; what is guessed; lectures -/
def eqN (u v : NS) : Prop := u.2.2.2.2 = v.2.2.2.2 ∧ ∀ i, i < nN u → u.1 i = v.1 i ∧ u.2.1 i = v.2.1 i ∧ u.2.2.1 i = v.2.2.1 i ∧ u.2.2.2.1 i = v.2.2.2.1 i
theorem eqN.rf (u : NS) : eqN u u := ⟨rfl, fun _ _ => ⟨rfl, rfl, rfl, rfl⟩⟩
theorem eqN.nE {u v : NS} (h : eqN u v) : nN u = nN v := congrArg (·.1) h.1
theorem eqN.symm {u v : NS} (h : eqN u v) : eqN v u := ⟨h.1.symm, fun i hi => by
  obtain ⟨a, b, c, d⟩ := h.2 i (by rw [h.nE]; exact hi)
  exact ⟨a.symm, b.symm, c.symm, d.symm⟩⟩
theorem eqN.trans {u v w : NS} (h : eqN u v) (g : eqN v w) : eqN u w := ⟨h.1.trans g.1, fun i hi => by
  obtain ⟨a, b, c, d⟩ := h.2 i hi
  obtain ⟨a', b', c', d'⟩ := g.2 i (by rw [← h.nE]; exact hi)
  exact ⟨a.trans a', b.trans b', c.trans c', d.trans d'⟩⟩
theorem may_cong {kf kf' : Nat → Int32} {sl sl' : Nat → Bool} {i : Nat} (h1 : kf i = kf' i) (h2 : sl i = sl' i) : may kf sl i = may kf' sl' i := by rw [may, may, h1, h2]
theorem wb_cong {kf tf kf' tf' : Nat → Int32} {sl sl' : Nat → Bool} : ∀ {n : Nat}, (∀ i, i < n → kf i = kf' i ∧ tf i = tf' i ∧ sl i = sl' i) → wb kf tf sl n = wb kf' tf' sl' n
  | 0, _ => rfl
  | n + 1, h => by
    have ih := wb_cong (n := n) (fun i hi => h i (by omega))
    obtain ⟨a, b, c⟩ := h n (by omega)
    have e : wbL tf (wb kf tf sl n) = wbL tf' (wb kf tf sl n) := by
      cases hw : wb kf tf sl n with
      | none => rfl
      | some j =>
        have hj := wb_lt hw
        exact (h j (by omega)).2.1
    rw [wb, wb, ← ih, may_cong a c, ← e, b]
theorem eqN.wE {u v : NS} (h : eqN u v) : wbU u = wbU v := by
  obtain ⟨kf, tf, sl, bf, n, d, h'⟩ := u
  obtain ⟨kf2, tf2, sl2, bf2, n2, d2, h2⟩ := v
  obtain ⟨h1, h3⟩ := h
  cases h1
  exact wb_cong (fun i hi => ⟨(h3 i hi).1, (h3 i hi).2.1, (h3 i hi).2.2.1⟩)
theorem eqN_cpy (u w : NS) : eqN (cpy u w) u := by
  obtain ⟨kf, tf, sl, bf, n, d, h'⟩ := u
  obtain ⟨kf2, tf2, sl2, bf2, n2, d2, h2⟩ := w
  exact ⟨rfl, fun i hi => ⟨mix_in hi, mix_in hi, mix_in hi, mix_in hi⟩⟩
theorem upd_cong {f g : Nat → Int32} {i j : Nat} {v w : Int32} (h : f i = g i) (hv : v = w) : upd f j v i = upd g j w i := by
  by_cases e : i = j
  · subst e; simp [upd, hv]
  · simp [upd, e, h]
theorem bup_cong {f g : Nat → Bool} {i j : Nat} {v w : Bool} (h : f i = g i) (hv : v = w) : bup f j v i = bup g j w i := by
  by_cases e : i = j
  · subst e; simp [bup, hv]
  · simp [bup, e, h]
theorem eqN.pE {u v : NS} (h : eqN u v) : eqN (ph u) (ph v) := by
  obtain ⟨kf, tf, sl, bf, n, d, h'⟩ := u
  obtain ⟨kf2, tf2, sl2, bf2, n2, d2, h2⟩ := v
  have hw := h.wE
  obtain ⟨h1, h3⟩ := h
  cases h1
  have hw : wb kf tf sl n = wb kf2 tf2 sl2 n := hw
  refine ⟨(rfl : ((n, d, h' + 1) : Nat × Int32 × Int32) = (n, d, h' + 1)), fun i hi => ?_⟩
  have hi : i < n := hi
  obtain ⟨a, b, c, e⟩ := h3 i hi
  have a : kf i = kf2 i := a
  have b : tf i = tf2 i := b
  have c : sl i = sl2 i := c
  have e : bf i = bf2 i := e
  have t1 : pT1 tf d (wb kf tf sl n) i = pT1 tf2 d (wb kf2 tf2 sl2 n) i := by
    rw [← hw]
    cases ho : wb kf tf sl n with
    | none => exact b
    | some j => exact upd_cong b (by rw [show tf j = tf2 j from (h3 j (wb_lt ho)).2.1])
  have t2 : pX kf (pT1 tf d (wb kf tf sl n)) sl (h' + 1) (wb kf tf sl n) i = pX kf2 (pT1 tf2 d (wb kf2 tf2 sl2 n)) sl2 (h' + 1) (wb kf2 tf2 sl2 n) i := by
    rw [pX, pX, t1, a, c, ← hw]
  refine ⟨a, ?_, ?_, ?_⟩
  · show mix n _ _ i = mix n _ _ i
    rw [mix_in hi, mix_in hi, pT, pT, t2]
  · show mix n _ _ i = mix n _ _ i
    rw [mix_in hi, mix_in hi, pS, pS, t2, c]
  · show pB bf (wb kf tf sl n) i = pB bf2 (wb kf2 tf2 sl2 n) i
    rw [← hw]
    cases ho : wb kf tf sl n with
    | none => exact e
    | some j => exact upd_cong e (by rw [show bf j = bf2 j from (h3 j (wb_lt ho)).2.2.2])
theorem eqN.cE {u v : NS} (h : eqN u v) {j : Nat} (hj : j < nN u) : eqN (cof u j) (cof v j) := by
  obtain ⟨kf, tf, sl, bf, n, d, h'⟩ := u
  obtain ⟨kf2, tf2, sl2, bf2, n2, d2, h2⟩ := v
  obtain ⟨h1, h3⟩ := h
  cases h1
  refine ⟨(rfl : ((n, d, h') : Nat × Int32 × Int32) = (n, d, h')), fun i hi => ?_⟩
  obtain ⟨a, b, c, e⟩ := h3 i hi
  obtain ⟨a', b', c', e'⟩ := h3 j hj
  have b : tf i = tf2 i := b
  have b' : tf j = tf2 j := b'
  have c' : sl j = sl2 j := c'
  refine ⟨a, ?_, c, e⟩
  show (if sl j = true then tf else upd tf j (cT (tf j))) i = (if sl2 j = true then tf2 else upd tf2 j (cT (tf2 j))) i
  rw [← c']
  split
  · exact b
  · exact upd_cong b (by rw [b'])
theorem nN_lec (u : NS) (o : Option Nat) : nN (lec u o) = nN u := by
  obtain ⟨kf, tf, sl, bf, n, d, h'⟩ := u
  cases o with
  | none => rfl
  | some j => show nN (if sl j = true then _ else _) = _; split <;> rfl
theorem nN_cof (u : NS) (j : Nat) : nN (cof u j) = nN u := by obtain ⟨kf, tf, sl, bf, n, d, h'⟩ := u; rfl
theorem nN_wak (u : NS) (j : Nat) (v : Int32) : nN (wak u j v) = nN u := by obtain ⟨kf, tf, sl, bf, n, d, h'⟩ := u; rfl
theorem nN_cpy (u w : NS) : nN (cpy u w) = nN u := by obtain ⟨kf, tf, sl, bf, n, d, h'⟩ := u; obtain ⟨kf2, tf2, sl2, bf2, n2, d2, h2⟩ := w; rfl
theorem eqN.lE {u v : NS} (h : eqN u v) {o : Option Nat} (ho : ∀ j, o = some j → j < nN u) : eqN (lec u o) (lec v o) := by
  cases o with
  | none =>
    obtain ⟨kf, tf, sl, bf, n, d, h'⟩ := u
    obtain ⟨kf2, tf2, sl2, bf2, n2, d2, h2⟩ := v
    exact h
  | some j =>
    have hj := ho j rfl
    obtain ⟨kf, tf, sl, bf, n, d, h'⟩ := u
    obtain ⟨kf2, tf2, sl2, bf2, n2, d2, h2⟩ := v
    obtain ⟨h1, h3⟩ := h
    cases h1
    obtain ⟨a', b', c', e'⟩ := h3 j hj
    have b' : tf j = tf2 j := b'
    have c' : sl j = sl2 j := c'
    show eqN (if sl j = true then _ else _) (if sl2 j = true then _ else _)
    rw [← c']
    split
    · exact ⟨(rfl : ((n, d, h') : Nat × Int32 × Int32) = (n, d, h')), h3⟩
    · refine ⟨(rfl : ((n, d, h') : Nat × Int32 × Int32) = (n, d, h')), fun i hi => ?_⟩
      obtain ⟨a, b, c, e⟩ := h3 i hi
      exact ⟨a, upd_cong b (by rw [b']), bup_cong c (by rw [b', c']), e⟩
theorem eqN.kE {u v : NS} (h : eqN u v) (j : Nat) (t : Int32) : eqN (wak u j t) (wak v j t) := by
  obtain ⟨kf, tf, sl, bf, n, d, h'⟩ := u
  obtain ⟨kf2, tf2, sl2, bf2, n2, d2, h2⟩ := v
  obtain ⟨h1, h3⟩ := h
  cases h1
  refine ⟨(rfl : ((n, d, h') : Nat × Int32 × Int32) = (n, d, h')), fun i hi => ?_⟩
  obtain ⟨a, b, c, e⟩ := h3 i hi
  exact ⟨a, upd_cong b rfl, bup_cong c rfl, e⟩
theorem eqN.bE {u v : NS} {j : Nat} : ∀ {m : Nat}, eqN u v → kb m u j = kb m v j := by
  intro m
  induction m generalizing u v with
  | zero => intro h; rw [kb, kb, h.wE]
  | succ m ih => intro h; rw [kb, kb, h.wE, ih h.pE]
def hrs : Nat → NS → NS
  | 0, u => u
  | k + 1, u => ph (hrs k u)
theorem eqN.hE {u v : NS} (h : eqN u v) : ∀ k, eqN (hrs k u) (hrs k v)
  | 0 => h
  | k + 1 => (eqN.hE h k).pE
theorem nN_hrs (u : NS) : ∀ k, nN (hrs k u) = nN u
  | 0 => rfl
  | k + 1 => (nN_ph _).trans (nN_hrs u k)
/-- whose the bed is behind k hours, were one as tired as t -/
def bed (u : NS) (l t k : Nat) : Int32 := oI (wbU (hrs k (wak u l (nI t))))
theorem eqN.dE {u v : NS} (h : eqN u v) (l t k : Nat) : bed u l t k = bed v l t k := by
  rw [bed, bed, ((h.kE l (nI t)).hE k).wE]
/-- is all seen so far as the beds say, for k looks -/
def soB (v : SS) (b : Nat → Int32) : Nat → Bool
  | 0 => true
  | k + 1 => soB v b k && alr v.1 v.2.1 (nI k) (b k) v.2.2 0
def btF (so : Nat → Bool) : Nat → Int32
  | 0 => 0
  | t + 1 => if so t = true then btF so t ||| (1 <<< (nI t &&& 31)) else btF so t
def bitsU (u : NS) (v : SS) (l : Nat) : Int32 := btF (fun t => soB v (bed u l t) 13) 10
def lefB (bits : Int32) (B : Nat → Int32) (w : Int32) : Nat → Nat
  | 0 => 0
  | t + 1 => lefB bits B w t + (if (bits >>> (nI t &&& 31)) &&& 1 = 1 ∧ B t = w then 1 else 0)
theorem lefB_le (bits : Int32) (B : Nat → Int32) (w : Int32) : ∀ t, lefB bits B w t ≤ t
  | 0 => Nat.le_refl _
  | t + 1 => by
    have := lefB_le bits B w t
    unfold lefB
    split <;> omega
def oc (c : Nat) : Option Nat := match c with
  | 0 => none
  | c + 1 => some c
theorem oc_inc (c : Nat) : oI (oc c) + 1 = oI (oc (c + 1)) := by
  cases c with
  | zero => decide
  | succ c => exact nI_1 c
theorem oc_ge {c n : Nat} (hc : c < 2 ^ 31) (hn : n < 2 ^ 31) : nI n ≤ oI (oc c) ↔ n + 1 ≤ c := by
  cases c with
  | zero =>
    constructor
    · intro h
      have h1 : (nI n).toInt ≤ (-1 : Int32).toInt := Int32.le_iff_toInt_le.mp h
      rw [nI_toInt hn] at h1
      have : (-1 : Int32).toInt = -1 := by decide
      omega
    · intro h; omega
  | succ c => exact (nI_leI hn (by omega)).trans (by omega)
theorem oc_eq {c l : Nat} (hc : c < 2 ^ 31) (hl : l < 2 ^ 31) : oI (oc c) = nI l ↔ c = l + 1 := by
  cases c with
  | zero =>
    rw [eq_comm, oI_eq hl (fun j e => by cases e)]
    simp [oc]
  | succ c => exact (nI_eq (by omega) hl).trans (by omega)
/-- the most that are left behind a look, over whoever may have the bed: c of them gone through -/
def worB (bits : Int32) (B : Nat → Int32) : Nat → Nat
  | 0 => 0
  | c + 1 => max (worB bits B c) (lefB bits B (oI (oc c)) 10)
theorem worB_le (bits : Int32) (B : Nat → Int32) : ∀ c, worB bits B c ≤ 10
  | 0 => by simp [worB]
  | c + 1 => by
    have h1 := worB_le bits B c
    have h2 := lefB_le bits B (oI (oc c)) 10
    unfold worB
    omega
/-- best look so far and how few it leaves, from look k on -/
def lokS (bits : Int32) (B : Nat → Nat → Int32) (n : Nat) (k : Nat) (s : Int32 × Nat) : Int32 × Nat := if worB bits (fun t => B t k) (n + 1) < s.2 then (nI k, worB bits (fun t => B t k) (n + 1)) else s
def lokB (bits : Int32) (B : Nat → Nat → Int32) (n : Nat) : Int32 := if bits = 0 then -1 else (itr (lokS bits B n) 13 0 (-1, 11)).1
/-- lectures: f hours, for one -/
def lvS (val : Option Nat → Int32) (l : Nat) (c : Nat) (s : Int32 × Int32) : Int32 × Int32 := if c = l + 1 then s else if val (oc c) ≤ s.1 then s else (val (oc c), oI (oc c))
def mst : Nat → NS → Nat → Int32 × Int32
  | 0, _, _ => (0, -1)
  | f + 1, u, l => itr (lvS (fun o => bI (wbU (lec u o) == some l) + (mst f (ph (lec u o)) l).1) l) (nN u + 1) 0 (-1, -1)
theorem itr_cong {σ : Type} {f g : Nat → σ → σ} : ∀ (c b : Nat) (s : σ), (∀ i s, b ≤ i → i < b + c → f i s = g i s) → itr f c b s = itr g c b s
  | 0, _, _, _ => rfl
  | c + 1, b, s, h => by
    rw [itr, itr, h b s (Nat.le_refl _) (by omega)]
    exact itr_cong c (b + 1) _ (fun i s h1 h2 => h i s (by omega) (by omega))
theorem lvS_cong {v w : Option Nat → Int32} {l c : Nat} {s : Int32 × Int32} (h : v (oc c) = w (oc c)) : lvS v l c s = lvS w l c s := by rw [lvS, lvS, h]
theorem oc_lt {c n j : Nat} (h : c < n + 1) (e : oc c = some j) : j < n := by
  cases c with
  | zero => cases e
  | succ c => cases e; omega
theorem eqN.mE : ∀ (f : Nat) {u v : NS} (l : Nat), eqN u v → mst f u l = mst f v l
  | 0, _, _, _, _ => rfl
  | f + 1, u, v, l, h => by
    rw [mst, mst, h.nE]
    refine itr_cong _ _ _ (fun i s h1 h2 => lvS_cong ?_)
    have hl := h.lE (o := oc i) (fun j e => by have := oc_lt (n := nN v) (by omega) e; rw [h.nE]; exact this)
    show bI (wbU (lec u (oc i)) == some l) + (_ : Int32 × Int32).1 = bI (wbU (lec v (oc i)) == some l) + (_ : Int32 × Int32).1
    rw [hl.wE, eqN.mE f l hl.pE]
