/-! the reference's state: a house, what is seen, the page, how it was read, the image, the rest -/
abbrev KS : Type := Bool × Nat × Nat × (Nat → Int32) × (Nat → Int32) × (Nat → Int32)
abbrev OS : Type := Nat × Nat × (Nat → Int32) × (Nat → Int32) × (Nat → Int32) × Int64 × Int64
def mb (x : Cx) (q : Nat → Nat) (u : NS) (v : SS) (g : PG) (pw : Bool × Nat) (kp : KS) (o : OS) : va_W := [(q 0, .inr (6, [.int (nI o.1), .int (nI u.2.2.2.2.1), .int u.2.2.2.2.2.1, .ref (q 1), .ref (q 2), .ref (q 3), .ref (q 4), .int u.2.2.2.2.2.2, .int (nI v.2.2), .ref (q 5), .ref (q 6), .int (nI o.2.1), .int (nI g.2), .ref (q 7), .int (bI pw.1), .int (nI pw.2), .ref (q 8), .ref (q 9), .ref (q 10), .long o.2.2.2.2.2.1, .int (bI kp.1), .int (nI kp.2.1), .int (nI kp.2.2.1), .ref (q 11), .ref (q 12), .ref (q 13), .long o.2.2.2.2.2.2])),
  (q 1, .inl (x.2.1, 5, .inl u.1)), (q 2, .inl (x.2.1, 5, .inl u.2.1)), (q 3, .inl (x.2.2.1, 5, .inl (fun i => bI (u.2.2.1 i)))), (q 4, .inl (x.2.1, 5, .inl u.2.2.2.1)), (q 5, .inl (x.2.1, 6, .inl v.1)), (q 6, .inl (x.2.1, 6, .inl v.2.1)), (q 7, .inl (x.2.2.2.1, 18, .inl g.1)), (q 8, .inl (x.2.1, 22, .inl o.2.2.1)), (q 9, .inl (x.2.1, 5, .inl o.2.2.2.1)), (q 10, .inl (x.2.1, 130, .inl o.2.2.2.2.1)), (q 11, .inl (x.2.1, 5, .inl kp.2.2.2.1)), (q 12, .inl (x.2.1, 6, .inl kp.2.2.2.2.1)), (q 13, .inl (x.2.1, 6, .inl kp.2.2.2.2.2))]
/-- tired as they may be: 0 to 10, less than 10 who is awake, drowse 0 to 4 -/
def okN (u : NS) : Prop := nN u ≤ 5 ∧ (∃ e, e ≤ 4 ∧ nD u = nI e) ∧ (∀ i, i < nN u → ∃ k, k ≤ 10 ∧ u.2.1 i = nI k) ∧ ∀ i, i < nN u → u.2.2.1 i = false → u.2.1 i < 10
def mT (t : Int32) : Int32 := if t < 0 then 0 else if 10 < t then 10 else t
def mS (t : Int32) (s : Bool) : Bool := decide (t = 10) || (s && decide (2 < t))
theorem mT_a : ∀ k, k < 15 → stT (cT (nI k)) = mT (nI k - 3) ∧ stS (cT (nI k)) true = mS (mT (nI k - 3)) true := by decide +kernel
theorem mT_w : ∀ k, k < 17 → stT (nI k) = mT (nI k) ∧ stS (nI k) false = mS (mT (nI k)) false := by decide +kernel
theorem ev_nat (h : Int32) : ∃ e, e ≤ 1 ∧ ev h = nI e := by
  unfold ev
  split
  · exact ⟨1, Nat.le_refl _, rfl⟩
  · exact ⟨0, by omega, rfl⟩
theorem tbh_nat (k t h : Int32) (b : Bool) : ∃ e, e ≤ 2 ∧ tbh k t h b = nI e := by
  obtain ⟨e, he, ee⟩ := ev_nat h
  unfold tbh
  split
  · exact ⟨e, by omega, ee⟩
  · split
    · split
      · exact ⟨1, by omega, rfl⟩
      · exact ⟨0, by omega, rfl⟩
    · split
      · cases b
        · exact ⟨e, by omega, by rw [ee]; exact nI_add e 0⟩
        · exact ⟨e + 1, by omega, by rw [ee]; exact nI_add e 1⟩
      · exact ⟨1, by omega, rfl⟩
theorem pT1_nat {tf : Nat → Int32} {d : Int32} {o : Option Nat} {i e : Nat} (he : e ≤ 4) (hd : d = nI e) {k : Nat} (hk : k ≤ 10) (ht : tf i = nI k) : ∃ k', k' ≤ 14 ∧ pT1 tf d o i = nI k' := by
  cases o with
  | none => exact ⟨k, by omega, ht⟩
  | some j =>
    by_cases h : i = j
    · subst h
      exact ⟨k + e, by omega, by show upd tf i (tf i + d) i = _; rw [upd_self, ht, hd, nI_add]⟩
    · exact ⟨k, by omega, by show upd tf j (tf j + d) i = _; rw [pk_un h]; exact ht⟩
theorem stT_le : ∀ k, k < 17 → ∃ m, m ≤ 10 ∧ stT (nI k) = nI m := by
  intro k hk
  by_cases h : k < 10
  · exact ⟨k, by omega, by
      show (if nI k < nI 10 then nI k else nI 10) = _
      rw [if_pos ((nI_ltI (a := k) (b := 10) (by omega) (by decide)).mpr h)]⟩
  · exact ⟨10, by omega, by
      show (if nI k < nI 10 then nI k else nI 10) = _
      rw [if_neg (fun e => h ((nI_ltI (a := k) (b := 10) (by omega) (by decide)).mp e))]⟩
theorem cT_le : ∀ k, k < 15 → ∃ m, m < 15 ∧ cT (nI k) = nI m := by decide +kernel
theorem st_aw {t : Int32} {s : Bool} (h : stS t s = false) : stT t < 10 := by
  rw [stS] at h
  rw [stT]
  by_cases c : t < 10
  · rw [if_pos c]; exact c
  · rw [if_neg c] at h; cases h
theorem okN_ph {u : NS} (h : okN u) : okN (ph u) := by
  obtain ⟨kf, tf, sl, bf, n, d, hh⟩ := u
  obtain ⟨h1, ⟨e, he, hd⟩, h3, h4⟩ := h
  refine ⟨h1, ⟨e, he, hd⟩, fun i hi => ?_, fun i hi hs => ?_⟩
  · have hi : i < n := hi
    obtain ⟨k, hk, ht⟩ := h3 i hi
    have hd : d = nI e := hd
    obtain ⟨k', hk', ht'⟩ := pT1_nat (o := wb kf tf sl n) he hd hk ht
    show ∃ k, k ≤ 10 ∧ mix n _ _ i = nI k
    rw [mix_in hi, pT, pX, ht']
    split
    · obtain ⟨m, hm, em⟩ := cT_le k' (by omega)
      rw [em]
      exact stT_le m (by omega)
    · obtain ⟨m, hm, em⟩ := tbh_nat (kf i) (nI k') (hh + 1) (wb kf tf sl n == some i)
      rw [em, nI_add]
      exact stT_le _ (by omega)
  · have hi : i < n := hi
    have hs : mix n (pS kf (pT1 tf d (wb kf tf sl n)) sl (hh + 1) (wb kf tf sl n)) sl i = false := hs
    show mix n (pT kf (pT1 tf d (wb kf tf sl n)) sl (hh + 1) (wb kf tf sl n)) _ i < 10
    rw [mix_in hi] at hs ⊢
    exact st_aw hs
theorem okN_cof {u : NS} (h : okN u) (j : Nat) (hj : j < nN u) : okN (cof u j) := by
  obtain ⟨kf, tf, sl, bf, n, d, hh⟩ := u
  obtain ⟨h1, h2, h3, h4⟩ := h
  refine ⟨h1, h2, fun i hi => ?_, fun i hi hs => ?_⟩
  · show ∃ k, k ≤ 10 ∧ (if sl j = true then tf else upd tf j (cT (tf j))) i = nI k
    split
    · exact h3 i hi
    · by_cases e : i = j
      · subst e
        obtain ⟨k, hk, ht⟩ := h3 i hi
        have ht : tf i = nI k := ht
        rw [upd_self, ht]
        have : ∀ k, k < 11 → ∃ m, m ≤ 10 ∧ cT (nI k) = nI m := by decide +kernel
        exact this k (by omega)
      · rw [pk_un e]; exact h3 i hi
  · show (if sl j = true then tf else upd tf j (cT (tf j))) i < 10
    split
    · exact h4 i hi hs
    · by_cases e : i = j
      · subst e
        obtain ⟨k, hk, ht⟩ := h3 i hi
        have ht : tf i = nI k := ht
        rw [upd_self, ht]
        have : ∀ k, k < 11 → cT (nI k) < 10 := by decide +kernel
        exact this k (by omega)
      · rw [pk_un e]; exact h4 i hi hs
theorem okN_lec {u : NS} (h : okN u) (o : Option Nat) : okN (lec u o) := by
  obtain ⟨kf, tf, sl, bf, n, d, hh⟩ := u
  cases o with
  | none => exact h
  | some j =>
    obtain ⟨h1, h2, h3, h4⟩ := h
    show okN (if sl j = true then _ else _)
    split
    · exact ⟨h1, h2, h3, h4⟩
    · refine ⟨h1, h2, fun i hi => ?_, fun i hi hs => ?_⟩
      · by_cases e : i = j
        · subst e
          obtain ⟨k, hk, ht⟩ := h3 i hi
          have ht : tf i = nI k := ht
          show ∃ k, k ≤ 10 ∧ upd tf i _ i = nI k
          rw [upd_self, ht, show (2 : Int32) = nI 2 from rfl, nI_add]
          exact stT_le _ (by omega)
        · show ∃ k, k ≤ 10 ∧ upd tf j _ i = nI k
          rw [pk_un e]; exact h3 i hi
      · have hs : bup sl j (stS (tf j + 2) (sl j)) i = false := hs
        show upd tf j (stT (tf j + 2)) i < 10
        by_cases e : i = j
        · subst e
          rw [upd_self]
          rw [bup, if_pos rfl] at hs
          exact st_aw hs
        · rw [pk_un e]
          rw [bup, if_neg e] at hs
          exact h4 i hi hs
theorem okN_wak {u : NS} (h : okN u) (j t : Nat) (ht : t < 10) : okN (wak u j (nI t)) := by
  obtain ⟨kf, tf, sl, bf, n, d, hh⟩ := u
  obtain ⟨h1, h2, h3, h4⟩ := h
  refine ⟨h1, h2, fun i hi => ?_, fun i hi hs => ?_⟩
  · show ∃ k, k ≤ 10 ∧ upd tf j (nI t) i = nI k
    by_cases e : i = j
    · subst e; exact ⟨t, by omega, upd_self _ _ _⟩
    · rw [pk_un e]; exact h3 i hi
  · have hs : bup sl j false i = false := hs
    show upd tf j (nI t) i < 10
    by_cases e : i = j
    · subst e; rw [upd_self]; exact (nI_ltI (a := t) (b := 10) (by omega) (by decide)).mpr ht
    · rw [pk_un e]
      rw [bup, if_neg e] at hs
      exact h4 i hi hs
theorem okN_eq {u v : NS} (e : eqN u v) (h : okN u) : okN v := by
  obtain ⟨h1, h2, h3, h4⟩ := h
  refine ⟨by rw [← e.nE]; exact h1, ?_, fun i hi => ?_, fun i hi hs => ?_⟩
  · obtain ⟨w, hw, ew⟩ := h2
    exact ⟨w, hw, by rw [← ew]; exact congrArg (·.2.1) e.1.symm⟩
  · have hi' : i < nN u := by rw [e.nE]; exact hi
    obtain ⟨k, hk, ek⟩ := h3 i hi'
    exact ⟨k, hk, by rw [← ek]; exact (e.2 i hi').2.1.symm⟩
  · have hi' : i < nN u := by rw [e.nE]; exact hi
    rw [← (e.2 i hi').2.1]
    exact h4 i hi' (by rw [(e.2 i hi').2.2.1]; exact hs)
/-- saving and loading -/
def svP (lv : Nat) (tf : Nat → Int32) (sl : Nat → Bool) (sv : Nat → Int32) (m : Nat) : Nat → Int32 := fun i => if 11 * lv ≤ i ∧ i < 11 * lv + m then tf (i - 11 * lv) else if 11 * lv + 5 ≤ i ∧ i < 11 * lv + 5 + m then bI (sl (i - (11 * lv + 5))) else sv i
theorem svP_0 (lv : Nat) (tf : Nat → Int32) (sl : Nat → Bool) (sv : Nat → Int32) : svP lv tf sl sv 0 = sv := by
  funext i
  rw [svP, if_neg (by omega), if_neg (by omega)]
theorem svP_s (lv : Nat) (tf : Nat → Int32) (sl : Nat → Bool) (sv : Nat → Int32) {m : Nat} (hm : m < 5) : upd (upd (svP lv tf sl sv m) (11 * lv + m) (tf m)) (11 * lv + 5 + m) (bI (sl m)) = svP lv tf sl sv (m + 1) := by
  funext i
  by_cases e1 : i = 11 * lv + 5 + m
  · subst e1
    rw [upd_self, svP, if_neg (by omega), if_pos (by omega)]
    congr 2
    omega
  · rw [pk_un e1]
    by_cases e2 : i = 11 * lv + m
    · subst e2
      rw [upd_self, svP, if_pos (by omega)]
      congr 1
      omega
    · rw [pk_un e2, svP, svP]
      by_cases c1 : 11 * lv ≤ i ∧ i < 11 * lv + m
      · rw [if_pos c1, if_pos (show 11 * lv ≤ i ∧ i < 11 * lv + (m + 1) by omega)]
      · rw [if_neg c1, if_neg (show ¬ (11 * lv ≤ i ∧ i < 11 * lv + (m + 1)) by omega)]
        by_cases c2 : 11 * lv + 5 ≤ i ∧ i < 11 * lv + 5 + m
        · rw [if_pos c2, if_pos (show 11 * lv + 5 ≤ i ∧ i < 11 * lv + 5 + (m + 1) by omega)]
        · rw [if_neg c2, if_neg (show ¬ (11 * lv + 5 ≤ i ∧ i < 11 * lv + 5 + (m + 1)) by omega)]
def svW (lv : Nat) (u : NS) (sv : Nat → Int32) : Nat → Int32 := upd (svP lv u.2.1 u.2.2.1 sv 5) (11 * lv + 10) (nH u)
def ldU (lv : Nat) (u : NS) (sv : Nat → Int32) : NS := match u with
  | (kf, tf, sl, bf, n, d, _) => (kf, mix 5 (fun i => sv (11 * lv + i)) tf, mix 5 (fun i => decide (sv (11 * lv + 5 + i) = 1)) sl, bf, n, d, sv (11 * lv + 10))
def bgO (u : NS) (o : OS) : OS := match o with
  | (ho, as, sv, sd, wy, se, hh) => (ho, as, svW 0 u sv, mix 5 u.2.2.2.1 sd, wy, se, hh)
def setB (u : NS) (bf : Nat → Int32) : NS := match u with
  | (kf, tf, sl, _, n, d, h) => (kf, tf, sl, bf, n, d, h)
def enU (u : NS) (o : OS) : NS := setB (ldU 0 u o.2.2.1) (mix 5 o.2.2.2.1 u.2.2.2.1)
theorem svW_t {lv : Nat} {u : NS} {sv : Nat → Int32} {i : Nat} (h : i < 5) : svW lv u sv (11 * lv + i) = u.2.1 i := by
  rw [svW, pk_un (by omega), svP, if_pos (by omega), show 11 * lv + i - 11 * lv = i by omega]
theorem svW_s {lv : Nat} {u : NS} {sv : Nat → Int32} {i : Nat} (h : i < 5) : svW lv u sv (11 * lv + 5 + i) = bI (u.2.2.1 i) := by
  rw [svW, pk_un (by omega), svP, if_neg (by omega), if_pos (by omega), show 11 * lv + 5 + i - (11 * lv + 5) = i by omega]
theorem svW_h {lv : Nat} {u : NS} {sv : Nat → Int32} : svW lv u sv (11 * lv + 10) = nH u := upd_self _ _ _
theorem svW_o {lv : Nat} {u : NS} {sv : Nat → Int32} {i : Nat} (h : i < 11 * lv ∨ 11 * lv + 11 ≤ i) : svW lv u sv i = sv i := by
  rw [svW, pk_un (by omega), svP, if_neg (by omega), if_neg (by omega)]
/-- the same kinds, number and drowse -/
def frm (u w : NS) : Prop := (∀ i, i < nN u → w.1 i = u.1 i) ∧ nN w = nN u ∧ nD w = nD u
theorem frm.rf (u : NS) : frm u u := ⟨fun _ _ => rfl, rfl, rfl⟩
theorem frm.ph {u w : NS} (h : frm u w) : frm u (ph w) := by obtain ⟨kf, tf, sl, bf, n, d, hh⟩ := w; exact h
theorem frm.cof {u w : NS} (h : frm u w) (j : Nat) : frm u (cof w j) := by obtain ⟨kf, tf, sl, bf, n, d, hh⟩ := w; exact h
theorem frm.wak {u w : NS} (h : frm u w) (j : Nat) (t : Int32) : frm u (wak w j t) := by obtain ⟨kf, tf, sl, bf, n, d, hh⟩ := w; exact h
theorem frm.lec {u w : NS} (h : frm u w) (o : Option Nat) : frm u (lec w o) := by
  obtain ⟨kf, tf, sl, bf, n, d, hh⟩ := w
  cases o with
  | none => exact h
  | some j =>
    show frm u (if sl j = true then _ else _)
    split <;> exact h
theorem frm.hrs {u w : NS} (h : frm u w) : ∀ k, frm u (hrs k w)
  | 0 => h
  | k + 1 => (frm.hrs h k).ph
theorem frm.ld {u w : NS} (h : frm u w) (lv : Nat) (sv : Nat → Int32) : frm u (ldU lv w sv) := by obtain ⟨kf, tf, sl, bf, n, d, hh⟩ := w; exact h
theorem frm.eq {u w : NS} (h : eqN w u) : frm u w := ⟨fun i hi => (h.2 i (by rw [h.nE]; exact hi)).1, h.nE, congrArg (·.2.1) h.1⟩
theorem eqN_ld {u w : NS} {sv : Nat → Int32} {lv : Nat} (hn : nN u ≤ 5) (f : frm u w) (h1 : ∀ i, i < 5 → sv (11 * lv + i) = u.2.1 i) (h2 : ∀ i, i < 5 → sv (11 * lv + 5 + i) = bI (u.2.2.1 i)) (h3 : sv (11 * lv + 10) = nH u) {bf : Nat → Int32} (h4 : ∀ i, i < 5 → bf i = u.2.2.2.1 i) : eqN (setB (ldU lv w sv) bf) u := by
  obtain ⟨kf, tf, sl, bf0, n, d, hh⟩ := w
  obtain ⟨kf2, tf2, sl2, bf2, n2, d2, hh2⟩ := u
  obtain ⟨f1, f2, f3⟩ := f
  have f2 : n = n2 := f2
  have f3 : d = d2 := f3
  subst f2; subst f3
  have hn : n ≤ 5 := hn
  refine ⟨?_, fun i hi => ?_⟩
  · show (n, d, sv (11 * lv + 10)) = (n, d, hh2)
    rw [h3]; rfl
  · have hi : i < n := hi
    refine ⟨f1 i hi, ?_, ?_, h4 i (by omega)⟩
    · show mix 5 (fun i => sv (11 * lv + i)) tf i = tf2 i
      rw [mix_in (by omega)]
      exact h1 i (by omega)
    · show mix 5 (fun i => decide (sv (11 * lv + 5 + i) = 1)) sl i = sl2 i
      rw [mix_in (by omega)]
      show decide (sv (11 * lv + 5 + i) = 1) = sl2 i
      rw [h2 i (by omega)]
      show decide (bI (sl2 i) = 1) = sl2 i
      cases sl2 i <;> rfl
theorem eqN_en {u w : NS} {o p : OS} (hn : nN u ≤ 5) (f : frm u w) (h1 : p.2.2.1 = (bgO u o).2.2.1) (h2 : p.2.2.2.1 = (bgO u o).2.2.2.1) : eqN (enU w p) u := by
  obtain ⟨ho, as, sv, sd, wy, se, hh⟩ := o
  refine eqN_ld hn f (fun i hi => ?_) (fun i hi => ?_) ?_ (fun i hi => ?_)
  · rw [h1]; exact svW_t hi
  · rw [h1]; exact svW_s hi
  · rw [h1]; exact svW_h (lv := 0) (u := u) (sv := sv)
  · rw [mix_in hi, h2]; exact mix_in hi
theorem eqN_l0 {u w : NS} {o p : OS} (hn : nN u ≤ 5) (f : frm u w) (h1 : p.2.2.1 = (bgO u o).2.2.1) (hb : ∀ i, i < 5 → w.2.2.2.1 i = u.2.2.2.1 i) : eqN (ldU 0 w p.2.2.1) u := by
  obtain ⟨ho, as, sv, sd, wy, se, hh⟩ := o
  have e := eqN_ld (bf := w.2.2.2.1) (lv := 0) (sv := p.2.2.1) hn f (fun i hi => by rw [h1]; exact svW_t hi) (fun i hi => by rw [h1]; exact svW_s hi) (by rw [h1]; exact svW_h (lv := 0) (u := u) (sv := sv)) hb
  obtain ⟨kf, tf, sl, bf, n, d, hh⟩ := w
  exact e
/-- a question asked of the reference: the house is as before, what is kept of images too -/
def sim (u : NS) (o : OS) (u' : NS) (o' : OS) : Prop := eqN u' u ∧ o'.1 = o.1 ∧ o'.2.1 = o.2.1 ∧ (∀ i, 11 ≤ i → o'.2.2.1 i = o.2.2.1 i) ∧ o'.2.2.2.2.2.2 = o.2.2.2.2.2.2
theorem sim.rf (u : NS) (o : OS) : sim u o u o := ⟨eqN.rf u, rfl, rfl, fun _ _ => rfl, rfl⟩
theorem sim.trans {u u' u'' : NS} {o o' o'' : OS} (h : sim u o u' o') (g : sim u' o' u'' o'') : sim u o u'' o'' := ⟨g.1.trans h.1, g.2.1.trans h.2.1, g.2.2.1.trans h.2.2.1, fun i hi => (g.2.2.2.1 i hi).trans (h.2.2.2.1 i hi), g.2.2.2.2.trans h.2.2.2.2⟩
theorem kn_isW {n : Nat} (hn : n < 2 ^ 31) (l : Int32) : isW l 0 (nI n - 1) = kn n l := by
  cases n with
  | zero =>
    rw [isW, kn]
    by_cases h : 0 ≤ l
    · have h1 : ¬ l ≤ nI 0 - 1 := fun e => by
        have a := Int32.le_iff_toInt_le.mp e
        have b := Int32.le_iff_toInt_le.mp h
        have c : (nI 0 - 1 : Int32).toInt = -1 := by decide
        have d : (0 : Int32).toInt = 0 := by decide
        omega
      have h2 : ¬ l < nI 0 := nlt_of_le h
      simp [h1, h2]
    · simp [h]
  | succ n =>
    rw [isW, kn, nI_pred]
    congr 1
    apply decide_eq_decide.mpr
    rw [Int32.le_iff_toInt_le, Int32.lt_iff_toInt_lt, nI_toInt (by omega), nI_toInt hn]
    omega
