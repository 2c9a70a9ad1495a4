/-! the class as one state: flags and counts, page, house, seen, the image's two; and what it keeps for its own use -/
abbrev CS : Type := (Bool × Nat × Nat) × PG × NS × SS × NS × SS
abbrev ZS : Type := NS × (Int32 × Int32) × NS × NS × NS × (Nat × Int32) × (Nat → Nat → Int32) × NS
def ob (A : Nat → Nat → Nat) (c : Bool × Nat × Nat) : va_W := [(A 0 0, .inr (5, [.ref (A 1 0), .ref (A 2 0), .ref (A 3 0), .ref (A 4 0), .ref (A 5 0), .int (bI c.1), .ref (A 6 0), .ref (A 7 0), .ref (A 11 0), .int (nI c.2.1), .int (nI c.2.2)]))]
def cw (x : Cx) (A a : Nat → Nat → Nat) (r : Nat → Nat) (s : CS) (z : ZS) : va_W := fl [ob A s.1, pb x (A 1) s.2.1, nb x (A 2) s.2.2.1, sb x (A 3) s.2.2.2.1, nb x (A 4) s.2.2.2.2.1, sb x (A 5) s.2.2.2.2.2, nb x (A 6) z.1, lb x (A 7) a z.2.1, nb x (a 0) z.2.2.1, nb x (a 1) z.2.2.2.1, nb x (a 2) z.2.2.2.2.1, gb x (A 11) (A 13) r z.2.2.2.2.2.1, rowsB x r z.2.2.2.2.2.2.1, nb x (A 13) z.2.2.2.2.2.2.2]
def zok (z : ZS) : Prop := nN z.1 ≤ 5 ∧ nN z.2.2.1 ≤ 5 ∧ nN z.2.2.2.1 ≤ 5 ∧ nN z.2.2.2.2.1 ≤ 5 ∧ nN z.2.2.2.2.2.2.2 ≤ 5
def cok (s : CS) : Prop := s.1.2.2 ≤ 40 ∧ s.2.1.2 ≤ 18 ∧ nN s.2.2.1 ≤ 5 ∧ s.2.2.2.1.2.2 ≤ 6 ∧ nN s.2.2.2.2.1 ≤ 5 ∧ s.2.2.2.2.2.2.2 ≤ 6
/-- an answer, and the class' state behind it -/
def pS5 (x : Cx) (A a : Nat → Nat → Nat) (r : Nat → Nat) (R : Int32) (s : CS) : Option Value → va_W → Prop := eX R (fun ws => ∃ z : ZS, zok z ∧ ws = cw x A a r s z)
def pL5 (x : Cx) (A a : Nat → Nat → Nat) (r : Nat → Nat) (R : Int64) (s : CS) : Option Value → va_W → Prop := fun v ws => v = some (.long R) ∧ ∃ z : ZS, zok z ∧ ws = cw x A a r s z
theorem pL5_fit {x : Cx} {A a : Nat → Nat → Nat} {r : Nat → Nat} {R : Int64} {s : CS} : ∀ v ws, pL5 x A a r R s v ws → retFit (some .long) v := fun v ws h => Or.inr (Or.inr ⟨R, rfl, h.1⟩)
def cfs : Nat → NS → Nat → NS
  | 0, u, _ => u
  | k + 1, u, j => cof (cfs k u j) j
theorem nN_cfs (u : NS) (j : Nat) : ∀ k, nN (cfs k u j) = nN u
  | 0 => rfl
  | k + 1 => (nN_cof _ _).trans (nN_cfs u j k)
theorem eqN.fE {u v : NS} (h : eqN u v) {j : Nat} (hj : j < nN u) : ∀ k, eqN (cfs k u j) (cfs k v j)
  | 0 => h
  | k + 1 => (eqN.fE h hj k).cE (by rw [nN_cfs]; exact hj)
def fcr (u : NS) (j hh : Nat) : Nat → Nat → Option Nat
  | 0, _ => none
  | f + 1, c => if kb (hh - 1) (cfs c u j) j = true then some c else fcr u j hh f (c + 1)
def fcU (u : NS) (j hh : Nat) : Option Nat := fcr u j hh 5 0
def abU (u : NS) (v : SS) (j : Nat) (a : Int32) : Int32 := if a = 0 then u.1 j else if a = 1 then u.2.1 j else if a = 2 then bI (u.2.2.1 j) else if a = 3 then bI (wbU u == some j) else if a = 4 then u.2.2.2.1 j else if a = 5 then bitsU u v j else if a = 6 then lokB (bitsU u v j) (bed u j) (nN u) else -102
def kAbout (u : NS) (v : SS) (l a : Int32) : Int32 := if kn (nN u) l = true then abU u v l.toNatClampNeg a else -101
theorem lefB_cong {bits : Int32} {B C : Nat → Int32} {w : Int32} : ∀ {t : Nat}, (∀ i, i < t → B i = C i) → lefB bits B w t = lefB bits C w t
  | 0, _ => rfl
  | t + 1, h => by rw [lefB, lefB, lefB_cong (fun i hi => h i (by omega)), h t (by omega)]
theorem worB_cong {bits : Int32} {B C : Nat → Int32} (h : ∀ i, i < 10 → B i = C i) : ∀ (c : Nat), worB bits B c = worB bits C c
  | 0 => rfl
  | c + 1 => by rw [worB, worB, worB_cong h c, lefB_cong h]
theorem lokB_cong {bits : Int32} {B C : Nat → Nat → Int32} {n : Nat} (h : ∀ t, t < 10 → ∀ k, k < 13 → B t k = C t k) : lokB bits B n = lokB bits C n := by
  rw [lokB, lokB, itr_cong (f := lokS bits B n) (g := lokS bits C n) 13 0 _ (fun i s h1 h2 => by
    rw [lokS, lokS, worB_cong (fun t ht => h t ht i (by omega))])]
def drN (s : Int32) (n : Nat) : Nat := s.toInt.toNat / 65536 % n
theorem nxS_nn (s : Int32) : 0 ≤ nxS s := by
  rw [nxS]
  obtain ⟨j, hj, e⟩ := pk_andE (1103515245 * s + 12345) (m := 2147483647) 31 (by decide)
  rw [e]
  exact nI_pos' hj
theorem drO_eq {s : Int32} (hs : 0 ≤ s) {n : Nat} (h0 : 0 < n) (hn : n < 2 ^ 31) : drO s (nI n) = nI (drN s n) := by
  obtain ⟨j, hj, rfl⟩ := nI_of (x := s) (nlt_of_le hs)
  rw [drO, if_neg (nI_nle h0 hn), drN, nI_toInt hj]
  rw [show (65536 : Int32) = nI 65536 from rfl, pk_div hj (by decide) (by decide), pk_rem (by omega) h0 hn]
  rfl
theorem drN_lt (s : Int32) {n : Nat} (h0 : 0 < n) : drN s n < n := Nat.mod_lt _ h0
def ngS (t : Int32 × NS × Int32) : Int32 × NS × Int32 := match t with
  | (s, u, c) => (nxS (nxS s), ph (lec (cof u (drN (nxS s) (nN u))) (some (drN (nxS (nxS s)) (nN u)))), c + bI (wbU (lec (cof u (drN (nxS s) (nN u))) (some (drN (nxS (nxS s)) (nN u)))) == some 0))
def ngI : Nat → Int32 × NS × Int32 → Int32 × NS × Int32
  | 0, t => t
  | k + 1, t => ngI k (ngS t)
theorem ngS_cong {s c : Int32} {u v : NS} (h : eqN u v) (h0 : 0 < nN u) : (ngS (s, u, c)).1 = (ngS (s, v, c)).1 ∧ eqN (ngS (s, u, c)).2.1 (ngS (s, v, c)).2.1 ∧ (ngS (s, u, c)).2.2 = (ngS (s, v, c)).2.2 ∧ nN (ngS (s, u, c)).2.1 = nN u := by
  have e := h.nE
  have h1 := h.cE (j := drN (nxS s) (nN u)) (drN_lt _ h0)
  have h2 := h1.lE (o := some (drN (nxS (nxS s)) (nN u))) (fun j e => by cases e; rw [nN_cof]; exact drN_lt _ h0)
  refine ⟨rfl, ?_, ?_, ?_⟩
  · show eqN (ph _) (ph _)
    rw [← e]
    exact h2.pE
  · show c + bI _ = c + bI _
    rw [h2.wE, e]
  · exact (nN_ph (lec (cof u (drN (nxS s) (nN u))) (some (drN (nxS (nxS s)) (nN u))))).trans ((nN_lec _ _).trans (nN_cof _ _))
theorem ngI_cong : ∀ (k : Nat) (s c : Int32) (u v : NS), eqN u v → 0 < nN u → (ngI k (s, u, c)).1 = (ngI k (s, v, c)).1 ∧ eqN (ngI k (s, u, c)).2.1 (ngI k (s, v, c)).2.1 ∧ (ngI k (s, u, c)).2.2 = (ngI k (s, v, c)).2.2
  | 0, _, _, _, _, h, _ => ⟨rfl, h, rfl⟩
  | k + 1, s, c, u, v, h, h0 => by
    obtain ⟨a, b, d, e⟩ := ngS_cong (s := s) (c := c) h h0
    have ih := ngI_cong k (ngS (s, u, c)).1 (ngS (s, u, c)).2.2 (ngS (s, u, c)).2.1 (ngS (s, v, c)).2.1 b (by rw [e]; exact h0)
    show (ngI k (ngS (s, u, c))).1 = (ngI k (ngS (s, v, c))).1 ∧ eqN (ngI k (ngS (s, u, c))).2.1 (ngI k (ngS (s, v, c))).2.1 ∧ (ngI k (ngS (s, u, c))).2.2 = (ngI k (ngS (s, v, c))).2.2
    have ev : ngS (s, v, c) = ((ngS (s, u, c)).1, (ngS (s, v, c)).2.1, (ngS (s, u, c)).2.2) := by rw [a, d]
    rw [ev]
    exact ih
theorem cntS_cong {f g : Nat → Bool} : ∀ {n : Nat}, (∀ i, i < n → f i = g i) → cntS f n = cntS g n
  | 0, _ => rfl
  | n + 1, h => by rw [cntS, cntS, cntS_cong (fun i hi => h i (by omega)), h n (by omega)]
theorem eqN.sE {u v : NS} (h : eqN u v) : cntS u.2.2.1 (nN u) = cntS v.2.2.1 (nN v) := by
  rw [← h.nE]
  exact cntS_cong (fun i hi => (h.2 i hi).2.2.1)
def kNights (u : NS) (k : Nat) (s a : Int32) : Int32 := if a = 2 then (ngI k (s, u, 0)).1 else if a = 0 then (ngI k (s, u, 0)).2.2 else nI (cntS (ngI k (s, u, 0)).2.1.2.2.1 (nN (ngI k (s, u, 0)).2.1))
theorem prS_inv {kf tf : Nat → Int32} {sl : Nat → Bool} {h : Int32} {n a b : Nat} {s : Int32 × Int32} (ha : a < n) (hb : b < n) (hs : s = (-1, -1) ∨ ∃ i j, i < n ∧ j < n ∧ s = (nI (10 * i + j), nI (tog kf tf h i j))) : prS kf tf sl h a b s = (-1, -1) ∨ ∃ i j, i < n ∧ j < n ∧ prS kf tf sl h a b s = (nI (10 * i + j), nI (tog kf tf h i j)) := by
  rw [prS]
  split
  · exact Or.inr ⟨a, b, ha, hb, rfl⟩
  · exact hs
theorem prU_inv (u : NS) : prU u = (-1, -1) ∨ ∃ i j, i < nN u ∧ j < nN u ∧ prU u = (nI (10 * i + j), nI (togU u i j)) := by
  obtain ⟨kf, tf, sl, bf, n, d, h⟩ := u
  show (itr (prO kf tf sl n h) n 0 (-1, -1) = _ ∨ _)
  refine itr_inv (fun s => s = (-1, -1) ∨ ∃ i j, i < n ∧ j < n ∧ s = (nI (10 * i + j), nI (tog kf tf h i j))) n 0 _ (Or.inl rfl) (fun a s h1 h2 h3 => ?_)
  refine itr_inv (fun s => s = (-1, -1) ∨ ∃ i j, i < n ∧ j < n ∧ s = (nI (10 * i + j), nI (tog kf tf h i j))) _ _ _ h3 (fun b s h4 h5 h6 => ?_)
  exact prS_inv (by omega) (by omega) h6
def kSunday (u : NS) (a : Int32) : Int32 := if isW a 0 1 = true then (if nN u = 0 then -103 else if a = 0 then (prU u).1 else (prU u).2) else -102
def kCount (c : Bool × Nat × Nat) (g : PG) (u : NS) (v : SS) (a : Int32) : Int32 := if a = 0 then nI (nN u) else if a = 1 then nD u else if a = 2 then nI (cntS u.2.2.1 (nN u)) else if a = 3 then nH u else if a = 4 then sumT u.2.1 (nN u) else if a = 5 then nI v.2.2 else if a = 6 then nI g.2 else if a = 7 then nI c.2.1 else if a = 8 then nI c.2.2 else -102
def mx (h : Int64) (v : Int32) : Int64 := 31 * h + v.toInt64
def dgA (u : NS) (v : SS) (j : Nat) (h : Int64) : Int64 := itr (fun a h => mx h (abU u v j (nI a))) 7 0 h
def dgL (u : NS) (v : SS) (j : Nat) (h : Int64) : Int64 := mx (dgA u v j h) (if u.2.2.1 j = true then 0 else oI (fcU u j 3))
def dgB (u : NS) (h : Int64) : Int64 := if nN u = 0 then h else mx (mx (mx h (oI (wbU u))) (prU u).1) (prU u).2
def dgP (g : PG) (h : Int64) : Int64 := itr (fun p h => mx h (g.1 p)) g.2 0 h
def dgC (c : Bool × Nat × Nat) (g : PG) (u : NS) (v : SS) (h : Int64) : Int64 := itr (fun a h => mx h (kCount c g u v (nI a))) 9 0 h
def kDigest (c : Bool × Nat × Nat) (g : PG) (u : NS) (v : SS) : Int64 := dgC c g u v (dgP g (dgB u (itr (dgL u v) (nN u) 0 953)))
theorem kn_j {n : Nat} {l : Int32} (h : kn n l = true) (hn : n < 2 ^ 31) : ∃ j, j < n ∧ l = nI j ∧ l.toNatClampNeg = j := by
  obtain ⟨j, hj, rfl⟩ := kn_f hn h
  exact ⟨j, hj, rfl, nI_clamp (by omega)⟩
theorem isW_nat {a : Int32} {lo hi : Nat} (hlo : lo < 2 ^ 31) (hhi : hi < 2 ^ 31) (h : isW a (nI lo) (nI hi) = true) : ∃ k, lo ≤ k ∧ k ≤ hi ∧ a = nI k := by
  simp [isW] at h
  obtain ⟨h1, h2⟩ := h
  have h0 : ¬ a < 0 := fun e => by
    rw [Int32.lt_iff_toInt_lt] at e
    rw [Int32.le_iff_toInt_le, nI_toInt hlo] at h1
    have : (0 : Int32).toInt = 0 := by decide
    omega
  obtain ⟨j, hj, rfl⟩ := nI_of h0
  exact ⟨j, (nI_leI hlo hj).mp h1, (nI_leI hj hhi).mp h2, rfl⟩
