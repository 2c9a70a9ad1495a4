/-! Sundays over pairs of figures; what is seen, over a table of beds -/
def mayN (u : NS) (i : Nat) : Bool := decide (i < nN u) && may u.1 u.2.2.1 i
theorem awk_ge (k h : Int32) : ∀ (f p : Nat) (t : Int32), p + f = 61 → min p 60 ≤ awk k h f p t
  | 0, p, _, hp => by unfold awk; omega
  | f + 1, p, t, hp => by
    unfold awk
    split
    · have := awk_ge k h f (p + 1) (t + tbh k t (h + nI p) true) (by omega)
      omega
    · omega
theorem awk_lt {k h t : Int32} {f p : Nat} (c : t + tbh k t (h + nI p) true < 10) : awk k h (f + 1) p t = awk k h f (p + 1) (t + tbh k t (h + nI p) true) := by rw [awk, if_pos c]
theorem awk_nl {k h t : Int32} {f p : Nat} (c : ¬ t + tbh k t (h + nI p) true < 10) : awk k h (f + 1) p t = p := by rw [awk, if_neg c]
def pf (u : NS) (p : Nat) (s : Int32 × Int32) : Int32 × Int32 := if p / 10 < p % 10 ∧ mayN u (p / 10) = true ∧ mayN u (p % 10) = true ∧ ¬ nI (togU u (p / 10) (p % 10)) ≤ s.2 then (nI p, nI (togU u (p / 10) (p % 10))) else s
theorem itr_id {σ : Type} {f : Nat → σ → σ} : ∀ (c b : Nat) (s : σ), (∀ i s, b ≤ i → i < b + c → f i s = s) → itr f c b s = s
  | 0, _, _, _ => rfl
  | c + 1, b, s, h => by
    rw [itr, h b s (Nat.le_refl _) (by omega)]
    exact itr_id c (b + 1) s (fun i s h1 h2 => h i s (by omega) (by omega))
theorem itr_sh {σ : Type} {f g : Nat → σ → σ} {k : Nat} : ∀ (c b : Nat) (s : σ), (∀ i s, b ≤ i → i < b + c → f (k + i) s = g i s) → itr f c (k + b) s = itr g c b s
  | 0, _, _, _ => rfl
  | c + 1, b, s, h => by
    rw [itr, itr, h b s (Nat.le_refl _) (by omega), show k + b + 1 = k + (b + 1) by omega]
    exact itr_sh c (b + 1) _ (fun i s h1 h2 => h i s (by omega) (by omega))
theorem pf_blk (u : NS) (hu : nN u ≤ 5) (a : Nat) (ha : a < 5) (s : Int32 × Int32) : itr (pf u) 10 (10 * a) s = if a < nN u then itr (prS u.1 u.2.1 u.2.2.1 (nH u) a) (nN u - (a + 1)) (a + 1) s else s := by
  have hd : ∀ b, b < 10 → (10 * a + b) / 10 = a ∧ (10 * a + b) % 10 = b := fun b hb => by omega
  by_cases h : a < nN u
  · rw [if_pos h, show (10 : Nat) = (a + 1) + ((nN u - (a + 1)) + (10 - nN u)) by omega, itr_add, itr_add]
    rw [show (a + 1) + ((nN u - (a + 1)) + (10 - nN u)) = 10 by omega]
    rw [itr_id (f := pf u) (a + 1) (10 * a) s (fun i s h1 h2 => by
      have e := hd (i - 10 * a) (by omega)
      rw [show 10 * a + (i - 10 * a) = i by omega] at e
      rw [pf, e.1, e.2, if_neg (by omega)])]
    rw [itr_sh (f := pf u) (g := prS u.1 u.2.1 u.2.2.1 (nH u) a) (k := 10 * a) (nN u - (a + 1)) (a + 1) s (fun i s h1 h2 => by
      have e := hd i (by omega)
      rw [pf, e.1, e.2, prS]
      have m1 : mayN u a = may u.1 u.2.2.1 a := by rw [mayN, decide_eq_true h]; rfl
      have m2 : mayN u i = may u.1 u.2.2.1 i := by rw [mayN, decide_eq_true (show i < nN u by omega)]; rfl
      rw [m1, m2, show tog u.1 u.2.1 (nH u) a i = togU u a i from rfl]
      by_cases c : may u.1 u.2.2.1 a = true ∧ may u.1 u.2.2.1 i = true ∧ ¬ nI (togU u a i) ≤ s.2
      · rw [if_pos ⟨by omega, c⟩, if_pos c]
      · rw [if_neg (fun z => c z.2), if_neg c])]
    refine itr_id (f := pf u) _ _ _ (fun i s h1 h2 => ?_)
    have e := hd (i - 10 * a) (by omega)
    rw [show 10 * a + (i - 10 * a) = i by omega] at e
    rw [pf, e.1, e.2, if_neg (fun z => by
      have := z.2.2.1
      rw [mayN, decide_eq_false (show ¬ i - 10 * a < nN u by omega)] at this
      cases this)]
  · rw [if_neg h]
    refine itr_id (f := pf u) _ _ _ (fun i s h1 h2 => ?_)
    have e := hd (i - 10 * a) (by omega)
    rw [show 10 * a + (i - 10 * a) = i by omega] at e
    rw [pf, e.1, e.2, if_neg (fun z => by
      have := z.2.1
      rw [mayN, decide_eq_false h] at this
      cases this)]
theorem pf_prU (u : NS) (hu : nN u ≤ 5) : itr (pf u) 50 0 (-1, -1) = prU u := by
  have run : ∀ (m a : Nat) (s : Int32 × Int32), a + m ≤ 5 → itr (pf u) (10 * m) (10 * a) s = itr (prO u.1 u.2.1 u.2.2.1 (nN u) (nH u)) (min (a + m) (nN u) - a) a s := by
    intro m
    induction m with
    | zero => intro a s _; rw [show min (a + 0) (nN u) - a = 0 by omega]; rfl
    | succ m ih =>
      intro a s h
      rw [show 10 * (m + 1) = 10 + 10 * m by omega, itr_add, pf_blk u hu a (by omega), show 10 * a + 10 = 10 * (a + 1) by omega, ih (a + 1) _ (by omega)]
      by_cases c : a < nN u
      · rw [if_pos c, show min (a + (m + 1)) (nN u) - a = (min (a + 1 + m) (nN u) - (a + 1)) + 1 by omega, itr]; rfl
      · rw [if_neg c, show min (a + (m + 1)) (nN u) - a = 0 by omega, show min (a + 1 + m) (nN u) - (a + 1) = 0 by omega]; rfl
  have h := run 5 0 (-1, -1) (by omega)
  rw [show min (0 + 5) (nN u) - 0 = nN u by omega] at h
  rw [show (50 : Nat) = 10 * 5 from rfl, show (0 : Nat) = 10 * 0 from rfl, h]
  obtain ⟨kf, tf, sl, bf, n, d, hh⟩ := u
  rfl
/-- what was seen lies within the looks -/
def vok (v : SS) : Prop := v.2.2 ≤ 6 ∧ ∀ i, i < v.2.2 → ∃ k, k ≤ 12 ∧ v.1 i = nI k
def sFit (B : Nat → Int32) (v : SS) : Nat → Bool
  | 0 => true
  | k + 1 => sFit B v k && decide (B (v.1 k).toNatClampNeg = v.2.1 k)
theorem sFit_iff (B : Nat → Int32) (v : SS) : ∀ m, sFit B v m = true ↔ ∀ i, i < m → B (v.1 i).toNatClampNeg = v.2.1 i
  | 0 => ⟨fun _ i h => absurd h (Nat.not_lt_zero _), fun _ => rfl⟩
  | m + 1 => by
    rw [sFit, Bool.and_eq_true, sFit_iff B v m, decide_eq_true_iff]
    constructor
    · intro h i hi
      by_cases e : i = m
      · subst e; exact h.2
      · exact h.1 i (by omega)
    · intro h; exact ⟨fun i hi => h i (by omega), h m (by omega)⟩
theorem alr_iff (hs wh : Nat → Int32) (b w : Int32) : ∀ f i, alr hs wh b w f i = true ↔ ∀ m, i ≤ m → m < i + f → hs m = b → wh m = w
  | 0, i => ⟨fun _ m h1 h2 => absurd h2 (by omega), fun _ => rfl⟩
  | f + 1, i => by
    rw [alr]
    by_cases c : hs i = b ∧ ¬ wh i = w
    · rw [if_pos c]
      exact ⟨fun h => (by cases h), fun h => absurd (h i (Nat.le_refl _) (by omega) c.1) c.2⟩
    · rw [if_neg c, alr_iff hs wh b w f (i + 1)]
      constructor
      · intro h m h1 h2 h3
        by_cases e : m = i
        · subst e
          exact Classical.byContradiction (fun z => c ⟨h3, z⟩)
        · exact h m (by omega) (by omega) h3
      · intro h m h1 h2 h3; exact h m (by omega) (by omega) h3
theorem soB_iff (v : SS) (B : Nat → Int32) : ∀ m, soB v B m = true ↔ ∀ k, k < m → ∀ i, i < v.2.2 → v.1 i = nI k → v.2.1 i = B k
  | 0 => ⟨fun _ k h => absurd h (Nat.not_lt_zero _), fun _ => rfl⟩
  | m + 1 => by
    rw [soB, Bool.and_eq_true, soB_iff v B m, alr_iff]
    constructor
    · intro h k hk i hi
      by_cases e : k = m
      · subst e; exact h.2 i (Nat.zero_le _) (by omega)
      · exact h.1 k (by omega) i hi
    · intro h; exact ⟨fun k hk => h k (by omega), fun i _ hi => h m (by omega) i (by omega)⟩
theorem soB_sFit {v : SS} (hv : vok v) (B : Nat → Int32) : sFit B v v.2.2 = soB v B 13 := by
  rw [Bool.eq_iff_iff, sFit_iff, soB_iff]
  constructor
  · intro h k hk i hi e
    have := h i hi
    rw [e, nI_clamp (by omega)] at this
    exact this.symm
  · intro h i hi
    obtain ⟨k, hk, e⟩ := hv.2 i hi
    rw [e, nI_clamp (by omega)]
    exact (h k (by omega) i hi e).symm
theorem sFit_cong {B C : Nat → Int32} {v : SS} (hv : vok v) (h : ∀ k, k < 13 → B k = C k) : ∀ m, m ≤ v.2.2 → sFit B v m = sFit C v m
  | 0, _ => rfl
  | m + 1, hm => by
    obtain ⟨k, hk, e⟩ := hv.2 m (by omega)
    rw [sFit, sFit, sFit_cong hv h m (by omega), e, nI_clamp (by omega), h k (by omega)]
theorem btF_cong {f g : Nat → Bool} : ∀ {m : Nat}, (∀ i, i < m → f i = g i) → btF f m = btF g m
  | 0, _ => rfl
  | m + 1, h => by rw [btF, btF, btF_cong (fun i hi => h i (by omega)), h m (by omega)]
/-- how tired one may be, by the table -/
def bitsW (wy : Nat → Int32) (v : SS) : Int32 := btF (fun t => sFit (fun k => wy (13 * t + k)) v v.2.2) 10
theorem bitsW_U {wy : Nat → Int32} {u : NS} {v : SS} {j : Nat} (hv : vok v) (h : ∀ t k, t < 10 → k < 13 → wy (13 * t + k) = bed u j t k) : bitsW wy v = bitsU u v j := by
  rw [bitsW, bitsU]
  refine btF_cong (fun t ht => ?_)
  rw [sFit_cong hv (C := bed u j t) (fun k hk => h t k ht hk) _ (Nat.le_refl _), soB_sFit hv]
theorem lok_far (bits : Int32) (B : Nat → Nat → Int32) (n F : Nat) (hF : 11 ≤ F) : (itr (lokS bits B n) 13 0 (-1, F)).1 = (itr (lokS bits B n) 13 0 (-1, 11)).1 := by
  have h : ∀ F, 11 ≤ F → lokS bits B n 0 (-1, F) = (nI 0, worB bits (fun t => B t 0) (n + 1)) := fun F hF => by
    have := worB_le bits (fun t => B t 0) (n + 1)
    rw [lokS, if_pos (show _ < F by omega)]
  show (itr (lokS bits B n) 12 1 (lokS bits B n 0 (-1, F))).1 = (itr (lokS bits B n) 12 1 (lokS bits B n 0 (-1, 11))).1
  rw [h F hF, h 11 (Nat.le_refl _)]
theorem lokS_cong {bits : Int32} {B C : Nat → Nat → Int32} {n k : Nat} (h : ∀ t, t < 10 → B t k = C t k) (s : Int32 × Nat) : lokS bits B n k s = lokS bits C n k s := by
  rw [lokS, lokS, worB_cong h]
/-! beds don't look at the hours had -/
theorem setB_ph (u : NS) (bf : Nat → Int32) : ∃ bf', ph (setB u bf) = setB (ph u) bf' := by
  obtain ⟨kf, tf, sl, b0, n, d, hh⟩ := u
  exact ⟨_, rfl⟩
theorem setB_hrs (u : NS) (bf : Nat → Int32) : ∀ k, ∃ bf', hrs k (setB u bf) = setB (hrs k u) bf'
  | 0 => ⟨bf, rfl⟩
  | k + 1 => by
    obtain ⟨b1, e1⟩ := setB_hrs u bf k
    obtain ⟨b2, e2⟩ := setB_ph (hrs k u) b1
    exact ⟨b2, by rw [hrs, e1, e2]; rfl⟩
theorem setB_wb (u : NS) (bf : Nat → Int32) : wbU (setB u bf) = wbU u := by obtain ⟨kf, tf, sl, b0, n, d, hh⟩ := u; rfl
theorem setB_wak (u : NS) (bf : Nat → Int32) (j : Nat) (t : Int32) : wak (setB u bf) j t = setB (wak u j t) bf := by obtain ⟨kf, tf, sl, b0, n, d, hh⟩ := u; rfl
theorem setB_bed (u : NS) (bf : Nat → Int32) (l t k : Nat) : bed (setB u bf) l t k = bed u l t k := by
  obtain ⟨b, e⟩ := setB_hrs (wak u l (nI t)) bf k
  rw [bed, bed, setB_wak, e, setB_wb]
theorem bed_l0 {u w : NS} {o : OS} {sv : Nat → Int32} (hn : nN u ≤ 5) (f : frm u w) (h1 : sv = (bgO u o).2.2.1) (j t k : Nat) : bed (ldU 0 w sv) j t k = bed u j t k := by
  obtain ⟨ho, as, sv0, sd, wy, se, hh⟩ := o
  have e := eqN_ld (bf := u.2.2.2.1) (lv := 0) (sv := sv) hn f (fun i hi => by rw [h1]; exact svW_t hi) (fun i hi => by rw [h1]; exact svW_s hi) (by rw [h1]; exact svW_h (lv := 0) (u := u) (sv := sv0)) (fun _ _ => rfl)
  rw [← e.dE j t k, setB_bed]
theorem okN_l0 {u w : NS} {o : OS} {sv : Nat → Int32} (hk : okN u) (f : frm u w) (h1 : sv = (bgO u o).2.2.1) : okN (ldU 0 w sv) := by
  obtain ⟨ho, as, sv0, sd, wy, se, hh⟩ := o
  have e := eqN_ld (bf := u.2.2.2.1) (lv := 0) (sv := sv) hk.1 f (fun i hi => by rw [h1]; exact svW_t hi) (fun i hi => by rw [h1]; exact svW_s hi) (by rw [h1]; exact svW_h (lv := 0) (u := u) (sv := sv0)) (fun _ _ => rfl)
  have h2 := okN_eq e.symm hk
  obtain ⟨kf, tf, sl, b0, n, d, hh⟩ := w
  exact h2
def setW (o : OS) (wy : Nat → Int32) : OS := match o with
  | (ho, as, sv, sd, _, se, hh) => (ho, as, sv, sd, wy, se, hh)
theorem setW_sv (o : OS) (wy : Nat → Int32) : (setW o wy).2.2.1 = o.2.2.1 := rfl
theorem sim_bgW {u w : NS} {o : OS} {wy : Nat → Int32} (hn : nN u ≤ 5) (f : frm u w) : sim u o (enU w (setW (bgO u o) wy)) (setW (bgO u o) wy) := by
  obtain ⟨ho, as, sv, sd, wy0, se, hh⟩ := o
  refine ⟨eqN_en (o := (ho, as, sv, sd, wy0, se, hh)) hn f rfl rfl, rfl, rfl, fun i hi => ?_, rfl⟩
  exact svW_o (Or.inr (by omega))
theorem bed_i {u : NS} {j t k : Nat} (hk : k < 13) : bed u j ((13 * t + k) / 13) ((13 * t + k) % 13) = bed u j t k := by
  rw [show (13 * t + k) / 13 = t by omega, show (13 * t + k) % 13 = k by omega]
theorem okN_hrs {u : NS} (h : okN u) : ∀ k, okN (hrs k u)
  | 0 => h
  | k + 1 => okN_ph (okN_hrs h k)
