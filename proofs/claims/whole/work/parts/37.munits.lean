/-! the reference's calls, its house in one; what a question leaves behind -/
section
variable (l : Launch) (x : Cx) (q : Nat → Nat) (u : NS) (v : SS) (g : PG) (pw : Bool × Nat) (kp : KS) (o : OS)
theorem uX6_isLodger (hn : nN u ≤ 5) (a : Int32) : MC l x 1 0 0 yX6_isLodger cX6_isLodger 2 (some .boolean) [.ref (q 0), .int a] (mb x q u v g pw kp o) (eI (bI (kn (nN u) a)) (mb x q u v g pw kp o)) := by obtain ⟨kf, tf, sl, bf, n, d, h⟩ := u; exact tX6_isLodger l x q kf tf sl bf n d h v g pw kp o hn a
theorem uX6_whose (hk : okN u) : MC l x 0 0 0 yX6_whose cX6_whose 4 (some .int) [.ref (q 0)] (mb x q u v g pw kp o) (eI (oI (wbU u)) (mb x q u v g pw kp o)) := by obtain ⟨kf, tf, sl, bf, n, d, h⟩ := u; exact tX6_whose l x q kf tf sl bf n d h v g pw kp o hk.1 hk.2.2.2
theorem uX6_sleeping (hn : nN u ≤ 5) : MC l x 0 0 0 yX6_sleeping cX6_sleeping 3 (some .int) [.ref (q 0)] (mb x q u v g pw kp o) (eI (nI (cntS u.2.2.1 (nN u))) (mb x q u v g pw kp o)) := by obtain ⟨kf, tf, sl, bf, n, d, h⟩ := u; exact tX6_sleeping l x q kf tf sl bf n d h v g pw kp o hn
theorem uX6_tiredAll (hn : nN u ≤ 5) : MC l x 0 0 0 yX6_tiredAll cX6_tiredAll 3 (some .int) [.ref (q 0)] (mb x q u v g pw kp o) (eI (sumT u.2.1 (nN u)) (mb x q u v g pw kp o)) := by obtain ⟨kf, tf, sl, bf, n, d, h⟩ := u; exact tX6_tiredAll l x q kf tf sl bf n d h v g pw kp o hn
theorem uX6_drink (hk : okN u) (j : Nat) (hj : j < nN u) : MC l x 0 0 0 yX6_drink cX6_drink 2 none [.ref (q 0), .int (nI j)] (mb x q u v g pw kp o) (eV (mb x q (cof u j) v g pw kp o)) := by
  obtain ⟨kf, tf, sl, bf, n, d, h⟩ := u
  obtain ⟨hn, _, h3, _⟩ := hk
  obtain ⟨k, hk, ht⟩ := h3 j hj
  exact tX6_drink l x q kf tf sl bf n d h v g pw kp o hn j hj k hk ht
theorem uX6_hearLecture (hk : okN u) (j : Nat) (hj : j < nN u) : MC l x 0 0 0 yX6_hearLecture cX6_hearLecture 2 none [.ref (q 0), .int (nI j)] (mb x q u v g pw kp o) (eV (mb x q (lec u (some j)) v g pw kp o)) := by
  obtain ⟨kf, tf, sl, bf, n, d, h⟩ := u
  obtain ⟨hn, _, h3, _⟩ := hk
  obtain ⟨k, hk, ht⟩ := h3 j hj
  exact tX6_hearLecture l x q kf tf sl bf n d h v g pw kp o hn j hj k hk ht
theorem uX6_goHour (hk : okN u) : MC l x 1 0 0 yX6_goHour cX6_goHour 4 none [.ref (q 0)] (mb x q u v g pw kp o) (eV (mb x q (ph u) v g pw kp o)) := by
  obtain ⟨kf, tf, sl, bf, n, d, h⟩ := u
  obtain ⟨hn, ⟨e, he, hd⟩, h3, h4⟩ := hk
  exact tX6_goHour l x q kf tf sl bf n d h v g pw kp o hn e he hd h3 h4
def svO (lv : Nat) (u : NS) (o : OS) : OS := match o with
  | (ho, as, sv, sd, wy, se, hh) => (ho, as, svW lv u sv, sd, wy, se, hh)
theorem uX6_save (lv : Nat) (hlv : lv ≤ 1) : MC l x 0 0 0 yX6_save cX6_save 3 none [.ref (q 0), .int (nI lv)] (mb x q u v g pw kp o) (eV (mb x q u v g pw kp (svO lv u o))) := by
  obtain ⟨kf, tf, sl, bf, n, d, h⟩ := u
  obtain ⟨ho, as, sv, sd, wy, se, hh⟩ := o
  exact tX6_save l x q kf tf sl bf n d h v g pw kp ho as sv sd wy se hh lv hlv
theorem uX6_load (lv : Nat) (hlv : lv ≤ 1) : MC l x 0 0 0 yX6_load cX6_load 3 none [.ref (q 0), .int (nI lv)] (mb x q u v g pw kp o) (eV (mb x q (ldU lv u o.2.2.1) v g pw kp o)) := by
  obtain ⟨kf, tf, sl, bf, n, d, h⟩ := u
  obtain ⟨ho, as, sv, sd, wy, se, hh⟩ := o
  exact tX6_load l x q kf tf sl bf n d h v g pw kp ho as sv sd wy se hh lv hlv
theorem uX6_begin : MC l x 1 0 0 yX6_begin cX6_begin 2 none [.ref (q 0)] (mb x q u v g pw kp o) (eV (mb x q u v g pw kp (bgO u o))) := by
  obtain ⟨kf, tf, sl, bf, n, d, h⟩ := u
  obtain ⟨ho, as, sv, sd, wy, se, hh⟩ := o
  exact tX6_begin l x q kf tf sl bf n d h v g pw kp ho as sv sd wy se hh
theorem uX6_end : MC l x 1 0 0 yX6_end cX6_end 2 none [.ref (q 0)] (mb x q u v g pw kp o) (eV (mb x q (enU u o) v g pw kp o)) := by
  obtain ⟨kf, tf, sl, bf, n, d, h⟩ := u
  obtain ⟨ho, as, sv, sd, wy, se, hh⟩ := o
  exact tX6_end l x q kf tf sl bf n d h v g pw kp ho as sv sd wy se hh
end
/-- an answer; the house as before -/
def pM (x : Cx) (q : Nat → Nat) (u : NS) (v : SS) (g : PG) (pw : Bool × Nat) (kp : KS) (o : OS) (R : Int32) : Option Value → va_W → Prop := eX R (fun ws => ∃ (u' : NS) (o' : OS), sim u o u' o' ∧ ws = mb x q u' v g pw kp o')
theorem sim_bg {u w : NS} {o : OS} (hn : nN u ≤ 5) (f : frm u w) : sim u o (enU w (bgO u o)) (bgO u o) := by
  refine ⟨eqN_en hn f rfl rfl, ?_, ?_, fun i hi => ?_, rfl⟩
  · obtain ⟨ho, as, sv, sd, wy, se, hh⟩ := o; rfl
  · obtain ⟨ho, as, sv, sd, wy, se, hh⟩ := o; rfl
  · obtain ⟨ho, as, sv, sd, wy, se, hh⟩ := o
    exact svW_o (Or.inr (by omega))
theorem wq_t {u : NS} {j : Nat} (hu : nN u ≤ 5) (hj : j < 2 ^ 31) (h : oI (wbU u) = nI j) : (wbU u == some j) = true := by
  rw [(oI_eq hj (fun i e => by have := wbU_lt e; omega)).mp h.symm]; simp
theorem wq_f {u : NS} {j : Nat} (hu : nN u ≤ 5) (hj : j < 2 ^ 31) (h : ¬ oI (wbU u) = nI j) : (wbU u == some j) = false := by
  have : ¬ wbU u = some j := fun e => h ((oI_eq hj (fun i e => by have := wbU_lt e; omega)).mpr e).symm
  simp [this]
theorem wq_0t {u : NS} (hu : nN u ≤ 5) (h : oI (wbU u) = 0) : (wbU u == some 0) = true := wq_t hu (by decide) h
theorem wq_0f {u : NS} (hu : nN u ≤ 5) (h : ¬ oI (wbU u) = 0) : (wbU u == some 0) = false := wq_f hu (by decide) h
def kbt : Nat → NS → Nat → Bool
  | 0, _, _ => true
  | m + 1, u, j => (wbU (ph u) == some j) && kbt m (ph u) j
theorem kb_kbt (j : Nat) : ∀ (m : Nat) (u : NS), kb m u j = ((wbU u == some j) && kbt m u j)
  | 0, u => by simp [kb, kbt]
  | m + 1, u => by rw [kb, kb_kbt j m (ph u)]; rfl
theorem okN_cfs {u : NS} (h : okN u) (j : Nat) (hj : j < nN u) : ∀ k, okN (cfs k u j)
  | 0 => h
  | k + 1 => okN_cof (okN_cfs h j hj k) j (by rw [nN_cfs]; exact hj)
theorem frm.cfs {u w : NS} (h : frm u w) (j : Nat) : ∀ k, frm u (cfs k w j)
  | 0 => h
  | k + 1 => (frm.cfs h j k).cof j
theorem frm.nE {u w : NS} (h : frm u w) : nN w = nN u := h.2.1
theorem okN.n5 {u : NS} (h : okN u) : nN u ≤ 5 := h.1
theorem eqN.fcE {u w : NS} (h : eqN u w) {j : Nat} (hj : j < nN u) (hh : Nat) : ∀ (f c : Nat), fcr u j hh f c = fcr w j hh f c
  | 0, _ => rfl
  | f + 1, c => by rw [fcr, fcr, (h.fE hj c).bE, eqN.fcE h hj hh f (c + 1)]
/-! lectures: a code of base six, and the one best of all codes -/
def hbC : Nat → NS → Nat → Nat → Nat
  | 0, _, _, _ => 1
  | f + 1, u, l, c => if c / 6 ^ f = 0 ∨ (c / 6 ^ f ≤ nN u ∧ ¬ c / 6 ^ f = l + 1) then (if hbC f (ph (lec u (oc (c / 6 ^ f)))) l (c % 6 ^ f) = 0 then 0 else hbC f (ph (lec u (oc (c / 6 ^ f)))) l (c % 6 ^ f) + (if wbU (lec u (oc (c / 6 ^ f))) == some l then 1 else 0)) else 0
def bst (g : Nat → Nat) (c : Nat) (s : Nat × Nat) : Nat × Nat := if g c ≤ s.1 then s else (g c, c)
def sc (f : Nat) (u : NS) (l : Nat) : Nat × Nat := itr (bst (hbC f u l)) (6 ^ f) 0 (0, 0)
def lnS (val : Nat → Nat) (l : Nat) (c : Nat) (s : Nat × Nat) : Nat × Nat := if c = l + 1 then s else if val c ≤ s.1 then s else (val c, c)
def mn : Nat → NS → Nat → Nat × Nat
  | 0, _, _ => (1, 0)
  | f + 1, u, l => itr (lnS (fun c => (mn f (ph (lec u (oc c))) l).1 + (if wbU (lec u (oc c)) == some l then 1 else 0)) l) (nN u + 1) 0 (0, 0)
theorem itr_add {σ : Type} (f : Nat → σ → σ) : ∀ (m n b : Nat) (s : σ), itr f (m + n) b s = itr f n (b + m) (itr f m b s)
  | 0, n, b, s => by rw [Nat.zero_add]; rfl
  | m + 1, n, b, s => by
    rw [show m + 1 + n = (m + n) + 1 by omega, itr, itr, itr_add f m n (b + 1), show b + 1 + m = b + (m + 1) by omega]
theorem bst_le {g : Nat → Nat} {c : Nat} {s : Nat × Nat} (h : g c ≤ s.1) : bst g c s = s := if_pos h
theorem bst_gt {g : Nat → Nat} {c : Nat} {s : Nat × Nat} (h : ¬ g c ≤ s.1) : bst g c s = (g c, c) := if_neg h
/-- from another start: as from nothing, if that is more -/
theorem bst_from (g : Nat → Nat) : ∀ (n b : Nat) (s : Nat × Nat), itr (bst g) n b s = if (itr (bst g) n b (0, 0)).1 ≤ s.1 then s else itr (bst g) n b (0, 0)
  | 0, b, s => by rw [itr, itr, if_pos (Nat.zero_le _)]
  | n + 1, b, s => by
    rw [itr, itr, bst_from g n (b + 1) (bst g b s), bst_from g n (b + 1) (bst g b (0, 0))]
    generalize itr (bst g) n (b + 1) (0, 0) = t
    by_cases h1 : g b ≤ s.1
    · rw [bst_le h1]
      by_cases h2 : g b ≤ 0
      · rw [bst_le (s := (0, 0)) h2]
        by_cases h3 : t.1 ≤ 0
        · rw [if_pos (show t.1 ≤ s.1 by omega), if_pos (show t.1 ≤ ((0, 0) : Nat × Nat).1 from h3), if_pos (show ((0, 0) : Nat × Nat).1 ≤ s.1 from Nat.zero_le _)]
        · rw [if_neg (show ¬ t.1 ≤ ((0, 0) : Nat × Nat).1 from h3)]
      · rw [bst_gt (s := (0, 0)) h2]
        by_cases h3 : t.1 ≤ g b
        · rw [if_pos (show t.1 ≤ s.1 by omega), if_pos (show t.1 ≤ (g b, b).1 from h3), if_pos (show (g b, b).1 ≤ s.1 from h1)]
        · rw [if_neg (show ¬ t.1 ≤ (g b, b).1 from h3)]
    · rw [bst_gt h1, bst_gt (s := (0, 0)) (show ¬ g b ≤ 0 by omega)]
      by_cases h3 : t.1 ≤ g b
      · rw [if_pos (show t.1 ≤ (g b, b).1 from h3), if_neg (show ¬ (g b, b).1 ≤ s.1 from h1)]
      · rw [if_neg (show ¬ t.1 ≤ (g b, b).1 from h3), if_neg (show ¬ t.1 ≤ s.1 by omega)]
theorem bst_zero {g : Nat → Nat} : ∀ (n b : Nat) (s : Nat × Nat), (∀ i, b ≤ i → i < b + n → g i = 0) → itr (bst g) n b s = s
  | 0, _, _, _ => rfl
  | n + 1, b, s, h => by
    rw [itr, bst, if_pos (by rw [h b (Nat.le_refl _) (by omega)]; exact Nat.zero_le _)]
    exact bst_zero n (b + 1) s (fun i h1 h2 => h i (by omega) (by omega))
theorem bst_shift {g g' : Nat → Nat} {k e : Nat} : ∀ (n b : Nat) (s t : Nat × Nat), (∀ i, b ≤ i → i < b + n → g (k + i) = if g' i = 0 then 0 else g' i + e) → (s.1 = if t.1 = 0 then 0 else t.1 + e) → (0 < t.1 → s.2 = k + t.2) → (itr (bst g) n (k + b) s).1 = (if (itr (bst g') n b t).1 = 0 then 0 else (itr (bst g') n b t).1 + e) ∧ (0 < (itr (bst g') n b t).1 → (itr (bst g) n (k + b) s).2 = k + (itr (bst g') n b t).2)
  | 0, _, _, _, _, h1, h2 => ⟨h1, h2⟩
  | n + 1, b, s, t, hg, h1, h2 => by
    rw [itr, itr, show k + b + 1 = k + (b + 1) by omega]
    have e1 := hg b (Nat.le_refl _) (by omega)
    have key : ((bst g (k + b) s).1 = if (bst g' b t).1 = 0 then 0 else (bst g' b t).1 + e) ∧ (0 < (bst g' b t).1 → (bst g (k + b) s).2 = k + (bst g' b t).2) := by
      by_cases z1 : g' b = 0
      · rw [if_pos z1] at e1
        rw [bst_le (g := g) (by omega), bst_le (g := g') (by omega)]
        exact ⟨h1, h2⟩
      · rw [if_neg z1] at e1
        by_cases z2 : t.1 = 0
        · rw [if_pos z2] at h1
          rw [bst_gt (g := g) (by omega), bst_gt (g := g') (by omega)]
          refine ⟨?_, fun _ => rfl⟩
          show g (k + b) = if g' b = 0 then 0 else g' b + e
          rw [if_neg z1, e1]
        · rw [if_neg z2] at h1
          by_cases z3 : g' b ≤ t.1
          · rw [bst_le (g := g) (by omega), bst_le (g := g') z3, if_neg z2]
            exact ⟨h1, h2⟩
          · rw [bst_gt (g := g) (by omega), bst_gt (g := g') z3]
            refine ⟨?_, fun _ => rfl⟩
            show g (k + b) = if g' b = 0 then 0 else g' b + e
            rw [if_neg z1, e1]
    exact bst_shift n (b + 1) _ _ (fun i a c => hg i (by omega) (by omega)) key.1 key.2
theorem bst_lt {g : Nat → Nat} : ∀ (n b : Nat) (s : Nat × Nat) (m : Nat), s.2 < m → b + n ≤ m → (itr (bst g) n b s).2 < m
  | 0, _, _, _, h, _ => h
  | n + 1, b, s, m, h, h2 => by
    rw [itr]
    refine bst_lt n (b + 1) _ m ?_ (by omega)
    rw [bst]
    split
    · exact h
    · show b < m; omega
theorem lnS_inv {val : Nat → Nat} {l c : Nat} {s : Nat × Nat} (P : Nat × Nat → Prop) (h : P s) (h2 : P (val c, c)) : P (lnS val l c s) := by
  rw [lnS]
  split
  · exact h
  · split
    · exact h
    · exact h2
theorem mn_pos : ∀ (f : Nat) (u : NS) (l : Nat), 1 ≤ (mn f u l).1
  | 0, _, _ => Nat.le_refl _
  | f + 1, u, l => by
    rw [mn, itr]
    have h0 : ∀ (c b : Nat) (s : Nat × Nat) (val : Nat → Nat), 1 ≤ s.1 → 1 ≤ (itr (lnS val l) c b s).1 := by
      intro c
      induction c with
      | zero => intro b s val h; exact h
      | succ c ih =>
        intro b s val h
        rw [itr]
        refine ih _ _ _ ?_
        rw [lnS]
        split
        · exact h
        · split
          · exact h
          · show 1 ≤ val b; omega
    refine h0 _ _ _ _ ?_
    have hv := mn_pos f (ph (lec u (oc 0))) l
    rw [lnS, if_neg (by omega)]
    rw [if_neg (by show ¬ _ + _ ≤ 0; omega)]
    show 1 ≤ _ + _
    omega
theorem hb_div {k c i : Nat} (hi : i < k) : (c * k + i) / k = c ∧ (c * k + i) % k = i := by
  have hk : 0 < k := by omega
  constructor
  · rw [Nat.mul_comm, Nat.mul_add_div hk, Nat.div_eq_of_lt hi, Nat.add_zero]
  · rw [Nat.mul_comm, Nat.mul_add_mod, Nat.mod_eq_of_lt hi]
theorem scan_mn : ∀ (f : Nat) (u : NS) (l : Nat), nN u ≤ 5 → (sc f u l).1 = (mn f u l).1 ∧ (∀ f', f = f' + 1 → (sc f u l).2 / 6 ^ f' = (mn f u l).2)
  | 0, u, l, _ => ⟨rfl, fun f' e => by omega⟩
  | f + 1, u, l, hu => by
    have hk : 0 < 6 ^ f := Nat.pow_pos (by decide)
    -- a block
    have blk : ∀ c, c < 6 → ∀ s : Nat × Nat, itr (bst (hbC (f + 1) u l)) (6 ^ f) (c * 6 ^ f) s = if c = 0 ∨ (c ≤ nN u ∧ ¬ c = l + 1) then (if (mn f (ph (lec u (oc c))) l).1 + (if wbU (lec u (oc c)) == some l then 1 else 0) ≤ s.1 then s else ((mn f (ph (lec u (oc c))) l).1 + (if wbU (lec u (oc c)) == some l then 1 else 0), c * 6 ^ f + (sc f (ph (lec u (oc c))) l).2)) else s := by
      intro c hc s
      have hv : ∀ i, i < 6 ^ f → hbC (f + 1) u l (c * 6 ^ f + i) = if c = 0 ∨ (c ≤ nN u ∧ ¬ c = l + 1) then (if hbC f (ph (lec u (oc c))) l i = 0 then 0 else hbC f (ph (lec u (oc c))) l i + (if wbU (lec u (oc c)) == some l then 1 else 0)) else 0 := by
        intro i hi
        rw [hbC, (hb_div hi).1, (hb_div hi).2]
      by_cases hval : c = 0 ∨ (c ≤ nN u ∧ ¬ c = l + 1)
      · rw [if_pos hval, bst_from]
        have h1 := bst_shift (g := hbC (f + 1) u l) (g' := hbC f (ph (lec u (oc c))) l) (k := c * 6 ^ f) (e := if wbU (lec u (oc c)) == some l then 1 else 0) (6 ^ f) 0 (0, 0) (0, 0) (fun i _ hi => by rw [hv i (by omega), if_pos hval]) rfl (fun h => absurd h (Nat.lt_irrefl 0))
        have h2 := scan_mn f (ph (lec u (oc c))) l (by rw [nN_ph, nN_lec]; exact hu)
        have h3 := mn_pos f (ph (lec u (oc c))) l
        rw [show c * 6 ^ f + 0 = c * 6 ^ f from rfl] at h1
        have h4 : (itr (bst (hbC f (ph (lec u (oc c))) l)) (6 ^ f) 0 (0, 0)).1 = (mn f (ph (lec u (oc c))) l).1 := h2.1
        rw [h4, if_neg (by omega)] at h1
        rw [h1.1]
        congr 1
        exact Prod.ext h1.1 (h1.2 (by omega))
      · rw [if_neg hval]
        refine bst_zero _ _ _ (fun i h1 h2 => ?_)
        have := hv (i - c * 6 ^ f) (by omega)
        rw [show c * 6 ^ f + (i - c * 6 ^ f) = i by omega, if_neg hval] at this
        exact this
    have run : ∀ (m c : Nat) (s t : Nat × Nat), c + m ≤ 6 → s.1 = t.1 → s.2 / 6 ^ f = t.2 → (c = 0 ∨ 1 ≤ c) → (itr (bst (hbC (f + 1) u l)) (m * 6 ^ f) (c * 6 ^ f) s).1 = (itr (lnS (fun c => (mn f (ph (lec u (oc c))) l).1 + (if wbU (lec u (oc c)) == some l then 1 else 0)) l) (min (c + m) (nN u + 1) - c) c t).1 ∧ (itr (bst (hbC (f + 1) u l)) (m * 6 ^ f) (c * 6 ^ f) s).2 / 6 ^ f = (itr (lnS (fun c => (mn f (ph (lec u (oc c))) l).1 + (if wbU (lec u (oc c)) == some l then 1 else 0)) l) (min (c + m) (nN u + 1) - c) c t).2 := by
      intro m
      induction m with
      | zero =>
        intro c s t h1 h2 h3 _
        rw [Nat.zero_mul, show min (c + 0) (nN u + 1) - c = 0 by omega]
        exact ⟨h2, h3⟩
      | succ m ih =>
        intro c s t h1 h2 h3 _
        have hs : (m + 1) * 6 ^ f = 6 ^ f + m * 6 ^ f := by rw [Nat.add_mul, Nat.one_mul, Nat.add_comm]
        have hb : c * 6 ^ f + 6 ^ f = (c + 1) * 6 ^ f := by rw [Nat.add_mul, Nat.one_mul]
        rw [hs, itr_add, hb, blk c (by omega) s]
        by_cases hin : c < nN u + 1
        · rw [show min (c + (m + 1)) (nN u + 1) - c = (min (c + 1 + m) (nN u + 1) - (c + 1)) + 1 by omega, itr]
          refine ih (c + 1) _ _ (by omega) ?_ ?_ (Or.inr (by omega))
          · by_cases hl : c = l + 1
            · rw [if_neg (by omega), lnS, if_pos hl]; exact h2
            · rw [if_pos (by omega), lnS, if_neg hl, h2]
              generalize (mn f (ph (lec u (oc c))) l).1 + (if wbU (lec u (oc c)) == some l then 1 else 0) = z
              by_cases hz : z ≤ t.1
              · rw [if_pos hz, if_pos hz]; exact h2
              · rw [if_neg hz, if_neg hz]
          · by_cases hl : c = l + 1
            · rw [if_neg (by omega), lnS, if_pos hl]; exact h3
            · rw [if_pos (by omega), lnS, if_neg hl, h2]
              have hlt : (sc f (ph (lec u (oc c))) l).2 < 6 ^ f := bst_lt _ _ _ _ hk (by omega)
              generalize (mn f (ph (lec u (oc c))) l).1 + (if wbU (lec u (oc c)) == some l then 1 else 0) = z
              by_cases hz : z ≤ t.1
              · rw [if_pos hz, if_pos hz]; exact h3
              · rw [if_neg hz, if_neg hz]; exact (hb_div hlt).1
        · rw [if_neg (by omega)]
          have := ih (c + 1) s t (by omega) h2 h3 (Or.inr (by omega))
          rw [show min (c + 1 + m) (nN u + 1) - (c + 1) = 0 by omega] at this
          rw [show min (c + (m + 1)) (nN u + 1) - c = 0 by omega]
          exact this
    have h := run 6 0 (0, 0) (0, 0) (by omega) rfl (Nat.zero_div _) (Or.inl rfl)
    rw [Nat.zero_mul, show min (0 + 6) (nN u + 1) - 0 = nN u + 1 by omega, show 6 * 6 ^ f = 6 ^ (f + 1) by rw [Nat.pow_succ, Nat.mul_comm]] at h
    exact ⟨h.1, fun f' e => by obtain rfl : f = f' := by omega
                               exact h.2⟩
theorem oc_bI (b : Bool) {m : Nat} (h : 1 ≤ m) : bI b + oI (oc m) = oI (oc (m + (if b then 1 else 0))) := by
  obtain ⟨k, rfl⟩ : ∃ k, m = k + 1 := ⟨m - 1, by omega⟩
  cases b
  · show (0 : Int32) + nI k = nI k
    exact Int32.zero_add _
  · show (1 : Int32) + nI k = nI (k + 1)
    rw [Int32.add_comm]; exact nI_1 k
theorem oc_leI {a b : Nat} (ha : a < 2 ^ 31) (hb : b < 2 ^ 31) : oI (oc a) ≤ oI (oc b) ↔ a ≤ b := by
  cases a with
  | zero =>
    refine ⟨fun _ => Nat.zero_le _, fun _ => ?_⟩
    cases b with
    | zero => exact Int32.le_refl _
    | succ b =>
      show (-1 : Int32) ≤ nI b
      rw [Int32.le_iff_toInt_le, nI_toInt (by omega)]
      have : (-1 : Int32).toInt = -1 := by decide
      omega
  | succ a => exact oc_ge (c := b) (n := a) hb (by omega)
theorem mn_le : ∀ (f : Nat) (u : NS) (l : Nat), (mn f u l).1 ≤ f + 1 ∧ (mn f u l).2 ≤ nN u
  | 0, _, _ => ⟨Nat.le_refl _, Nat.zero_le _⟩
  | f + 1, u, l => by
    rw [mn]
    refine itr_inv (fun s : Nat × Nat => s.1 ≤ f + 1 + 1 ∧ s.2 ≤ nN u) _ _ _ ⟨Nat.zero_le _, Nat.zero_le _⟩ (fun i s h1 h2 h3 => ?_)
    have := (mn_le f (ph (lec u (oc i))) l).1
    refine lnS_inv (fun s : Nat × Nat => s.1 ≤ f + 1 + 1 ∧ s.2 ≤ nN u) h3 ⟨?_, by show i ≤ nN u; omega⟩
    show _ + (if _ then 1 else 0) ≤ f + 1 + 1
    split <;> omega
theorem mst_mn : ∀ (f : Nat) (u : NS) (l : Nat), f ≤ 3 → mst f u l = (oI (oc (mn f u l).1), oI (oc (mn f u l).2))
  | 0, _, _, _ => rfl
  | f + 1, u, l, hf => by
    rw [mst, mn]
    have run : ∀ (n b : Nat) (s : Nat × Nat), s.1 ≤ f + 2 → itr (lvS (fun o => bI (wbU (lec u o) == some l) + (mst f (ph (lec u o)) l).1) l) n b (oI (oc s.1), oI (oc s.2)) = (oI (oc (itr (lnS (fun c => (mn f (ph (lec u (oc c))) l).1 + (if wbU (lec u (oc c)) == some l then 1 else 0)) l) n b s).1), oI (oc (itr (lnS (fun c => (mn f (ph (lec u (oc c))) l).1 + (if wbU (lec u (oc c)) == some l then 1 else 0)) l) n b s).2)) := by
      intro n
      induction n with
      | zero => intro b s _; rfl
      | succ n ih =>
        intro b s hs
        have h1 := mn_pos f (ph (lec u (oc b))) l
        have h2 := (mn_le f (ph (lec u (oc b))) l).1
        have h3 : (mn f (ph (lec u (oc b))) l).1 + (if wbU (lec u (oc b)) == some l then 1 else 0) ≤ f + 2 := by split <;> omega
        rw [itr, itr]
        have hst : lvS (fun o => bI (wbU (lec u o) == some l) + (mst f (ph (lec u o)) l).1) l b (oI (oc s.1), oI (oc s.2)) = (oI (oc (lnS (fun c => (mn f (ph (lec u (oc c))) l).1 + (if wbU (lec u (oc c)) == some l then 1 else 0)) l b s).1), oI (oc (lnS (fun c => (mn f (ph (lec u (oc c))) l).1 + (if wbU (lec u (oc c)) == some l then 1 else 0)) l b s).2)) := by
          rw [lvS, lnS]
          by_cases hl : b = l + 1
          · rw [if_pos hl, if_pos hl]
          · rw [if_neg hl, if_neg hl]
            simp only [mst_mn f (ph (lec u (oc b))) l (by omega), oc_bI _ h1]
            by_cases hle : (mn f (ph (lec u (oc b))) l).1 + (if wbU (lec u (oc b)) == some l then 1 else 0) ≤ s.1
            · rw [if_pos ((oc_leI (by omega) (by omega)).mpr hle), if_pos hle]
            · rw [if_neg (mt (oc_leI (by omega) (by omega)).mp hle), if_neg hle]
        rw [hst]
        exact ih (b + 1) _ (lnS_inv (fun s : Nat × Nat => s.1 ≤ f + 2) hs h3)
    exact run (nN u + 1) 0 (0, 0) (Nat.zero_le _)
theorem hbC_le : ∀ (f : Nat) (u : NS) (l c : Nat), hbC f u l c ≤ f + 1
  | 0, _, _, _ => Nat.le_refl _
  | f + 1, u, l, c => by
    rw [hbC]
    have := hbC_le f (ph (lec u (oc (c / 6 ^ f)))) l (c % 6 ^ f)
    split
    · split
      · omega
      · split <;> omega
    · omega
theorem eqN.hcE : ∀ (f : Nat) {u w : NS} (l c : Nat), eqN u w → hbC f u l c = hbC f w l c
  | 0, _, _, _, _, _ => rfl
  | f + 1, u, w, l, c, h => by
    rw [hbC, hbC, ← h.nE]
    by_cases hv : c / 6 ^ f = 0 ∨ (c / 6 ^ f ≤ nN u ∧ ¬ c / 6 ^ f = l + 1)
    · have hl := h.lE (o := oc (c / 6 ^ f)) (fun j e => oc_lt (n := nN u) (by omega) e)
      rw [if_pos hv, if_pos hv, hl.wE, eqN.hcE f l (c % 6 ^ f) hl.pE]
    · rw [if_neg hv, if_neg hv]
theorem oc_of {c : Nat} : nI c - 1 = oI (oc c) := by
  cases c with
  | zero => decide
  | succ c => exact nI_pred c
theorem oc_m1 {c : Nat} (hc : c < 2 ^ 31) : oI (oc c) = -1 ↔ c = 0 := by
  rw [oI_m1 (fun j e => by cases c with
    | zero => cases e
    | succ c => cases e; omega)]
  cases c <;> simp [oc]
theorem nI_nm1 {j : Nat} (hj : j < 2 ^ 31) : ¬ nI j = -1 := fun e => by
  have h1 := congrArg Int32.toInt e
  rw [nI_toInt hj] at h1
  have : (-1 : Int32).toInt = -1 := by decide
  omega
theorem kn_d {n j : Nat} (hn : n < 2 ^ 31) (hj : j < 2 ^ 31) : kn n (nI j) = decide (j < n) := by
  by_cases h : j < n
  · rw [kn_t h hn, decide_eq_true h]
  · rw [decide_eq_false h]
    cases e : kn n (nI j) with
    | false => rfl
    | true =>
      obtain ⟨i, hi, e2⟩ := kn_f hn e
      exact absurd ((nI_eq hj (by omega)).mp e2) (by omega)
theorem nI_m6 (a : Nat) : nI a * 6 = nI (a * 6) := by
  rw [Int32.mul_comm]
  exact (pk_mul 6 a).trans (congrArg nI (Nat.mul_comm _ _))
theorem hbC_v {f : Nat} {w : NS} {j r D E his : Nat} (hD : D = r / 6 ^ f) (hE : E = r % 6 ^ f) (hv : D = 0 ∨ (D ≤ nN w ∧ ¬ D = j + 1)) : (if hbC (f + 1) w j r = 0 then 0 else hbC (f + 1) w j r + his) = (if hbC f (ph (lec w (oc D))) j E = 0 then 0 else hbC f (ph (lec w (oc D))) j E + (his + (if wbU (lec w (oc D)) == some j then 1 else 0))) := by
  subst hD; subst hE
  have h : hbC (f + 1) w j r = _ := rfl
  rw [hbC, if_pos hv]
  generalize hbC f (ph (lec w (oc (r / 6 ^ f)))) j (r % 6 ^ f) = z
  by_cases h0 : z = 0
  · rw [if_pos h0, if_pos rfl, if_pos h0]
  · rw [if_neg h0, if_neg (by omega), if_neg h0]
    omega
theorem hbC_n {f : Nat} {w : NS} {j r D : Nat} (hD : D = r / 6 ^ f) (hv : ¬ (D = 0 ∨ (D ≤ nN w ∧ ¬ D = j + 1))) : hbC (f + 1) w j r = 0 := by
  subst hD
  rw [hbC, if_neg hv]
theorem p6_pos (f : Nat) : 0 < 6 ^ f := Nat.pow_pos (by decide)
theorem p6_le {f : Nat} (h : f ≤ 3) : 6 ^ f ≤ 216 := Nat.pow_le_pow_right (by decide) h
theorem nI_n0 {a : Nat} (h : 0 < a) (ha : a < 2 ^ 31) : ¬ nI a = 0 := fun e => by
  have := (nI_eq (a := a) (b := 0) ha (by decide)).mp e
  omega
