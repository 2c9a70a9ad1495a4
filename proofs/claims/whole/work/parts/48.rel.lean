/-! the class and the reference side by side -/
def eqS (v w : SS) : Prop := v.2.2 = w.2.2 ∧ ∀ i, i < v.2.2 → v.1 i = w.1 i ∧ v.2.1 i = w.2.1 i
def eqP (g k : PG) : Prop := g.2 = k.2 ∧ ∀ i, i < g.2 → g.1 i = k.1 i
theorem eqP.at {g k : PG} (h : eqP g k) (p : Int32) (hn : g.2 < 2 ^ 31) : cAt g.1 g.2 p = cAt k.1 k.2 p := by
  rw [cAt, cAt, ← h.1]
  by_cases c : 0 ≤ p ∧ p < nI g.2
  · rw [if_pos c, if_pos c]
    obtain ⟨j, hj, rfl⟩ := nI_of (nlt_of_le c.1)
    rw [nI_clamp hj]
    exact h.2 j ((nI_ltI hj hn).mp c.2)
  · rw [if_neg c, if_neg c]
theorem eqP.fit {g k : PG} (h : eqP g k) {i : Nat} (hi : i < g.2) (hn : g.2 < 2 ^ 31) : fitB g.1 g.2 i = fitB k.1 k.2 i := by
  rw [fitB, fitB, h.at _ hn, h.at _ hn, h.2 i hi]
theorem eqP.ffr' {g k : PG} (h : eqP g k) (hn : g.2 < 2 ^ 31) : ∀ (f i : Nat), i + f ≤ g.2 → ffr g.1 g.2 f i = ffr k.1 k.2 f i
  | 0, _, _ => h.1
  | f + 1, i, hi => by rw [ffr, ffr, h.fit (by omega) hn, eqP.ffr' h hn f (i + 1) (by omega)]
theorem eqP.ffrE {g k : PG} (h : eqP g k) (hn : g.2 < 2 ^ 31) : ffr g.1 g.2 g.2 0 = ffr k.1 k.2 k.2 0 := by
  rw [h.ffr' hn g.2 0 (by omega), h.1]
theorem eqP.isE {g k : PG} (h : eqP g k) (hn : g.2 < 2 ^ 31) : isHB g.1 g.2 = isHB k.1 k.2 := by
  rw [isHB, isHB, h.ffrE hn, h.at _ hn, h.1]
theorem eqP.bgE {g k : PG} (h : eqP g k) (hn : g.2 < 2 ^ 31) (u w : NS) : eqN (bgn g u) (bgn k w) := by
  have ha := fun p => h.at p hn
  obtain ⟨cs, n⟩ := g
  obtain ⟨cs', n'⟩ := k
  obtain ⟨h1, h2⟩ := h
  have h1 : n = n' := h1
  subst h1
  have ha : ∀ p, cAt cs n p = cAt cs' n p := ha
  obtain ⟨kf, tf, sl, bf, n0, d, hh⟩ := u
  obtain ⟨kf', tf', sl', bf', n0', d', hh'⟩ := w
  refine ⟨?_, fun i hi => ?_⟩
  · show (min (n / 3) 5, cAt cs n (nI n - 1) - 48, (0 : Int32)) = (min (n / 3) 5, cAt cs' n (nI n - 1) - 48, 0)
    rw [ha]
  · have hi : i < min (n / 3) 5 := hi
    refine ⟨?_, ?_, ?_, ?_⟩
    · show mix (min (n / 3) 5) (fun j => kbl (cAt cs n (nI j * 3))) kf i = mix (min (n / 3) 5) (fun j => kbl (cAt cs' n (nI j * 3))) kf' i
      rw [mix_in hi, mix_in hi, ha]
    · show mix (min (n / 3) 5) (fun j => cAt cs n (nI j * 3 + 1) - 48) tf i = mix (min (n / 3) 5) (fun j => cAt cs' n (nI j * 3 + 1) - 48) tf' i
      rw [mix_in hi, mix_in hi, ha]
    · show mix (min (n / 3) 5) (fun _ => false) sl i = mix (min (n / 3) 5) (fun _ => false) sl' i
      rw [mix_in hi, mix_in hi]
    · show mix (min (n / 3) 5) (fun _ => 0) bf i = mix (min (n / 3) 5) (fun _ => 0) bf' i
      rw [mix_in hi, mix_in hi]
theorem eqS.alE {v w : SS} (h : eqS v w) (b c : Int32) : alr v.1 v.2.1 b c v.2.2 0 = alr w.1 w.2.1 b c w.2.2 0 := by
  rw [Bool.eq_iff_iff, alr_iff, alr_iff, ← h.1]
  constructor
  · intro z m h1 h2 h3
    obtain ⟨a, b⟩ := h.2 m (by omega)
    rw [← b]; exact z m h1 h2 (by rw [a]; exact h3)
  · intro z m h1 h2 h3
    obtain ⟨a, b⟩ := h.2 m (by omega)
    rw [b]; exact z m h1 h2 (by rw [← a]; exact h3)
theorem eqS.soE {v w : SS} (h : eqS v w) (B : Nat → Int32) : ∀ m, soB v B m = soB w B m
  | 0 => rfl
  | m + 1 => by rw [soB, soB, eqS.soE h B m, h.alE]
theorem eqS.btE {v w : SS} (h : eqS v w) (u : NS) (j : Nat) : bitsU u v j = bitsU u w j := by
  rw [bitsU, bitsU]
  exact btF_cong (fun t _ => h.soE _ 13)
theorem eqS.abE {v w : SS} (h : eqS v w) (u : NS) (j : Nat) (a : Int32) : abU u v j a = abU u w j a := by rw [abU, abU, h.btE]
/-- the image: what was kept of the house, and of what was seen -/
def imR (u uk : NS) (vk : SS) (kp : KS) (o : OS) : Prop := frm u uk ∧ okN uk ∧ (∀ i, i < nN u → o.2.2.1 (11 + i) = uk.2.1 i ∧ o.2.2.1 (16 + i) = bI (uk.2.2.1 i) ∧ kp.2.2.2.1 i = uk.2.2.2.1 i) ∧ o.2.2.1 21 = nH uk ∧ kp.2.2.1 = vk.2.2 ∧ vok vk ∧ ∀ i, i < vk.2.2 → kp.2.2.2.2.1 i = vk.1 i ∧ kp.2.2.2.2.2 i = vk.2.1 i
theorem frm.left {u u' w : NS} (h : frm u w) (g : frm u u') : frm u' w := ⟨fun i hi => by rw [h.1 i (by rw [← g.2.1]; exact hi), g.1 i (by rw [← g.2.1]; exact hi)], by rw [h.2.1, g.2.1], by rw [h.2.2, g.2.2]⟩
theorem imR.left {u u' uk : NS} {vk : SS} {kp : KS} {o : OS} (h : imR u uk vk kp o) (g : frm u u') : imR u' uk vk kp o := ⟨h.1.left g, h.2.1, fun i hi => h.2.2.1 i (by rw [← g.2.1]; exact hi), h.2.2.2⟩
def REL (s : CS) (u : NS) (v : SS) (g : PG) (kp : KS) (o : OS) : Prop := cok s ∧ eqN s.2.2.1 u ∧ okN u ∧ eqS s.2.2.2.1 v ∧ vok v ∧ eqP s.2.1 g ∧ s.1.2.1 = o.1 ∧ s.1.2.2 = o.2.1 ∧ kp.2.1 ≤ o.1 ∧ (s.1.1 = true ↔ kp.1 = true ∧ kp.2.1 = o.1) ∧ (s.1.1 = true → imR u s.2.2.2.2.1 s.2.2.2.2.2 kp o)
theorem REL.sim {s : CS} {u u' : NS} {v : SS} {g : PG} {kp : KS} {o o' : OS} (h : REL s u v g kp o) (z : sim u o u' o') : REL s u' v g kp o' := by
  obtain ⟨a1, a2, a3, a4, a5, a6, a7, a8, a9, a10, a11⟩ := h
  obtain ⟨b1, b2, b3, b4, b5⟩ := z
  refine ⟨a1, a2.trans b1.symm, okN_eq b1.symm a3, a4, a5, a6, by rw [a7, b2], by rw [a8, b3], by rw [b2]; exact a9, by rw [b2]; exact a10, fun hi => ?_⟩
  have h1 := (a11 hi).left (frm.eq b1)
  exact ⟨h1.1, h1.2.1, fun i hi => ⟨(b4 (11 + i) (by omega)).trans (h1.2.2.1 i hi).1, (b4 (16 + i) (by omega)).trans (h1.2.2.1 i hi).2.1, (h1.2.2.1 i hi).2.2⟩, (b4 21 (by omega)).trans h1.2.2.2.1, h1.2.2.2.2⟩
section
variable {c : Bool × Nat × Nat} {gc : PG} {uc : NS} {vc : SS} {uk : NS} {vk : SS} {u : NS} {v : SS} {g : PG} {kp : KS} {o : OS}
theorem R_letter (h : REL (c, gc, uc, vc, uk, vk) u v g kp o) (a : Int32) : (kLetter c gc uc vc uk vk a).1 = (kLetter (false, o.1, o.2.1) g u v u v a).1 ∧ REL (kLetter c gc uc vc uk vk a).2 u v (kLetter (false, o.1, o.2.1) g u v u v a).2.2.1 kp o := by
  obtain ⟨a1, a2, a3, a4, a5, a6, a7⟩ := h
  have e : gc.2 = g.2 := a6.1
  rw [kLetter, kLetter]
  by_cases c1 : isW a 32 126 = true
  · rw [if_pos c1, if_pos c1]
    by_cases c2 : gc.2 < 18
    · rw [if_pos c2, if_pos (by rw [← e]; exact c2)]
      refine ⟨by rw [e], ⟨a1.1, ?_, a1.2.2⟩, a2, a3, a4, a5, ?_, a7⟩
      · show gc.2 + 1 ≤ 18; omega
      · refine ⟨by show gc.2 + 1 = g.2 + 1; rw [e], fun i hi => ?_⟩
        have hi : i < gc.2 + 1 := hi
        show upd gc.1 gc.2 a i = upd g.1 g.2 a i
        by_cases ei : i = gc.2
        · rw [ei, upd_self, e, upd_self]
        · rw [pk_un ei, pk_un (by rw [← e]; exact ei)]
          exact a6.2 i (by show i < gc.2; omega)
    · rw [if_neg c2, if_neg (by rw [← e]; exact c2)]
      exact ⟨rfl, a1, a2, a3, a4, a5, a6, a7⟩
  · rw [if_neg c1, if_neg c1]
    exact ⟨rfl, a1, a2, a3, a4, a5, a6, a7⟩
theorem R_blank (h : REL (c, gc, uc, vc, uk, vk) u v g kp o) : (kBlank c gc uc vc uk vk).1 = nI g.2 ∧ REL (kBlank c gc uc vc uk vk).2 u v (g.1, 0) kp o := by
  obtain ⟨a1, a2, a3, a4, a5, a6, a7⟩ := h
  have e : gc.2 = g.2 := a6.1
  exact ⟨by rw [kBlank, e], ⟨a1.1, Nat.zero_le _, a1.2.2⟩, a2, a3, a4, a5, ⟨rfl, fun i hi => absurd hi (Nat.not_lt_zero _)⟩, a7⟩
theorem R_fault (h : REL (c, gc, uc, vc, uk, vk) u v g kp o) : (kFault c gc uc vc uk vk).1 = nI (ffr g.1 g.2 g.2 0) ∧ REL (kFault c gc uc vc uk vk).2 u v g kp o := by
  have h18 : gc.2 ≤ 18 := h.1.2.1
  have e := eqP.ffrE (g := gc) (k := g) h.2.2.2.2.2.1 (by omega)
  exact ⟨by rw [kFault, e], h⟩
theorem R_house (h : REL (c, gc, uc, vc, uk, vk) u v g kp o) : (kHouse c gc uc vc uk vk).1 = (kHouse (false, o.1, o.2.1) g u v u v).1 ∧ REL (kHouse c gc uc vc uk vk).2 (kHouse (false, o.1, o.2.1) g u v u v).2.2.2.1 (kHouse (false, o.1, o.2.1) g u v u v).2.2.2.2.1 (kHouse (false, o.1, o.2.1) g u v u v).2.2.1 kp (setO o (kHouse (false, o.1, o.2.1) g u v u v).2.1.2.1) := by
  obtain ⟨a1, a2, a3, a4, a5, a6, a7, a8, a9, a10, a11⟩ := h
  have h18 : gc.2 ≤ 18 := a1.2.1
  have e : gc.2 = g.2 := a6.1
  have e1 := eqP.isE (g := gc) (k := g) a6 (by omega)
  have e2 := eqP.bgE (g := gc) (k := g) a6 (by omega) uc u
  rw [kHouse, kHouse, ← e1]
  by_cases c1 : isHB gc.1 gc.2 = true
  · rw [if_pos c1, if_pos c1]
    have hk := okN_bgn (g := g) (by omega) (by rw [← e1]; exact c1) u
    refine ⟨by rw [e2.nE], ⟨a1.1, Nat.zero_le _, by rw [show nN ((bgn gc uc)) = nN (bgn g u) from e2.nE]; exact hk.1, Nat.zero_le _, a1.2.2.2.2⟩, e2, hk, ⟨rfl, fun i hi => absurd hi (Nat.not_lt_zero _)⟩, ⟨Nat.zero_le _, fun i hi => absurd hi (Nat.not_lt_zero _)⟩, ⟨rfl, fun i hi => absurd hi (Nat.not_lt_zero _)⟩, ?_, a8, ?_, ?_, fun hf => by cases hf⟩
    · show c.2.1 + 1 = o.1 + 1
      rw [show c.2.1 = o.1 from a7]
    · show kp.2.1 ≤ o.1 + 1; omega
    · show false = true ↔ kp.1 = true ∧ kp.2.1 = o.1 + 1
      exact ⟨fun z => (by cases z), fun z => by have := z.2; omega⟩
  · rw [if_neg c1, if_neg c1]
    have es : setO o o.1 = o := by obtain ⟨ho, as, sv, sd, wy, se, hh⟩ := o; rfl
    refine ⟨rfl, ?_⟩
    show REL _ u v g kp (setO o o.1)
    rw [es]
    exact ⟨a1, a2, a3, a4, a5, a6, a7, a8, a9, a10, a11⟩
theorem R_about (h : REL (c, gc, uc, vc, uk, vk) u v g kp o) (a b : Int32) : kAbout uc vc a b = kAbout u v a b := by
  obtain ⟨a1, a2, a3, a4, a5, a6, a7⟩ := h
  have a2 : eqN uc u := a2
  rw [kAbout, kAbout, a2.nE]
  by_cases hk : kn (nN u) a = true
  · rw [if_pos hk, if_pos hk, eqS.abE (v := vc) (w := v) a4]
    obtain ⟨j, hj, rfl, hc⟩ := kn_j hk (by have := a3.1; omega)
    rw [hc]
    exact a2.abE v (by rw [a2.nE]; exact hj) b
  · rw [if_neg hk, if_neg hk]
theorem R_as (h : REL (c, gc, uc, vc, uk, vk) u v g kp o) (a b : Int32) : kAs uc a b = kAs u a b := by
  obtain ⟨a1, a2, a3, a4, a5, a6, a7⟩ := h
  have a2 : eqN uc u := a2
  rw [kAs, kAs, a2.nE]
  by_cases hk : kn (nN u) a = true
  · obtain ⟨j, hj, rfl, hc⟩ := kn_j hk (by have := a3.1; omega)
    rw [if_pos hk, if_pos hk, hc, (a2.2 j (by rw [a2.nE]; exact hj)).1]
  · rw [if_neg hk, if_neg hk]
theorem R_bed (h : REL (c, gc, uc, vc, uk, vk) u v g kp o) : kBed uc = kBed u := by
  have a2 : eqN uc u := h.2.1
  rw [kBed, kBed, a2.nE, a2.wE]
/-- another house of the same kinds -/
theorem R_next (h : REL (c, gc, uc, vc, uk, vk) u v g kp o) {uc' u' : NS} (e : eqN uc' u') (hk : okN u') (f : frm u u') : REL (c, gc, uc', vc, uk, vk) u' v g kp o := by
  obtain ⟨a1, a2, a3, a4, a5, a6, a7, a8, a9, a10, a11⟩ := h
  exact ⟨⟨a1.1, a1.2.1, by rw [show nN uc' = nN u' from e.nE]; exact hk.1, a1.2.2.2⟩, e, hk, a4, a5, a6, a7, a8, a9, a10, fun hi => (a11 hi).left f⟩
theorem R_coffee (h : REL (c, gc, uc, vc, uk, vk) u v g kp o) (a : Int32) : (kCoffee c gc uc vc uk vk a).1 = (kCoffee (false, o.1, o.2.1) g u v u v a).1 ∧ REL (kCoffee c gc uc vc uk vk a).2 (kCoffee (false, o.1, o.2.1) g u v u v a).2.2.2.1 v g kp o := by
  have a2 : eqN uc u := h.2.1
  have hn := h.2.2.1.1
  rw [kCoffee, kCoffee, a2.nE]
  by_cases hk : kn (nN u) a = true
  · obtain ⟨j, hj, rfl, hc⟩ := kn_j hk (by omega)
    obtain ⟨_, _, e3, _⟩ := a2.2 j (by rw [a2.nE]; exact hj)
    rw [if_pos hk, if_pos hk, hc, e3]
    by_cases hs : u.2.2.1 j = true
    · rw [if_pos hs, if_pos hs]; exact ⟨rfl, h⟩
    · rw [if_neg hs, if_neg hs]
      have e := a2.cE (j := j) (by rw [a2.nE]; exact hj)
      exact ⟨(e.2 j (by rw [nN_cof, a2.nE]; exact hj)).2.1, R_next h e (okN_cof h.2.2.1 j hj) ((frm.rf u).cof j)⟩
  · rw [if_neg hk, if_neg hk]; exact ⟨rfl, h⟩
theorem R_lecture (h : REL (c, gc, uc, vc, uk, vk) u v g kp o) (a : Int32) : (kLecture c gc uc vc uk vk a).1 = (kLecture (false, o.1, o.2.1) g u v u v a).1 ∧ REL (kLecture c gc uc vc uk vk a).2 (kLecture (false, o.1, o.2.1) g u v u v a).2.2.2.1 v g kp o := by
  have a2 : eqN uc u := h.2.1
  have hn := h.2.2.1.1
  rw [kLecture, kLecture, a2.nE]
  by_cases hk : kn (nN u) a = true
  · obtain ⟨j, hj, rfl, hc⟩ := kn_j hk (by omega)
    obtain ⟨_, _, e3, _⟩ := a2.2 j (by rw [a2.nE]; exact hj)
    rw [if_pos hk, if_pos hk, hc, e3]
    by_cases hs : u.2.2.1 j = true
    · rw [if_pos hs, if_pos hs]; exact ⟨rfl, h⟩
    · rw [if_neg hs, if_neg hs]
      have e := a2.lE (o := some j) (fun i hi => by cases hi; rw [a2.nE]; exact hj)
      exact ⟨(e.2 j (by rw [nN_lec, a2.nE]; exact hj)).2.1, R_next h e (okN_lec h.2.2.1 _) ((frm.rf u).lec _)⟩
  · rw [if_neg hk, if_neg hk]; exact ⟨rfl, h⟩
theorem R_hour (h : REL (c, gc, uc, vc, uk, vk) u v g kp o) : (kHour c gc uc vc uk vk).1 = (kHour (false, o.1, o.2.1) g u v u v).1 ∧ REL (kHour c gc uc vc uk vk).2 (kHour (false, o.1, o.2.1) g u v u v).2.2.2.1 v g kp o := by
  have a2 : eqN uc u := h.2.1
  rw [kHour, kHour, a2.nE]
  by_cases h0 : nN u = 0
  · rw [if_pos h0, if_pos h0]; exact ⟨rfl, h⟩
  · rw [if_neg h0, if_neg h0]
    exact ⟨by show nI (cntS (ph uc).2.2.1 (nN (ph uc))) = nI (cntS (ph u).2.2.1 (nN (ph u))); rw [a2.pE.sE], R_next h a2.pE (okN_ph h.2.2.1) (frm.rf u).ph⟩
theorem R_cups (h : REL (c, gc, uc, vc, uk, vk) u v g kp o) (a b : Int32) : kCups uc a b = kCups u a b := by
  have a2 : eqN uc u := h.2.1
  have hn := h.2.2.1.1
  rw [kCups, kCups, a2.nE]
  by_cases hk : kn (nN u) a = true
  · obtain ⟨j, hj, rfl, hc⟩ := kn_j hk (by omega)
    obtain ⟨_, _, e3, _⟩ := a2.2 j (by rw [a2.nE]; exact hj)
    rw [if_pos hk, if_pos hk, hc, e3, a2.fuE (by rw [a2.nE]; exact hj)]
  · rw [if_neg hk, if_neg hk]
theorem R_lectures (h : REL (c, gc, uc, vc, uk, vk) u v g kp o) (a b d : Int32) : (kLectures c gc uc vc uk vk a b d).1 = (kLectures (false, o.1, o.2.1) g u v u v a b d).1 ∧ REL (kLectures c gc uc vc uk vk a b d).2 u v g kp (setA o (kLectures (false, o.1, o.2.1) g u v u v a b d).2.1.2.2) := by
  have a2 : eqN uc u := h.2.1
  have a8 : c.2.2 = o.2.1 := h.2.2.2.2.2.2.2.1
  have h' : REL (c, gc, uc, vc, uk, vk) u v g kp (setA o o.2.1) := by rw [setA_self]; exact h
  rw [kLectures, kLectures, a2.nE, a8, a2.mE]
  by_cases h1 : kn (nN u) a = true
  · rw [if_pos h1, if_pos h1]
    by_cases h2 : isW b 1 3 = true
    · rw [if_pos h2, if_pos h2]
      by_cases h3 : isW d 0 1 = true
      · rw [if_pos h3, if_pos h3]
        by_cases h4 : o.2.1 < 40
        · rw [if_pos h4, if_pos h4]
          obtain ⟨b1, b2, b3, b4, b5, b6, b7, b8, b9⟩ := h
          refine ⟨rfl, ⟨by show o.2.1 + 1 ≤ 40; omega, b1.2⟩, b2, b3, b4, b5, b6, b7, rfl, b9⟩
        · rw [if_neg h4, if_neg h4]; exact ⟨rfl, h'⟩
      · rw [if_neg h3, if_neg h3]; exact ⟨rfl, h'⟩
    · rw [if_neg h2, if_neg h2]; exact ⟨rfl, h'⟩
  · rw [if_neg h1, if_neg h1]; exact ⟨rfl, h'⟩
theorem R_sunday (h : REL (c, gc, uc, vc, uk, vk) u v g kp o) (a : Int32) : kSunday uc a = kSunday u a := by
  have a2 : eqN uc u := h.2.1
  rw [kSunday, kSunday, a2.nE, a2.prE]
theorem R_see (h : REL (c, gc, uc, vc, uk, vk) u v g kp o) (a b : Int32) : (kSee c gc uc vc uk vk a b).1 = (kSee (false, o.1, o.2.1) g u v u v a b).1 ∧ REL (kSee c gc uc vc uk vk a b).2 u (kSee (false, o.1, o.2.1) g u v u v a b).2.2.2.2.1 g kp o := by
  obtain ⟨a1, a2, a3, a4, a5, a6, a7⟩ := h
  have e2 : eqN uc u := a2
  have e : vc.2.2 = v.2.2 := a4.1
  rw [kSee, kSee, e2.nE, e]
  by_cases h1 : isW a 0 12 = true
  · rw [if_pos h1, if_pos h1]
    by_cases h2 : b = -1 ∨ kn (nN u) b = true
    · rw [if_pos h2, if_pos h2]
      by_cases h3 : v.2.2 < 6
      · rw [if_pos h3, if_pos h3]
        refine ⟨rfl, ⟨a1.1, a1.2.1, a1.2.2.1, by show v.2.2 + 1 ≤ 6; omega, a1.2.2.2.2⟩, a2, a3, ?_, ?_, a6, a7⟩
        · refine ⟨rfl, fun i hi => ?_⟩
          have hi : i < v.2.2 + 1 := hi
          show upd vc.1 v.2.2 a i = upd v.1 v.2.2 a i ∧ upd vc.2.1 v.2.2 b i = upd v.2.1 v.2.2 b i
          by_cases ei : i = v.2.2
          · rw [ei, upd_self, upd_self, upd_self, upd_self]; exact ⟨rfl, rfl⟩
          · rw [pk_un ei, pk_un ei, pk_un ei, pk_un ei]
            exact a4.2 i (by show i < vc.2.2; omega)
        · refine ⟨by show v.2.2 + 1 ≤ 6; omega, fun i hi => ?_⟩
          have hi : i < v.2.2 + 1 := hi
          show ∃ k, k ≤ 12 ∧ upd v.1 v.2.2 a i = nI k
          by_cases ei : i = v.2.2
          · rw [ei, upd_self]
            obtain ⟨k, _, hk, rfl⟩ := isW_nat (lo := 0) (hi := 12) (by decide) (by decide) h1
            exact ⟨k, hk, rfl⟩
          · rw [pk_un ei]; exact a5.2 i (by omega)
      · rw [if_neg h3, if_neg h3]; exact ⟨rfl, a1, a2, a3, a4, a5, a6, a7⟩
    · rw [if_neg h2, if_neg h2]; exact ⟨rfl, a1, a2, a3, a4, a5, a6, a7⟩
  · rw [if_neg h1, if_neg h1]; exact ⟨rfl, a1, a2, a3, a4, a5, a6, a7⟩
theorem R_forget (h : REL (c, gc, uc, vc, uk, vk) u v g kp o) : (kForget c gc uc vc uk vk).1 = nI v.2.2 ∧ REL (kForget c gc uc vc uk vk).2 u (v.1, v.2.1, 0) g kp o := by
  obtain ⟨a1, a2, a3, a4, a5, a6, a7⟩ := h
  have e : vc.2.2 = v.2.2 := a4.1
  exact ⟨by rw [kForget, e], ⟨a1.1, a1.2.1, a1.2.2.1, Nat.zero_le _, a1.2.2.2.2⟩, a2, a3, ⟨rfl, fun i hi => absurd hi (Nat.not_lt_zero _)⟩, ⟨Nat.zero_le _, fun i hi => absurd hi (Nat.not_lt_zero _)⟩, a6, a7⟩
theorem R_nights (h : REL (c, gc, uc, vc, uk, vk) u v g kp o) (a b d : Int32) : kNightsR uc a b d = kNightsR u a b d := by
  have a2 : eqN uc u := h.2.1
  rw [kNightsR, kNightsR, a2.nE]
  by_cases h1 : isW a 1 60 = true
  · rw [if_pos h1, if_pos h1]
    by_cases h2 : b < 0
    · rw [if_pos h2, if_pos h2]
    · rw [if_neg h2, if_neg h2]
      by_cases h3 : isW d 0 2 = true
      · rw [if_pos h3, if_pos h3]
        by_cases h4 : nN u = 0
        · rw [if_pos h4, if_pos h4]
        · rw [if_neg h4, if_neg h4]
          have hc := ngI_cong a.toNatClampNeg b 0 uc u a2 (by rw [a2.nE]; omega)
          rw [kNights, kNights, hc.1, hc.2.2, hc.2.1.sE]
      · rw [if_neg h3, if_neg h3]
  · rw [if_neg h1, if_neg h1]
theorem R_image (h : REL (c, gc, uc, vc, uk, vk) u v g kp o) : (kImage c gc uc vc uk vk).1 = (if nN u = 0 then -103 else nH u) ∧ REL (kImage c gc uc vc uk vk).2 u v g (if nN u = 0 then kp else imK u v kp o.1) (if nN u = 0 then o else imO u o) := by
  obtain ⟨a1, a2, a3, a4, a5, a6, a7, a8, a9, a10, a11⟩ := h
  have e2 : eqN uc u := a2
  have e4 : eqS vc v := a4
  rw [kImage, e2.nE]
  by_cases h0 : nN u = 0
  · rw [if_pos h0, if_pos h0, if_pos h0, if_pos h0]
    exact ⟨rfl, a1, a2, a3, a4, a5, a6, a7, a8, a9, a10, a11⟩
  · rw [if_neg h0, if_neg h0, if_neg h0, if_neg h0]
    have hc : eqN (cpy uc uk) u := (eqN_cpy uc uk).trans e2
    have h5 := a3.1
    obtain ⟨ho, as, sv, sd, wy, se, hh⟩ := o
    obtain ⟨ki, kh, ks, kd, khs, kwh⟩ := kp
    refine ⟨e2.nHE, ⟨a1.1, a1.2.1, a1.2.2.1, a1.2.2.2.1, by rw [show nN (cpy uc uk) = nN u from hc.nE]; exact h5, a1.2.2.2.1⟩, a2, a3, a4, a5, a6, a7, a8, Nat.le_refl _, ⟨fun _ => ⟨rfl, rfl⟩, fun _ => rfl⟩, fun _ => ?_⟩
    refine ⟨frm.eq hc, okN_eq hc.symm a3, fun i hi => ?_, ?_, ?_, ?_, fun i hi => ?_⟩
    · obtain ⟨_, t1, t2, t3⟩ := hc.2 i (by rw [hc.nE]; exact hi)
      refine ⟨?_, ?_, ?_⟩
      · show svW 1 u sv (11 * 1 + i) = _
        rw [svW_t (by omega)]; exact t1.symm
      · show svW 1 u sv (11 * 1 + 5 + i) = _
        rw [svW_s (by omega)]
        show bI (u.2.2.1 i) = bI ((cpy uc uk).2.2.1 i)
        rw [t2]
      · show mix 5 u.2.2.2.1 kd i = _
        rw [mix_in (by omega)]; exact t3.symm
    · show svW 1 u sv (11 * 1 + 10) = nH (cpy uc uk)
      rw [svW_h]; exact hc.nHE.symm
    · show v.2.2 = vc.2.2
      exact e4.1.symm
    · refine ⟨by show vc.2.2 ≤ 6; rw [e4.1]; exact a5.1, fun i hi => ?_⟩
      have hi : i < vc.2.2 := hi
      show ∃ k, k ≤ 12 ∧ mix vc.2.2 vc.1 vk.1 i = nI k
      rw [mix_in hi, (e4.2 i hi).1]
      exact a5.2 i (by rw [← e4.1]; exact hi)
    · have hi : i < vc.2.2 := hi
      have h6 := a5.1
      have e5 : vc.2.2 = v.2.2 := e4.1
      show mix 6 v.1 khs i = mix vc.2.2 vc.1 vk.1 i ∧ mix 6 v.2.1 kwh i = mix vc.2.2 vc.2.1 vk.2.1 i
      rw [mix_in hi, mix_in hi, mix_in (by omega), mix_in (by omega)]
      exact ⟨(e4.2 i hi).1.symm, (e4.2 i hi).2.symm⟩
theorem R_restore (h : REL (c, gc, uc, vc, uk, vk) u v g kp o) : (kRestore c gc uc vc uk vk).1 = (if kp.1 = true ∧ kp.2.1 = o.1 then nH (reU u kp o) else -103) ∧ REL (kRestore c gc uc vc uk vk).2 (if kp.1 = true ∧ kp.2.1 = o.1 then reU u kp o else u) (if kp.1 = true ∧ kp.2.1 = o.1 then reV v kp else v) g kp o := by
  obtain ⟨a1, a2, a3, a4, a5, a6, a7, a8, a9, a10, a11⟩ := h
  have e2 : eqN uc u := a2
  have e4 : eqS vc v := a4
  have a10' : c.1 = true ↔ kp.1 = true ∧ kp.2.1 = o.1 := a10
  rw [kRestore]
  by_cases h1 : c.1 = true
  · have h2 := a10'.mp h1
    rw [if_pos h1, if_pos h2, if_pos h2, if_pos h2]
    obtain ⟨i1, i2, i3, i4, i5, i6, i7⟩ := a11 h1
    have i1 : frm u uk := i1
    have h5 := a3.1
    have hR : eqN uk (reU u kp o) := by
      obtain ⟨kf, tf, sl, bf, n, d, hh⟩ := u
      have hn : nN uk = n := i1.2.1
      refine ⟨?_, fun i hi => ?_⟩
      · have e1 : uk.2.2.2.2 = (nN uk, nD uk, nH uk) := rfl
        rw [e1, i1.2.1, i1.2.2, ← i4]; rfl
      · have hi' : i < n := by rw [← hn]; exact hi
        have h5 : n ≤ 5 := h5
        obtain ⟨j1, j2, j3⟩ := i3 i hi'
        refine ⟨i1.1 i hi', ?_, ?_, ?_⟩
        · show uk.2.1 i = mix 5 (fun i => o.2.2.1 (11 * 1 + i)) tf i
          rw [mix_in (by omega)]; exact j1.symm
        · show uk.2.2.1 i = mix 5 (fun i => decide (o.2.2.1 (11 * 1 + 5 + i) = 1)) sl i
          rw [mix_in (by omega)]
          show uk.2.2.1 i = decide (o.2.2.1 (16 + i) = 1)
          rw [j2]
          show uk.2.2.1 i = decide (bI (uk.2.2.1 i) = 1)
          cases uk.2.2.1 i <;> rfl
        · show uk.2.2.2.1 i = mix 5 kp.2.2.2.1 bf i
          rw [mix_in (by omega)]; exact j3.symm
    have hc : eqN (cpy uk uc) (reU u kp o) := (eqN_cpy uk uc).trans hR
    have hok : okN (reU u kp o) := okN_eq hR i2
    have hfr : frm u (reU u kp o) := by
      obtain ⟨kf, tf, sl, bf, n, d, hh⟩ := u
      exact ⟨fun _ _ => rfl, rfl, rfl⟩
    refine ⟨hc.nHE, ⟨a1.1, a1.2.1, by rw [show nN (cpy uk uc) = nN (reU u kp o) from hc.nE]; exact hok.1, a1.2.2.2.2.2, a1.2.2.2.2.1, a1.2.2.2.2.2⟩, hc, hok, ?_, ?_, a6, a7, a8, a9, a10, fun hi => (a11 h1).left hfr⟩
    · refine ⟨by show vk.2.2 = kp.2.2.1; exact i5.symm, fun i hi => ?_⟩
      have hi : i < vk.2.2 := hi
      have h6 : vk.2.2 ≤ 6 := i6.1
      show mix vk.2.2 vk.1 vc.1 i = mix 6 kp.2.2.2.2.1 v.1 i ∧ mix vk.2.2 vk.2.1 vc.2.1 i = mix 6 kp.2.2.2.2.2 v.2.1 i
      rw [mix_in hi, mix_in hi, mix_in (by omega), mix_in (by omega)]
      exact ⟨(i7 i hi).1.symm, (i7 i hi).2.symm⟩
    · refine ⟨by show kp.2.2.1 ≤ 6; rw [i5]; exact i6.1, fun i hi => ?_⟩
      have hi : i < kp.2.2.1 := hi
      have hi2 : i < vk.2.2 := by rw [← i5]; exact hi
      have h6 : vk.2.2 ≤ 6 := i6.1
      show ∃ k, k ≤ 12 ∧ mix 6 kp.2.2.2.2.1 v.1 i = nI k
      rw [mix_in (by omega), (i7 i hi2).1]
      exact i6.2 i hi2
  · have h2 := mt a10'.mpr h1
    rw [if_neg h1, if_neg h2, if_neg h2, if_neg h2]
    exact ⟨rfl, a1, a2, a3, a4, a5, a6, a7, a8, a9, a10, a11⟩
theorem R_count (h : REL (c, gc, uc, vc, uk, vk) u v g kp o) (a : Int32) : kCount c gc uc vc a = kCount (false, o.1, o.2.1) g u v a := by
  obtain ⟨a1, a2, a3, a4, a5, a6, a7, a8, a9⟩ := h
  have e2 : eqN uc u := a2
  rw [e2.ctE, kCount, kCount, show vc.2.2 = v.2.2 from a4.1, show gc.2 = g.2 from a6.1, show c.2.1 = o.1 from a7, show c.2.2 = o.2.1 from a8]
theorem R_digest (h : REL (c, gc, uc, vc, uk, vk) u v g kp o) : kDigest c gc uc vc = kDigest (false, o.1, o.2.1) g u v := by
  have hC := R_count h
  obtain ⟨a1, a2, a3, a4, a5, a6, a7, a8, a9⟩ := h
  have e2 : eqN uc u := a2
  have e4 : eqS vc v := a4
  have e6 : eqP gc g := a6
  have hL : ∀ z, itr (dgL uc vc) (nN uc) 0 z = itr (dgL u v) (nN u) 0 z := fun z => by
    rw [e2.nE]
    refine itr_cong _ _ _ (fun j s _ hj => ?_)
    have hj' : j < nN uc := by rw [e2.nE]; omega
    have hA : dgA uc vc j s = dgA u v j s := by
      rw [dgA, dgA]
      refine itr_cong _ _ _ (fun b s _ _ => ?_)
      show mx s (abU uc vc j (nI b)) = mx s (abU u v j (nI b))
      rw [e4.abE, e2.abE v hj']
    rw [dgL, dgL, hA, (e2.2 j hj').2.2.1, e2.fuE hj']
  have hB : ∀ z, dgB uc z = dgB u z := fun z => by rw [dgB, dgB, e2.nE, e2.wE, e2.prE]
  have hP : ∀ z, dgP gc z = dgP g z := fun z => by
    rw [dgP, dgP, e6.1]
    refine itr_cong _ _ _ (fun p s _ hp => ?_)
    show mx s (gc.1 p) = mx s (g.1 p)
    rw [e6.2 p (by rw [e6.1]; omega)]
  have hD : ∀ z, dgC c gc uc vc z = dgC (false, o.1, o.2.1) g u v z := fun z => by
    rw [dgC, dgC]
    refine itr_cong _ _ _ (fun b s _ _ => ?_)
    show mx s (kCount c gc uc vc (nI b)) = mx s (kCount (false, o.1, o.2.1) g u v (nI b))
    rw [hC]
  rw [kDigest, kDigest, hD, hP, hB, hL]
end
theorem REL_0 : REL c0 n0 s0 g0 k0S o0S := by
  refine ⟨⟨Nat.zero_le _, Nat.zero_le _, Nat.zero_le _, Nat.zero_le _, Nat.zero_le _, Nat.zero_le _⟩, eqN.rf n0, ⟨Nat.zero_le _, ⟨0, Nat.zero_le _, rfl⟩, fun i hi => absurd hi (Nat.not_lt_zero _), fun i hi => absurd hi (Nat.not_lt_zero _)⟩, ⟨rfl, fun i hi => absurd hi (Nat.not_lt_zero _)⟩, ⟨Nat.zero_le _, fun i hi => absurd hi (Nat.not_lt_zero _)⟩, ⟨rfl, fun i hi => absurd hi (Nat.not_lt_zero _)⟩, rfl, rfl, Nat.le_refl _, ⟨fun h => (by cases h), fun h => (by cases h.1)⟩, fun h => by cases h⟩
