/-! Night's contracts, its state in one -/
def nD (u : NS) : Int32 := u.2.2.2.2.2.1
def nH (u : NS) : Int32 := u.2.2.2.2.2.2
def togU (u : NS) (a b : Nat) : Nat := tog u.1 u.2.1 (nH u) a b
section
variable (l : Launch) (x : Cx) (q : Nat → Nat) (u : NS)
theorem uX2_lodgers : MC l x 0 0 0 yX2_lodgers cX2_lodgers 1 (some .int) [.ref (q 0)] (nb x q u) (eI (nI (nN u)) (nb x q u)) := by obtain ⟨kf, tf, sl, bf, n, d, h⟩ := u; exact tX2_lodgers l x q kf tf sl bf n d h
theorem uX2_drowse : MC l x 0 0 0 yX2_drowse cX2_drowse 1 (some .int) [.ref (q 0)] (nb x q u) (eI (nD u) (nb x q u)) := by obtain ⟨kf, tf, sl, bf, n, d, h⟩ := u; exact tX2_drowse l x q kf tf sl bf n d h
theorem uX2_hoursPassed : MC l x 0 0 0 yX2_hoursPassed cX2_hoursPassed 1 (some .int) [.ref (q 0)] (nb x q u) (eI (nH u) (nb x q u)) := by obtain ⟨kf, tf, sl, bf, n, d, h⟩ := u; exact tX2_hoursPassed l x q kf tf sl bf n d h
theorem uX2_knows (a : Int32) : MC l x 0 0 0 yX2_knows cX2_knows 2 (some .boolean) [.ref (q 0), .int a] (nb x q u) (eI (bI (kn (nN u) a)) (nb x q u)) := by obtain ⟨kf, tf, sl, bf, n, d, h⟩ := u; exact tX2_knows l x q kf tf sl bf n d h a
theorem uX2_kindOf (hn : nN u ≤ 5) (j : Nat) (hj : j < nN u) : MC l x 1 0 0 yX2_kindOf cX2_kindOf 2 (some .int) [.ref (q 0), .int (nI j)] (nb x q u) (eI (u.1 j) (nb x q u)) := by obtain ⟨kf, tf, sl, bf, n, d, h⟩ := u; exact tX2_kindOf l x q kf tf sl bf n d h hn j hj
theorem uX2_tiredOf (hn : nN u ≤ 5) (j : Nat) (hj : j < nN u) : MC l x 1 0 0 yX2_tiredOf cX2_tiredOf 2 (some .int) [.ref (q 0), .int (nI j)] (nb x q u) (eI (u.2.1 j) (nb x q u)) := by obtain ⟨kf, tf, sl, bf, n, d, h⟩ := u; exact tX2_tiredOf l x q kf tf sl bf n d h hn j hj
theorem uX2_bedHoursOf (hn : nN u ≤ 5) (j : Nat) (hj : j < nN u) : MC l x 1 0 0 yX2_bedHoursOf cX2_bedHoursOf 2 (some .int) [.ref (q 0), .int (nI j)] (nb x q u) (eI (u.2.2.2.1 j) (nb x q u)) := by obtain ⟨kf, tf, sl, bf, n, d, h⟩ := u; exact tX2_bedHoursOf l x q kf tf sl bf n d h hn j hj
theorem uX2_sleeps (hn : nN u ≤ 5) (j : Nat) (hj : j < nN u) : MC l x 1 0 0 yX2_sleeps cX2_sleeps 2 (some .boolean) [.ref (q 0), .int (nI j)] (nb x q u) (eI (bI (u.2.2.1 j)) (nb x q u)) := by obtain ⟨kf, tf, sl, bf, n, d, h⟩ := u; exact tX2_sleeps l x q kf tf sl bf n d h hn j hj
theorem uX2_sleepers (hn : nN u ≤ 5) : MC l x 0 0 0 yX2_sleepers cX2_sleepers 3 (some .int) [.ref (q 0)] (nb x q u) (eI (nI (cntS u.2.2.1 (nN u))) (nb x q u)) := by obtain ⟨kf, tf, sl, bf, n, d, h⟩ := u; exact tX2_sleepers l x q kf tf sl bf n d h hn
theorem uX2_tiredTogether (hn : nN u ≤ 5) : MC l x 0 0 0 yX2_tiredTogether cX2_tiredTogether 3 (some .int) [.ref (q 0)] (nb x q u) (eI (sumT u.2.1 (nN u)) (nb x q u)) := by obtain ⟨kf, tf, sl, bf, n, d, h⟩ := u; exact tX2_tiredTogether l x q kf tf sl bf n d h hn
theorem uX2_whoseBed (hn : nN u ≤ 5) : MC l x 1 0 0 yX2_whoseBed cX2_whoseBed 4 (some .int) [.ref (q 0)] (nb x q u) (eI (oI (wbU u)) (nb x q u)) := by obtain ⟨kf, tf, sl, bf, n, d, h⟩ := u; exact tX2_whoseBed l x q kf tf sl bf n d h hn
theorem uX2_giveCoffee (hn : nN u ≤ 5) (j : Nat) (hj : j < nN u) : MC l x 1 0 0 yX2_giveCoffee cX2_giveCoffee 2 none [.ref (q 0), .int (nI j)] (nb x q u) (eV (nb x q (cof u j))) := by obtain ⟨kf, tf, sl, bf, n, d, h⟩ := u; exact tX2_giveCoffee l x q kf tf sl bf n d h hn j hj
theorem uX2_giveLecture (hn : nN u ≤ 5) (o : Option Nat) (ho : ∀ j, o = some j → j < nN u) : MC l x 2 0 0 yX2_giveLecture cX2_giveLecture 2 none [.ref (q 0), .int (oI o)] (nb x q u) (eV (nb x q (lec u o))) := by obtain ⟨kf, tf, sl, bf, n, d, h⟩ := u; exact tX2_giveLecture l x q kf tf sl bf n d h hn o ho
theorem uX2_passHour (hn : nN u ≤ 5) : MC l x 2 0 0 yX2_passHour cX2_passHour 3 none [.ref (q 0)] (nb x q u) (eV (nb x q (ph u))) := by obtain ⟨kf, tf, sl, bf, n, d, h⟩ := u; exact tX2_passHour l x q kf tf sl bf n d h hn
theorem uX2_wakeAs (hn : nN u ≤ 5) (j : Nat) (hj : j < nN u) (v : Int32) : MC l x 1 0 0 yX2_wakeAs cX2_wakeAs 3 none [.ref (q 0), .int (nI j), .int v] (nb x q u) (eV (nb x q (wak u j v))) := by obtain ⟨kf, tf, sl, bf, n, d, h⟩ := u; exact tX2_wakeAs l x q kf tf sl bf n d h hn j hj v
theorem uX2_keepsBed (hn : nN u ≤ 5) (j : Nat) (hj : j < 5) (hh : Nat) (h1 : 1 ≤ hh) (hh6 : hh ≤ 6) : MC l x 3 0 0 yX2_keepsBed cX2_keepsBed 4 (some .boolean) [.ref (q 0), .int (nI j), .int (nI hh)] (nb x q u) (eX (bI (kb (hh - 1) u j)) (anyN x q)) := by obtain ⟨kf, tf, sl, bf, n, d, h⟩ := u; exact tX2_keepsBed l x q kf tf sl bf n d h hn j hj hh h1 hh6
theorem uX2_hoursTogether (hn : nN u ≤ 5) (a b : Nat) (ha : a < nN u) (hb : b < nN u) : MC l x 3 0 0 yX2_hoursTogether cX2_hoursTogether 3 (some .int) [.ref (q 0), .int (nI a), .int (nI b)] (nb x q u) (eI (nI (togU u a b)) (nb x q u)) := by obtain ⟨kf, tf, sl, bf, n, d, h⟩ := u; exact tX2_hoursTogether l x q kf tf sl bf n d h hn a b ha hb
theorem uX2_mostWakefulPair (hn : nN u ≤ 5) : MC l x 4 0 0 yX2_mostWakefulPair cX2_mostWakefulPair 6 (some .int) [.ref (q 0)] (nb x q u) (eI (prU u).1 (nb x q u)) := by obtain ⟨kf, tf, sl, bf, n, d, h⟩ := u; exact tX2_mostWakefulPair l x q kf tf sl bf n d h hn
theorem uX2_copyFrom (q2 : Nat → Nat) (w : NS) (hn : nN w ≤ 5) : MC l x 0 0 0 yX2_copyFrom cX2_copyFrom 3 none [.ref (q 0), .ref (q2 0)] (nb x q u ++ nb x q2 w) (eV (nb x q (cpy w u) ++ nb x q2 w)) := by
  obtain ⟨kf, tf, sl, bf, n, d, h⟩ := u
  obtain ⟨kf2, tf2, sl2, bf2, n2, d2, h2⟩ := w
  exact tX2_copyFrom l x q q2 kf tf sl bf n d h kf2 tf2 sl2 bf2 n2 d2 h2 hn
theorem uX2_begin (g : Nat → Nat) (pg : PG) (hn : pg.2 ≤ 18) : MC l x 3 0 0 yX2_begin cX2_begin 3 none [.ref (q 0), .ref (g 0)] (fl [nb x q u, pb x g pg]) (eV (fl [nb x q (bgn pg u), pb x g pg])) := by
  obtain ⟨kf, tf, sl, bf, n, d, h⟩ := u
  obtain ⟨cs, pn⟩ := pg
  exact tX2_begin l x q g kf tf sl bf n d h cs pn hn
end
section
variable (l : Launch) (x : Cx) (q : Nat → Nat) (g : PG)
theorem uX3_length (hn : g.2 ≤ 18) : MC l x 0 0 0 yX3_length cX3_length 1 (some .int) [.ref (q 0)] (pb x q g) (eI (nI g.2) (pb x q g)) := by obtain ⟨cs, n⟩ := g; exact tX3_length l x q cs n hn
theorem uX3_codeAt (hn : g.2 ≤ 18) (p : Int32) : MC l x 0 0 0 yX3_codeAt cX3_codeAt 2 (some .int) [.ref (q 0), .int p] (pb x q g) (eI (cAt g.1 g.2 p) (pb x q g)) := by obtain ⟨cs, n⟩ := g; exact tX3_codeAt l x q cs n hn p
theorem uX3_put (hn : g.2 < 18) (c : Int32) : MC l x 0 0 0 yX3_put cX3_put 2 (some .int) [.ref (q 0), .int c] (pb x q g) (eI (nI (g.2 + 1)) (pb x q (upd g.1 g.2 c, g.2 + 1))) := by obtain ⟨cs, n⟩ := g; exact tX3_put l x q cs n hn c
theorem uX3_empty (hn : g.2 ≤ 18) : MC l x 0 0 0 yX3_empty cX3_empty 2 (some .int) [.ref (q 0)] (pb x q g) (eI (nI g.2) (pb x q (g.1, 0))) := by obtain ⟨cs, n⟩ := g; exact tX3_empty l x q cs n hn
theorem uX3_firstFault (hn : g.2 ≤ 18) : MC l x 2 0 0 yX3_firstFault cX3_firstFault 2 (some .int) [.ref (q 0)] (pb x q g) (eI (nI (ffr g.1 g.2 g.2 0)) (pb x q g)) := by obtain ⟨cs, n⟩ := g; exact tX3_firstFault l x q cs n hn
theorem uX3_isHouse (hn : g.2 ≤ 18) : MC l x 3 0 0 yX3_isHouse cX3_isHouse 1 (some .boolean) [.ref (q 0)] (pb x q g) (eI (bI (isHB g.1 g.2)) (pb x q g)) := by obtain ⟨cs, n⟩ := g; exact tX3_isHouse l x q cs n hn
end
section
variable (l : Launch) (x : Cx) (q : Nat → Nat) (v : SS)
theorem uX4_size (hn : v.2.2 ≤ 6) : MC l x 0 0 0 yX4_size cX4_size 1 (some .int) [.ref (q 0)] (sb x q v) (eI (nI v.2.2) (sb x q v)) := by obtain ⟨hs, wh, n⟩ := v; exact tX4_size l x q hs wh n hn
theorem uX4_put (hn : v.2.2 < 6) (b w : Int32) : MC l x 0 0 0 yX4_put cX4_put 3 (some .int) [.ref (q 0), .int b, .int w] (sb x q v) (eI (nI (v.2.2 + 1)) (sb x q (upd v.1 v.2.2 b, upd v.2.1 v.2.2 w, v.2.2 + 1))) := by obtain ⟨hs, wh, n⟩ := v; exact tX4_put l x q hs wh n hn b w
theorem uX4_empty (hn : v.2.2 ≤ 6) : MC l x 0 0 0 yX4_empty cX4_empty 2 (some .int) [.ref (q 0)] (sb x q v) (eI (nI v.2.2) (sb x q (v.1, v.2.1, 0))) := by obtain ⟨hs, wh, n⟩ := v; exact tX4_empty l x q hs wh n hn
theorem uX4_allows (hn : v.2.2 ≤ 6) (b w : Int32) : MC l x 0 0 0 yX4_allows cX4_allows 4 (some .boolean) [.ref (q 0), .int b, .int w] (sb x q v) (eI (bI (alr v.1 v.2.1 b w v.2.2 0)) (sb x q v)) := by obtain ⟨hs, wh, n⟩ := v; exact tX4_allows l x q hs wh n hn b w
def scp (w v : SS) : SS := (mix w.2.2 w.1 v.1, mix w.2.2 w.2.1 v.2.1, w.2.2)
theorem uX4_copyFrom (q2 : Nat → Nat) (w : SS) (hn : w.2.2 ≤ 6) : MC l x 0 0 0 yX4_copyFrom cX4_copyFrom 3 none [.ref (q 0), .ref (q2 0)] (sb x q v ++ sb x q2 w) (eV (sb x q (scp w v) ++ sb x q2 w)) := by
  obtain ⟨hs, wh, n⟩ := v
  obtain ⟨hs2, wh2, n2⟩ := w
  exact tX4_copyFrom l x q q2 hs wh n hs2 wh2 n2 hn
end
/-! the Guess' cells: its object, the row of rows, ten rows of thirteen -/
def gb (x : Cx) (q w r : Nat → Nat) (g : Nat × Int32) : va_W := [(q 0, .inr (0, [.ref (w 0), .ref (q 1), .int (nI g.1), .int g.2])), (q 1, .inl (x.2.2.2.2.2, 10, .inr (.inr (.inr (.inr (fun i => if i < 10 then some (r i) else none))))))]
def rowsB (x : Cx) (r : Nat → Nat) (B : Nat → Nat → Int32) : va_W := (List.range 10).map (fun t => (r t, .inl (x.2.1, 13, .inl (B t))))
def up2 (B : Nat → Nat → Int32) (t : Nat) (f : Nat → Int32) : Nat → Nat → Int32 := fun s => if s = t then f else B s
theorem up2_s (B : Nat → Nat → Int32) (t : Nat) (f : Nat → Int32) : up2 B t f t = f := if_pos rfl
theorem up2_n {B : Nat → Nat → Int32} {t s : Nat} {f : Nat → Int32} (h : s ≠ t) : up2 B t f s = B s := if_neg h
theorem up2_up2 (B : Nat → Nat → Int32) (t : Nat) (f g : Nat → Int32) : up2 (up2 B t f) t g = up2 B t g := by
  funext s; by_cases e : s = t <;> simp [up2, e]
theorem up2_same {B : Nat → Nat → Int32} {t : Nat} : up2 B t (B t) = B := by
  funext s; by_cases e : s = t <;> simp [up2, e]
theorem rows_get {x : Cx} {r : Nat → Nat} {B : Nat → Nat → Int32} {t : Nat} (ht : t < 10) : (rowsB x r B)[t]? = some (r t, .inl (x.2.1, 13, .inl (B t))) := by
  rw [rowsB, List.getElem?_map, List.getElem?_range ht]; rfl
theorem rows_set {x : Cx} {r : Nat → Nat} {B : Nat → Nat → Int32} {t : Nat} {f : Nat → Int32} (ht : t < 10) : (rowsB x r B).set t (r t, .inl (x.2.1, 13, .inl f)) = rowsB x r (up2 B t f) := by
  apply List.ext_getElem?
  intro i
  by_cases e : i = t
  · subst e
    rw [List.getElem?_set_self (by rw [rowsB, List.length_map, List.length_range]; exact ht), rows_get ht, up2_s]
  · rw [List.getElem?_set_ne (fun h => e h.symm), rowsB, rowsB, List.getElem?_map, List.getElem?_map]
    by_cases h : i < 10
    · rw [List.getElem?_range h]
      simp [up2, e]
    · rw [List.getElem?_eq_none (by rw [List.length_range]; omega)]; rfl
theorem fr_get {x : Cx} {q w r : Nat → Nat} {g : Nat × Int32} {B : Nat → Nat → Int32} {bs : List va_W} {t : Nat} (ht : t < 10) : (fl (gb x q w r g :: rowsB x r B :: bs))[t + 2]? = some (r t, .inl (x.2.1, 13, .inl (B t))) := by
  show (rowsB x r B ++ fl bs)[t]? = _
  rw [List.getElem?_append_left (by rw [rowsB, List.length_map, List.length_range]; exact ht), rows_get ht]
theorem fr_set {x : Cx} {q w r : Nat → Nat} {g : Nat × Int32} {B : Nat → Nat → Int32} {bs : List va_W} {t : Nat} {f : Nat → Int32} (ht : t < 10) : (fl (gb x q w r g :: rowsB x r B :: bs)).set (t + 2) (r t, .inl (x.2.1, 13, .inl f)) = fl (gb x q w r g :: rowsB x r (up2 B t f) :: bs) := by
  have h : (rowsB x r B ++ fl bs).set t (r t, .inl (x.2.1, 13, .inl f)) = rowsB x r (up2 B t f) ++ fl bs := by
    rw [List.set_append_left t _ (by rw [rowsB, List.length_map, List.length_range]; exact ht), rows_set ht]
  exact congrArg (fun L => gb x q w r g ++ L) h
