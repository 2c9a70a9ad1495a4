/-! truth values, places and rows as the walks hold them -/
def bI (b : Bool) : Int32 := if b then 1 else 0
def oI (o : Option Nat) : Int32 := match o with
  | none => -1
  | some j => nI j
theorem bI_t : bI true = 1 := rfl
theorem bI_f : bI false = 0 := rfl
theorem bI_0 (b : Bool) : bI b = 0 ↔ b = false := by cases b <;> decide
theorem bI_1 (b : Bool) : bI b = 1 ↔ b = true := by cases b <;> decide
theorem nar_bI (b : Bool) : narrow .boolean (.int (bI b)) = .int (bI b) := by cases b <;> rfl
theorem fit_bI (b : Bool) : fits .boolean (.int (bI b)) = true := by cases b <;> rfl
theorem vpn_bI (b : Bool) : vp_nar .boolean (bI b) = bI b := by cases b <;> rfl
def bup (f : Nat → Bool) (k : Nat) (b : Bool) : Nat → Bool := fun j => if j = k then b else f j
theorem upd_bI (f : Nat → Bool) (k : Nat) (b : Bool) : upd (fun i => bI (f i)) k (bI b) = fun i => bI (bup f k b i) := by
  funext j
  by_cases h : j = k
  · subst h; simp [upd, bup]
  · simp [upd, bup, h]
theorem bup_s {f : Nat → Bool} {k : Nat} {b : Bool} : bup f k b k = b := if_pos rfl
theorem bup_n {f : Nat → Bool} {k j : Nat} {b : Bool} (h : j ≠ k) : bup f k b j = f j := if_neg h
section
variable {M : Mx} {l : Launch} {x : Cx} {cc : ByteArray} {nL : Nat} {y : MethodName} {d : Nat} {P : Option Value → va_W → Prop} {k n pc : Nat} {lv : List (Nat × Value)} {st : List Value} {ws : va_W}
theorem j_ialdN (q0 : Nat) {a N i : Nat} {f : Nat → Int32} (hd : decode cc pc = .ok (.iaload, 1)) (ha : ws[q0]? = some (a, .inl (x.2.1, N, .inl f))) (hi : i < N) (hN : N < 2 ^ 31) (kk : J M l x cc nL y d P k n (pc + 1) lv (.int (f i) :: st) ws) : J M l x cc nL y d P k n pc lv (.int (nI i) :: .ref a :: st) ws :=
  j_iald q0 hd ha (vp_in_nI hi hN) (by rw [nI_clamp (show i < 2 ^ 31 by omega)]; exact kk)
theorem j_baldN (q0 : Nat) {a N i : Nat} {f : Nat → Int32} (hd : decode cc pc = .ok (.baload, 1)) (ha : ws[q0]? = some (a, .inl (x.2.2.2.1, N, .inl f))) (hi : i < N) (hN : N < 2 ^ 31) (kk : J M l x cc nL y d P k n (pc + 1) lv (.int (f i) :: st) ws) : J M l x cc nL y d P k n pc lv (.int (nI i) :: .ref a :: st) ws :=
  j_bald q0 hd ha (vp_in_nI hi hN) (by rw [nI_clamp (show i < 2 ^ 31 by omega)]; exact kk)
theorem j_iastN (q0 : Nat) {a N i : Nat} {f : Nat → Int32} {v : Int32} {ws' : va_W} (hd : decode cc pc = .ok (.iastore, 1)) (ha : ws[q0]? = some (a, .inl (x.2.1, N, .inl f))) (hi : i < N) (hN : N < 2 ^ 31) (hw : ws.set q0 (a, .inl (x.2.1, N, .inl (upd f i v))) = ws') (kk : J M l x cc nL y d P k n (pc + 1) lv st ws') : J M l x cc nL y d P k n pc lv (.int v :: .int (nI i) :: .ref a :: st) ws :=
  j_iast q0 hd ha (vp_in_nI hi hN) (by rw [nI_clamp (show i < 2 ^ 31 by omega)]; exact hw) kk
theorem j_bastN (q0 : Nat) {a N i : Nat} {f : Nat → Int32} {v : Int32} {ws' : va_W} (hd : decode cc pc = .ok (.bastore, 1)) (ha : ws[q0]? = some (a, .inl (x.2.2.2.1, N, .inl f))) (hi : i < N) (hN : N < 2 ^ 31) (hw : ws.set q0 (a, .inl (x.2.2.2.1, N, .inl (upd f i (vp_nar .byte v)))) = ws') (kk : J M l x cc nL y d P k n (pc + 1) lv st ws') : J M l x cc nL y d P k n pc lv (.int v :: .int (nI i) :: .ref a :: st) ws :=
  j_bast q0 hd ha (vp_in_nI hi hN) (by rw [nI_clamp (show i < 2 ^ 31 by omega)]; exact hw) kk
theorem j_zaldB (q0 : Nat) {a N i : Nat} {f : Nat → Bool} (hd : decode cc pc = .ok (.baload, 1)) (ha : ws[q0]? = some (a, .inl (x.2.2.1, N, .inl (fun i => bI (f i))))) (hi : i < N) (hN : N < 2 ^ 31) (kk : J M l x cc nL y d P k n (pc + 1) lv (.int (bI (f i)) :: st) ws) : J M l x cc nL y d P k n pc lv (.int (nI i) :: .ref a :: st) ws :=
  j_zald q0 hd ha (vp_in_nI hi hN) (by rw [nI_clamp (show i < 2 ^ 31 by omega)]; exact kk)
theorem j_zastB (q0 : Nat) {a N i : Nat} {f : Nat → Bool} (b : Bool) {ws' : va_W} (hd : decode cc pc = .ok (.bastore, 1)) (ha : ws[q0]? = some (a, .inl (x.2.2.1, N, .inl (fun i => bI (f i))))) (hi : i < N) (hN : N < 2 ^ 31) (hw : ws.set q0 (a, .inl (x.2.2.1, N, .inl (fun j => bI (bup f i b j)))) = ws') (kk : J M l x cc nL y d P k n (pc + 1) lv st ws') : J M l x cc nL y d P k n pc lv (.int (bI b) :: .int (nI i) :: .ref a :: st) ws :=
  j_zast q0 hd ha (vp_in_nI hi hN) (by rw [nI_clamp (show i < 2 ^ 31 by omega), vpn_bI, upd_bI]; exact hw) kk
theorem j_ifb_eq {b : Bool} {off : Int} {tgt : Nat} (hd : decode cc pc = .ok (.ifCond .eq off, 3)) (ht : (pc : Int) + off = (tgt : Int)) (kt : b = false → J M l x cc nL y d P k n tgt lv st ws) (kf : b = true → J M l x cc nL y d P k n (pc + 3) lv st ws) : J M l x cc nL y d P k n pc lv (.int (bI b) :: st) ws :=
  j_if_eq hd ht (fun h => kt ((bI_0 b).mp h)) (fun h => kf (by cases b; exact absurd rfl h; rfl))
theorem j_ifb_ne {b : Bool} {off : Int} {tgt : Nat} (hd : decode cc pc = .ok (.ifCond .ne off, 3)) (ht : (pc : Int) + off = (tgt : Int)) (kt : b = true → J M l x cc nL y d P k n tgt lv st ws) (kf : b = false → J M l x cc nL y d P k n (pc + 3) lv st ws) : J M l x cc nL y d P k n pc lv (.int (bI b) :: st) ws :=
  j_if_ne hd ht (fun h => kt (by cases b; exact absurd rfl h; rfl)) (fun h => kf ((bI_0 b).mp h))
theorem j_icmpN_eq {a b : Nat} {off : Int} {tgt : Nat} (ha : a < 2 ^ 31) (hb : b < 2 ^ 31) (hd : decode cc pc = .ok (.if_icmp .eq off, 3)) (ht : (pc : Int) + off = (tgt : Int)) (kt : a = b → J M l x cc nL y d P k n tgt lv st ws) (kf : ¬ a = b → J M l x cc nL y d P k n (pc + 3) lv st ws) : J M l x cc nL y d P k n pc lv (.int (nI b) :: .int (nI a) :: st) ws :=
  j_icmp_eq hd ht (fun h => kt ((nI_eq ha hb).mp h)) (fun h => kf (fun e => h ((nI_eq ha hb).mpr e)))
theorem j_icmpN_ne {a b : Nat} {off : Int} {tgt : Nat} (ha : a < 2 ^ 31) (hb : b < 2 ^ 31) (hd : decode cc pc = .ok (.if_icmp .ne off, 3)) (ht : (pc : Int) + off = (tgt : Int)) (kt : ¬ a = b → J M l x cc nL y d P k n tgt lv st ws) (kf : a = b → J M l x cc nL y d P k n (pc + 3) lv st ws) : J M l x cc nL y d P k n pc lv (.int (nI b) :: .int (nI a) :: st) ws :=
  j_icmp_ne hd ht (fun h => kt (fun e => h ((nI_eq ha hb).mpr e))) (fun h => kf ((nI_eq ha hb).mp h))
theorem j_icmpN_lt {a b : Nat} {off : Int} {tgt : Nat} (ha : a < 2 ^ 31) (hb : b < 2 ^ 31) (hd : decode cc pc = .ok (.if_icmp .lt off, 3)) (ht : (pc : Int) + off = (tgt : Int)) (kt : a < b → J M l x cc nL y d P k n tgt lv st ws) (kf : b ≤ a → J M l x cc nL y d P k n (pc + 3) lv st ws) : J M l x cc nL y d P k n pc lv (.int (nI b) :: .int (nI a) :: st) ws :=
  j_icmp_lt hd ht (fun h => kt ((nI_ltI ha hb).mp h)) (fun h => kf (by have := mt (nI_ltI ha hb).mpr h; omega))
theorem j_icmpN_ge {a b : Nat} {off : Int} {tgt : Nat} (ha : a < 2 ^ 31) (hb : b < 2 ^ 31) (hd : decode cc pc = .ok (.if_icmp .ge off, 3)) (ht : (pc : Int) + off = (tgt : Int)) (kt : b ≤ a → J M l x cc nL y d P k n tgt lv st ws) (kf : a < b → J M l x cc nL y d P k n (pc + 3) lv st ws) : J M l x cc nL y d P k n pc lv (.int (nI b) :: .int (nI a) :: st) ws :=
  j_icmp_ge hd ht (fun h => kt ((nI_leI hb ha).mp h)) (fun h => kf (by have := mt (nI_leI hb ha).mpr h; omega))
theorem j_icmpN_gt {a b : Nat} {off : Int} {tgt : Nat} (ha : a < 2 ^ 31) (hb : b < 2 ^ 31) (hd : decode cc pc = .ok (.if_icmp .gt off, 3)) (ht : (pc : Int) + off = (tgt : Int)) (kt : b < a → J M l x cc nL y d P k n tgt lv st ws) (kf : a ≤ b → J M l x cc nL y d P k n (pc + 3) lv st ws) : J M l x cc nL y d P k n pc lv (.int (nI b) :: .int (nI a) :: st) ws :=
  j_icmp_gt hd ht (fun h => kt ((nI_ltI hb ha).mp h)) (fun h => kf (by have := mt (nI_ltI hb ha).mpr h; omega))
theorem j_icmpN_le {a b : Nat} {off : Int} {tgt : Nat} (ha : a < 2 ^ 31) (hb : b < 2 ^ 31) (hd : decode cc pc = .ok (.if_icmp .le off, 3)) (ht : (pc : Int) + off = (tgt : Int)) (kt : a ≤ b → J M l x cc nL y d P k n tgt lv st ws) (kf : b < a → J M l x cc nL y d P k n (pc + 3) lv st ws) : J M l x cc nL y d P k n pc lv (.int (nI b) :: .int (nI a) :: st) ws :=
  j_icmp_le hd ht (fun h => kt ((nI_leI ha hb).mp h)) (fun h => kf (by have := mt (nI_leI ha hb).mpr h; omega))
theorem j_topi {a b : Int32} (e : a = b) (kk : J M l x cc nL y d P k n pc lv (.int b :: st) ws) : J M l x cc nL y d P k n pc lv (.int a :: st) ws := by subst e; exact kk
theorem j_top2 {v : Value} {a b : Int32} (e : a = b) (kk : J M l x cc nL y d P k n pc lv (v :: .int b :: st) ws) : J M l x cc nL y d P k n pc lv (v :: .int a :: st) ws := by subst e; exact kk
theorem j_ws {ws' : va_W} (e : ws = ws') (kk : J M l x cc nL y d P k n pc lv st ws') : J M l x cc nL y d P k n pc lv st ws := by subst e; exact kk
theorem j_lve {lv' : List (Nat × Value)} (e : lv = lv') (kk : J M l x cc nL y d P k n pc lv' st ws) : J M l x cc nL y d P k n pc lv st ws := by subst e; exact kk
end
/-! contracts with one answer and one world behind it -/
def eI (r : Int32) (w1 : va_W) : Option Value → va_W → Prop := fun v ws => v = some (.int r) ∧ ws = w1
def eL (r : Int64) (w1 : va_W) : Option Value → va_W → Prop := fun v ws => v = some (.long r) ∧ ws = w1
def eV (w1 : va_W) : Option Value → va_W → Prop := fun v ws => v = none ∧ ws = w1
theorem eI_fit {r : Int32} {w1 : va_W} : ∀ v ws, eI r w1 v ws → retFit (some .int) v := fun v ws h => Or.inr (Or.inl ⟨.int, r, rfl, h.1, rfl⟩)
theorem eB_fit {b : Bool} {w1 : va_W} : ∀ v ws, eI (bI b) w1 v ws → retFit (some .boolean) v := fun v ws h => Or.inr (Or.inl ⟨.boolean, bI b, rfl, h.1, nar_bI b⟩)
theorem eL_fit {r : Int64} {w1 : va_W} : ∀ v ws, eL r w1 v ws → retFit (some .long) v := fun v ws h => Or.inr (Or.inr ⟨r, rfl, h.1⟩)
theorem eV_fit {w1 : va_W} : ∀ v ws, eV w1 v ws → retFit none v := fun v ws h => Or.inl ⟨rfl, h.1⟩
theorem pm_0 (w : va_W) : w.Perm (w ++ []) := by rw [List.append_nil]
theorem pm_1 {bs br : List va_W} {b : va_W} (i : Nat) (js : List Nat) (h : ([i] ++ js).isPerm (List.range bs.length) = true) (e : bs[i]? = some b) (f : js.filterMap (fun i => bs[i]?) = br) : (fl bs).Perm (b ++ fl br) := by
  have h1 := pm_c (bs := bs) (bc := [b]) (br := br) [i] js h (by simp [e]) f
  simpa [fl] using h1
theorem pm_2 {bs br : List va_W} {b b2 : va_W} (i i2 : Nat) (js : List Nat) (h : ([i, i2] ++ js).isPerm (List.range bs.length) = true) (e : bs[i]? = some b) (e2 : bs[i2]? = some b2) (f : js.filterMap (fun i => bs[i]?) = br) : (fl bs).Perm ((b ++ b2) ++ fl br) := by
  have h1 := pm_c (bs := bs) (bc := [b, b2]) (br := br) [i, i2] js h (by simp [e, e2]) f
  simpa [fl] using h1
section
variable {M : Mx} {l : Launch} {x : Cx} {cc : ByteArray} {nL : Nat} {y : MethodName} {d : Nat} {P : Option Value → va_W → Prop} {k n pc : Nat} {lv : List (Nat × Value)} {st : List Value} {ws : va_W}
theorem j_cVi {wc wr w1 ws' : va_W} {r : Int32} {b : Nat} {d' idx nL' na : Nat} {y' : MethodName} {cc' : ByteArray} {ret' : Option FieldType} {As rest : List Value} (hM : MC l x d' 0 0 y' cc' nL' ret' (.ref b :: As) wc (eI r w1)) (hC : COK y' cc' nL' ret' na) (q0 : Nat) {ci : Nat} {fs : List Value} {r0 : vw_C} (he : wc[q0]? = some (b, .inr (ci, fs))) (hc : vwCl[ci]? = some r0) (hcl : r0.1 = y'.cls) (hV : VOK y.cls idx y') (hd : decode cc pc = .ok (.invokevirtual idx, 3)) (h0 : d' + 1 ≤ d) (ha : As.length = na) (hst : st = As.reverse ++ .ref b :: rest) (hr : (rest.map fun v => v.category).sum ≤ 8) (hp : ws.Perm (wc ++ wr)) (hw : w1 ++ wr = ws') (kk : J M l x cc nL y d P k n (pc + 3) lv (.int r :: rest) ws') : J M l x cc nL y d P k n pc lv st ws := by
  subst hw
  exact j_callV hM hC hV q0 he hc hcl hd h0 (Nat.le_of_eq (Nat.zero_add k)) (Nat.le_of_eq (Nat.zero_add n)) ha hst hr hp (fun v w hv => by obtain ⟨e1, e2⟩ := hv; subst e1; subst e2; exact kk)
theorem j_cVv {wc wr w1 ws' : va_W} {b : Nat} {d' idx nL' na : Nat} {y' : MethodName} {cc' : ByteArray} {ret' : Option FieldType} {As rest : List Value} (hM : MC l x d' 0 0 y' cc' nL' ret' (.ref b :: As) wc (eV w1)) (hC : COK y' cc' nL' ret' na) (q0 : Nat) {ci : Nat} {fs : List Value} {r0 : vw_C} (he : wc[q0]? = some (b, .inr (ci, fs))) (hc : vwCl[ci]? = some r0) (hcl : r0.1 = y'.cls) (hV : VOK y.cls idx y') (hd : decode cc pc = .ok (.invokevirtual idx, 3)) (h0 : d' + 1 ≤ d) (ha : As.length = na) (hst : st = As.reverse ++ .ref b :: rest) (hr : (rest.map fun v => v.category).sum ≤ 8) (hp : ws.Perm (wc ++ wr)) (hw : w1 ++ wr = ws') (kk : J M l x cc nL y d P k n (pc + 3) lv (rest) ws') : J M l x cc nL y d P k n pc lv st ws := by
  subst hw
  exact j_callV hM hC hV q0 he hc hcl hd h0 (Nat.le_of_eq (Nat.zero_add k)) (Nat.le_of_eq (Nat.zero_add n)) ha hst hr hp (fun v w hv => by obtain ⟨e1, e2⟩ := hv; subst e1; subst e2; exact kk)
theorem j_cVl {wc wr w1 ws' : va_W} {r : Int64} {b : Nat} {d' idx nL' na : Nat} {y' : MethodName} {cc' : ByteArray} {ret' : Option FieldType} {As rest : List Value} (hM : MC l x d' 0 0 y' cc' nL' ret' (.ref b :: As) wc (eL r w1)) (hC : COK y' cc' nL' ret' na) (q0 : Nat) {ci : Nat} {fs : List Value} {r0 : vw_C} (he : wc[q0]? = some (b, .inr (ci, fs))) (hc : vwCl[ci]? = some r0) (hcl : r0.1 = y'.cls) (hV : VOK y.cls idx y') (hd : decode cc pc = .ok (.invokevirtual idx, 3)) (h0 : d' + 1 ≤ d) (ha : As.length = na) (hst : st = As.reverse ++ .ref b :: rest) (hr : (rest.map fun v => v.category).sum ≤ 8) (hp : ws.Perm (wc ++ wr)) (hw : w1 ++ wr = ws') (kk : J M l x cc nL y d P k n (pc + 3) lv (.long r :: rest) ws') : J M l x cc nL y d P k n pc lv st ws := by
  subst hw
  exact j_callV hM hC hV q0 he hc hcl hd h0 (Nat.le_of_eq (Nat.zero_add k)) (Nat.le_of_eq (Nat.zero_add n)) ha hst hr hp (fun v w hv => by obtain ⟨e1, e2⟩ := hv; subst e1; subst e2; exact kk)
theorem j_cSi {wc wr w1 ws' : va_W} {r : Int32} {d' idx nL' na : Nat} {y' : MethodName} {cc' : ByteArray} {ret' : Option FieldType} {As rest : List Value} (hM : MC l x d' 0 0 y' cc' nL' ret' As wc (eI r w1)) (hC : COK y' cc' nL' ret' na)  (hV : SOK y.cls idx y') (hd : decode cc pc = .ok (.invokestatic idx, 3)) (h0 : d' + 1 ≤ d) (ha : As.length = na) (hst : st = As.reverse ++ rest) (hr : (rest.map fun v => v.category).sum ≤ 8) (hp : ws.Perm (wc ++ wr)) (hw : w1 ++ wr = ws') (kk : J M l x cc nL y d P k n (pc + 3) lv (.int r :: rest) ws') : J M l x cc nL y d P k n pc lv st ws := by
  subst hw
  exact j_callS hM hC hV hd h0 (Nat.le_of_eq (Nat.zero_add k)) (Nat.le_of_eq (Nat.zero_add n)) ha hst hr hp (fun v w hv => by obtain ⟨e1, e2⟩ := hv; subst e1; subst e2; exact kk)
theorem j_cSl {wc wr w1 ws' : va_W} {r : Int64} {d' idx nL' na : Nat} {y' : MethodName} {cc' : ByteArray} {ret' : Option FieldType} {As rest : List Value} (hM : MC l x d' 0 0 y' cc' nL' ret' As wc (eL r w1)) (hC : COK y' cc' nL' ret' na)  (hV : SOK y.cls idx y') (hd : decode cc pc = .ok (.invokestatic idx, 3)) (h0 : d' + 1 ≤ d) (ha : As.length = na) (hst : st = As.reverse ++ rest) (hr : (rest.map fun v => v.category).sum ≤ 8) (hp : ws.Perm (wc ++ wr)) (hw : w1 ++ wr = ws') (kk : J M l x cc nL y d P k n (pc + 3) lv (.long r :: rest) ws') : J M l x cc nL y d P k n pc lv st ws := by
  subst hw
  exact j_callS hM hC hV hd h0 (Nat.le_of_eq (Nat.zero_add k)) (Nat.le_of_eq (Nat.zero_add n)) ha hst hr hp (fun v w hv => by obtain ⟨e1, e2⟩ := hv; subst e1; subst e2; exact kk)
theorem j_cNi {wc wr w1 ws' : va_W} {r : Int32} {d' idx nL' na : Nat} {y' : MethodName} {cc' : ByteArray} {ret' : Option FieldType} {As rest : List Value} (hM : MC l x d' 0 0 y' cc' nL' ret' As wc (eI r w1)) (hC : COK y' cc' nL' ret' na) {host : String} (hV : NOK y.cls idx y' host) (hd : decode cc pc = .ok (.invokestatic idx, 3)) (h0 : d' + 1 ≤ d) (ha : As.length = na) (hst : st = As.reverse ++ rest) (hr : (rest.map fun v => v.category).sum ≤ 8) (hp : ws.Perm (wc ++ wr)) (hw : w1 ++ wr = ws') (kk : J M l x cc nL y d P k n (pc + 3) lv (.int r :: rest) ws') : J M l x cc nL y d P k n pc lv st ws := by
  subst hw
  exact j_callN hM hC hV hd h0 (Nat.le_of_eq (Nat.zero_add k)) (Nat.le_of_eq (Nat.zero_add n)) ha hst hr hp (fun v w hv => by obtain ⟨e1, e2⟩ := hv; subst e1; subst e2; exact kk)
end
