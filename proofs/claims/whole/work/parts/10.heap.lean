/-! words of the tables that many rules need -/
theorem mmax_s : Cond.static Lib.Math.max.name ∈ gw := gw_in (by decide +kernel) (by decide +kernel)
theorem mmin_s : Cond.static Lib.Math.min.name ∈ gw := gw_in (by decide +kernel) (by decide +kernel)
theorem math_i : Cond.initialized "java/lang/Math" ∈ gw := gw_in (by decide +kernel) (by decide +kernel)
theorem mmax_c : Cond.code Lib.Math.max.name Lib.Math.max.code 2 (some .int) ∈ gw := gw_in (by decide +kernel) (by decide +kernel)
theorem mmin_c : Cond.code Lib.Math.min.name Lib.Math.min.code 2 (some .int) ∈ gw := gw_in (by decide +kernel) (by decide +kernel)
theorem obj_n : Cond.instanceMethod objectInit ∈ gw := gw_in (by decide +kernel) (by decide +kernel)
theorem obj_c : Cond.code objectInit ⟨#[0xb1]⟩ 1 none ∈ gw := gw_in (by decide +kernel) (by decide +kernel)
section
variable {M : Mx} {l : Launch} {x : Cx} {cc : ByteArray} {nL : Nat} {y : MethodName} {d : Nat} {P : Option Value → va_W → Prop} {k n pc : Nat} {lv : List (Nat × Value)} {st : List Value} {ws : va_W}
/-- what a field access of a class needs of the tables -/
def FOK (own : String) (idx ci kf : Nat) (ty : FieldType) (fin : Bool) : Prop := ∃ (C : String) (T : u_T) (N : Nat) (ty0 : Nat → FieldType), vwCl[ci]? = some (C, T, N) ∧ kf < N ∧ (∀ w ∈ u_ws C T N, w ∈ gw) ∧ Cond.fieldLink own idx own (T kf).2.1 (T kf).2.2.1 ∈ gw ∧ (∀ k, k < N → parseFieldDescriptor (T k).2.2.1 = some (ty0 k)) ∧ (∀ a, a < N → ∀ b, b < N → a ≠ b → (T a).2.1 ≠ (T b).2.1) ∧ parseFieldDescriptor (T kf).2.2.1 = some ty ∧ (T kf).2.2.2 = fin ∧ (T kf).1 = own
theorem j_get (q0 : Nat) {a idx ci kf : Nat} {ty : FieldType} {fin : Bool} {fs : List Value} {v : Value} (hd : decode cc pc = .ok (.getfield idx, 3)) (hF : FOK y.cls idx ci kf ty fin) (he : ws[q0]? = some (a, .inr (ci, fs))) (hv : fs[kf]? = some v) (kk : J M l x cc nL y d P k n (pc + 3) lv (v :: st) ws) : J M l x cc nL y d P k n pc lv (.ref a :: st) ws := by
  obtain ⟨p, e, R, s, m, args, below, meth, c, A, Q, mc, ms⟩ := M
  intro E cells slots H locs ls h1 h2 hP hD hS hl
  obtain ⟨C, T, N, ty0, f1, f2, f3, f4, f5, f6, f7, f8, f9⟩ := hF
  exact va_get E.1.1 E.1.2.1 E.1.2.2.2.2.2.1 f3 E.1.2.2.2.1 E.1.2.2.2.2.2.2.1.1 hP q0 he f1 kf f2 (E.1.2.2.2.2.2.1 _ f4) (fun z h => by rw [f9] at h; exact h) hv hd (kk E cells slots H locs ls h1 h2 hP hD hS hl)
theorem j_put (q0 : Nat) {a idx ci kf : Nat} {ty : FieldType} {fs : List Value} {v : Value} {ws' : va_W} (hd : decode cc pc = .ok (.putfield idx, 3)) (hF : FOK y.cls idx ci kf ty false) (he : ws[q0]? = some (a, .inr (ci, fs))) (hn : narrow ty v = v) (hfit : fits ty v = true) (hl0 : kf < fs.length) (hw : ws.set q0 (a, .inr (ci, fs.set kf v)) = ws') (kk : J M l x cc nL y d P k n (pc + 3) lv st ws') : J M l x cc nL y d P k n pc lv (v :: .ref a :: st) ws := by
  obtain ⟨p, e, R, s, m, args, below, meth, c, A, Q, mc, ms⟩ := M
  intro E cells slots H locs ls h1 h2 hP hD hS hl
  obtain ⟨C, T, N, ty0, f1, f2, f3, f4, f5, f6, f7, f8, f9⟩ := hF
  subst hw
  exact va_put E.1.1 E.1.2.1 E.1.2.2.2.2.2.1 f3 ty0 f5 f6 E.1.2.2.2.1 E.1.2.2.2.2.2.2.1.1 hP hD hS q0 he f1 kf f2 (E.1.2.2.2.2.2.1 _ f4) (fun z h => by rw [f9] at h; exact h) f8 f7 hn hfit hl0 hd (fun H1 locs1 hP hD hS => kk E cells slots H1 locs1 ls h1 h2 hP hD hS hl)
theorem j_putF (q0 : Nat) {a idx ci kf : Nat} {ty : FieldType} {fs : List Value} {v : Value} {ws' : va_W} (hd : decode cc pc = .ok (.putfield idx, 3)) (hF : FOK y.cls idx ci kf ty true) (hy : y.name = "<init>") (he : ws[q0]? = some (a, .inr (ci, fs))) (hn : narrow ty v = v) (hfit : fits ty v = true) (hl0 : kf < fs.length) (hw : ws.set q0 (a, .inr (ci, fs.set kf v)) = ws') (kk : J M l x cc nL y d P k n (pc + 3) lv st ws') : J M l x cc nL y d P k n pc lv (v :: .ref a :: st) ws := by
  obtain ⟨p, e, R, s, m, args, below, meth, c, A, Q, mc, ms⟩ := M
  intro E cells slots H locs ls h1 h2 hP hD hS hl
  obtain ⟨C, T, N, ty0, f1, f2, f3, f4, f5, f6, f7, f8, f9⟩ := hF
  subst hw
  exact va_putF E.1.1 E.1.2.1 E.1.2.2.2.2.2.1 f3 ty0 f5 f6 E.1.2.2.2.1 E.1.2.2.2.2.2.2.1.1 hP hD hS q0 he f1 kf f2 (E.1.2.2.2.2.2.1 _ f4) (fun z h => by rw [f9] at h; exact h) f8 (E.1.2.2.2.2.1.trans hy) f9 f7 hn hfit hl0 hd (fun H1 locs1 hP hD hS => kk E cells slots H1 locs1 ls h1 h2 hP hD hS hl)
theorem j_iald (q0 : Nat) {a N : Nat} {f : Nat → Int32} {i : Int32} (hd : decode cc pc = .ok (.iaload, 1)) (ha : ws[q0]? = some (a, .inl (x.2.1, N, .inl f))) (hin : vp_in i N) (kk : J M l x cc nL y d P k n (pc + 1) lv (.int (f i.toNatClampNeg) :: st) ws) : J M l x cc nL y d P k n pc lv (.int i :: .ref a :: st) ws := by
  obtain ⟨p, e, R, s, m, args, below, meth, c, A, Q, mc, ms⟩ := M
  intro E cells slots H locs ls h1 h2 hP hD hS hl
  exact va_iald E.1.1 E.1.2.1 E.1.2.2.2.2.2.2.1.1 hP q0 0 ha rfl hin hd (kk E cells slots H locs ls h1 h2 hP hD hS hl)
theorem j_zald (q0 : Nat) {a N : Nat} {f : Nat → Int32} {i : Int32} (hd : decode cc pc = .ok (.baload, 1)) (ha : ws[q0]? = some (a, .inl (x.2.2.1, N, .inl f))) (hin : vp_in i N) (kk : J M l x cc nL y d P k n (pc + 1) lv (.int (f i.toNatClampNeg) :: st) ws) : J M l x cc nL y d P k n pc lv (.int i :: .ref a :: st) ws := by
  obtain ⟨p, e, R, s, m, args, below, meth, c, A, Q, mc, ms⟩ := M
  intro E cells slots H locs ls h1 h2 hP hD hS hl
  exact va_zald E.1.1 E.1.2.1 E.1.2.2.2.2.2.2.1.1 hP q0 1 ha rfl hin hd (kk E cells slots H locs ls h1 h2 hP hD hS hl)
theorem j_bald (q0 : Nat) {a N : Nat} {f : Nat → Int32} {i : Int32} (hd : decode cc pc = .ok (.baload, 1)) (ha : ws[q0]? = some (a, .inl (x.2.2.2.1, N, .inl f))) (hin : vp_in i N) (kk : J M l x cc nL y d P k n (pc + 1) lv (.int (f i.toNatClampNeg) :: st) ws) : J M l x cc nL y d P k n pc lv (.int i :: .ref a :: st) ws := by
  obtain ⟨p, e, R, s, m, args, below, meth, c, A, Q, mc, ms⟩ := M
  intro E cells slots H locs ls h1 h2 hP hD hS hl
  exact va_bald E.1.1 E.1.2.1 E.1.2.2.2.2.2.2.1.1 hP q0 2 ha rfl hin hd (kk E cells slots H locs ls h1 h2 hP hD hS hl)
theorem j_iast (q0 : Nat) {a N : Nat} {f : Nat → Int32} {i v : Int32} {ws' : va_W} (hd : decode cc pc = .ok (.iastore, 1)) (ha : ws[q0]? = some (a, .inl (x.2.1, N, .inl f))) (hin : vp_in i N) (hw : ws.set q0 (a, .inl (x.2.1, N, .inl (upd f i.toNatClampNeg v))) = ws') (kk : J M l x cc nL y d P k n (pc + 1) lv st ws') : J M l x cc nL y d P k n pc lv (.int v :: .int i :: .ref a :: st) ws := by
  obtain ⟨p, e, R, s, m, args, below, meth, c, A, Q, mc, ms⟩ := M
  intro E cells slots H locs ls h1 h2 hP hD hS hl
  subst hw
  exact va_iast E.1.1 E.1.2.1 E.1.2.2.2.2.2.2.1.1 hP hD hS q0 0 ha rfl hin hd (fun H1 locs1 hP hD hS => kk E cells slots H1 locs1 ls h1 h2 hP hD hS hl)
theorem j_zast (q0 : Nat) {a N : Nat} {f : Nat → Int32} {i v : Int32} {ws' : va_W} (hd : decode cc pc = .ok (.bastore, 1)) (ha : ws[q0]? = some (a, .inl (x.2.2.1, N, .inl f))) (hin : vp_in i N) (hw : ws.set q0 (a, .inl (x.2.2.1, N, .inl (upd f i.toNatClampNeg (vp_nar .boolean v)))) = ws') (kk : J M l x cc nL y d P k n (pc + 1) lv st ws') : J M l x cc nL y d P k n pc lv (.int v :: .int i :: .ref a :: st) ws := by
  obtain ⟨p, e, R, s, m, args, below, meth, c, A, Q, mc, ms⟩ := M
  intro E cells slots H locs ls h1 h2 hP hD hS hl
  subst hw
  exact va_zast E.1.1 E.1.2.1 E.1.2.2.2.2.2.2.1.1 hP hD hS q0 1 ha rfl hin hd (fun H1 locs1 hP hD hS => kk E cells slots H1 locs1 ls h1 h2 hP hD hS hl)
theorem j_bast (q0 : Nat) {a N : Nat} {f : Nat → Int32} {i v : Int32} {ws' : va_W} (hd : decode cc pc = .ok (.bastore, 1)) (ha : ws[q0]? = some (a, .inl (x.2.2.2.1, N, .inl f))) (hin : vp_in i N) (hw : ws.set q0 (a, .inl (x.2.2.2.1, N, .inl (upd f i.toNatClampNeg (vp_nar .byte v)))) = ws') (kk : J M l x cc nL y d P k n (pc + 1) lv st ws') : J M l x cc nL y d P k n pc lv (.int v :: .int i :: .ref a :: st) ws := by
  obtain ⟨p, e, R, s, m, args, below, meth, c, A, Q, mc, ms⟩ := M
  intro E cells slots H locs ls h1 h2 hP hD hS hl
  subst hw
  exact va_bast E.1.1 E.1.2.1 E.1.2.2.2.2.2.2.1.1 hP hD hS q0 2 ha rfl hin hd (fun H1 locs1 hP hD hS => kk E cells slots H1 locs1 ls h1 h2 hP hD hS hl)
theorem j_alen (q0 t0 : Nat) {a : Nat} {cA : ClassId} {z : vp_A} {ty : FieldType} {v : Int32} (hd : decode cc pc = .ok (.arraylength, 1)) (ha : ws[q0]? = some (a, .inl (cA, z))) (ht : (cxT x)[t0]? = some (cA, ty)) (hv : Int32.ofNat z.1 = v) (kk : J M l x cc nL y d P k n (pc + 1) lv (.int v :: st) ws) : J M l x cc nL y d P k n pc lv (.ref a :: st) ws := by
  obtain ⟨p, e, R, s, m, args, below, meth, c, A, Q, mc, ms⟩ := M
  intro E cells slots H locs ls h1 h2 hP hD hS hl
  exact va_alen E.1.1 E.1.2.1 E.1.2.2.2.2.2.2.1.1 hP q0 t0 ha ht hv hd (kk E cells slots H locs ls h1 h2 hP hD hS hl)
theorem j_aald (q0 : Nat) {a N b : Nat} {f : Nat → Option Nat} {i : Int32} (hd : decode cc pc = .ok (.aaload, 1)) (ha : ws[q0]? = some (a, .inl (x.2.2.2.2.1, N, .inr (.inr (.inr (.inr f)))))) (hin : vp_in i N) (hb : f i.toNatClampNeg = some b) (kk : J M l x cc nL y d P k n (pc + 1) lv (.ref b :: st) ws) : J M l x cc nL y d P k n pc lv (.int i :: .ref a :: st) ws := by
  obtain ⟨p, e, R, s, m, args, below, meth, c, A, Q, mc, ms⟩ := M
  intro E cells slots H locs ls h1 h2 hP hD hS hl
  exact va_aldq E.1.1 E.1.2.1 E.1.2.2.2.2.2.2.1.1 hP q0 3 ha rfl hin hd (by rw [hb]; exact (kk E cells slots H locs ls h1 h2 hP hD hS hl))
theorem j_mald (q0 : Nat) {a N b : Nat} {f : Nat → Option Nat} {i : Int32} (hd : decode cc pc = .ok (.aaload, 1)) (ha : ws[q0]? = some (a, .inl (x.2.2.2.2.2, N, .inr (.inr (.inr (.inr f)))))) (hin : vp_in i N) (hb : f i.toNatClampNeg = some b) (kk : J M l x cc nL y d P k n (pc + 1) lv (.ref b :: st) ws) : J M l x cc nL y d P k n pc lv (.int i :: .ref a :: st) ws := by
  obtain ⟨p, e, R, s, m, args, below, meth, c, A, Q, mc, ms⟩ := M
  intro E cells slots H locs ls h1 h2 hP hD hS hl
  have hlt : i.toNatClampNeg < N := Nat.not_le.mp fun q => hin (Or.inr q)
  refine W.aald (v := .ref b) (ty := .array .int) E.1.1 E.1.2.1 (hP q0 _ ha) ((E.1.2.2.2.2.2.2.1.1.2 4 _ rfl).1 N (fun j => va_rf (f j))) rfl (fun q => by cases q) (by show ¬ (i < 0 ∨ (arrV _ _ _).slots.size ≤ _); rw [arrV_size]; exact hin) (by show (arrV _ _ _).slots[_]? = _; rw [arrV_read _ _ hlt, hb]; rfl) rfl rfl hd (kk E cells slots H locs ls h1 h2 hP hD hS hl)
theorem j_aast (q0 q1 : Nat) {a b N : Nat} {f : Nat → Option Nat} {vs : List Value} {i : Int32} {ws' : va_W} (hd : decode cc pc = .ok (.aastore, 1)) (ha : ws[q0]? = some (a, .inl (x.2.2.2.2.1, N, .inr (.inr (.inr (.inr f)))))) (hv : ws[q1]? = some (b, .inr (2, vs))) (hin : vp_in i N) (hw : ws.set q0 (a, .inl (x.2.2.2.2.1, N, .inr (.inr (.inr (.inr (va_up f i.toNatClampNeg (some b))))))) = ws') (kk : J M l x cc nL y d P k n (pc + 1) lv st ws') : J M l x cc nL y d P k n pc lv (.ref b :: .int i :: .ref a :: st) ws := by
  obtain ⟨p, e, R, s, m, args, below, meth, c, A, Q, mc, ms⟩ := M
  intro E cells slots H locs ls h1 h2 hP hD hS hl
  subst hw
  exact va_astq E.1.1 E.1.2.1 E.1.2.2.2.2.2.2.1.1 hP hD hS q0 3 q1 2 ha rfl hv rfl hin hd (fun H1 locs1 hP hD hS => kk E cells slots H1 locs1 ls h1 h2 hP hD hS hl)
/-- Math.max, Math.min -/
theorem j_mmax {i : Nat} {a b : Int32} (hd : decode cc pc = .ok (.invokestatic i, 3)) (hl0 : Cond.methodLink y.cls i Lib.Math.max.name ∈ gw) (h0 : 1 ≤ d) (hr : (st.map fun v => v.category).sum ≤ 8) (kk : J M l x cc nL y d P k n (pc + 3) lv (.int (if a < b then b else a) :: st) ws) : J M l x cc nL y d P k n pc lv (.int b :: .int a :: st) ws := by
  obtain ⟨p, e, R, s, m, args, below, meth, c, A, Q, mc, ms⟩ := M
  intro E cells slots H locs ls h1 h2 hP hD hS hl
  obtain ⟨E1, E2, E3⟩ := id E
  exact va_mmax E1.1 E1.2.1 (E1.2.2.1.trans hl.1.symm) E1.2.2.2.1 (E1.2.2.2.2.2.1 _ hl0) (E1.2.2.2.2.2.1 _ mmax_s) (E1.2.2.2.2.2.1 _ math_i) (E1.2.2.2.2.2.1 _ mmax_c) (by omega) (by omega) (by omega) (by omega) hd (kk E cells slots H locs ls h1 h2 hP hD hS hl)
theorem j_mmin {i : Nat} {a b : Int32} (hd : decode cc pc = .ok (.invokestatic i, 3)) (hl0 : Cond.methodLink y.cls i Lib.Math.min.name ∈ gw) (h0 : 1 ≤ d) (hr : (st.map fun v => v.category).sum ≤ 8) (kk : J M l x cc nL y d P k n (pc + 3) lv (.int (if b < a then b else a) :: st) ws) : J M l x cc nL y d P k n pc lv (.int b :: .int a :: st) ws := by
  obtain ⟨p, e, R, s, m, args, below, meth, c, A, Q, mc, ms⟩ := M
  intro E cells slots H locs ls h1 h2 hP hD hS hl
  obtain ⟨E1, E2, E3⟩ := id E
  exact va_mmin E1.1 E1.2.1 (E1.2.2.1.trans hl.1.symm) E1.2.2.2.1 (E1.2.2.2.2.2.1 _ hl0) (E1.2.2.2.2.2.1 _ mmin_s) (E1.2.2.2.2.2.1 _ math_i) (E1.2.2.2.2.2.1 _ mmin_c) (by omega) (by omega) (by omega) (by omega) hd (kk E cells slots H locs ls h1 h2 hP hD hS hl)
theorem j_objInit {i a : Nat} (hd : decode cc pc = .ok (.invokespecial i, 3)) (hl0 : Cond.methodLink y.cls i objectInit ∈ gw) (h0 : 1 ≤ d) (hr : (st.map fun v => v.category).sum ≤ 8) (kk : J M l x cc nL y d P k n (pc + 3) lv st ws) : J M l x cc nL y d P k n pc lv (.ref a :: st) ws := by
  obtain ⟨p, e, R, s, m, args, below, meth, c, A, Q, mc, ms⟩ := M
  intro E cells slots H locs ls h1 h2 hP hD hS hl
  obtain ⟨E1, E2, E3⟩ := id E
  exact W.objInit E1.1 E1.2.1 E1.2.2.2.1 (E1.2.2.2.2.2.1 _ hl0) (E1.2.2.2.2.2.1 _ obj_n) (E1.2.2.2.2.2.1 _ obj_c) rfl (by rw [E1.2.2.1]; exact hl.1) rfl hd (by omega) (by show 2 * 0 + _ + 12 ≤ _; omega) (kk E cells slots H locs ls h1 h2 hP hD hS hl)
/-- returns -/
theorem j_iret {v : Int32} (ws' : va_W) (hd : decode cc pc = .ok (.ireturn, 1)) (hp : ws.Perm ws') (hv : P (some (.int v)) ws') : J M l x cc nL y d P k n pc lv [.int v] ws := by
  obtain ⟨p, e, R, s, m, args, below, meth, c, A, Q, mc, ms⟩ := M
  intro E cells slots H locs ls h1 h2 hP hD hS hl
  exact E.2.2 (some (.int v)) ws' pc H locs ls cells slots hv (Or.inl ⟨v, rfl, hd⟩) (by omega) (by omega) (hP.perm hp) (hD.perm hp) hS
theorem j_lret {v : Int64} (ws' : va_W) (hd : decode cc pc = .ok (.lreturn, 1)) (hp : ws.Perm ws') (hv : P (some (.long v)) ws') : J M l x cc nL y d P k n pc lv [.long v] ws := by
  obtain ⟨p, e, R, s, m, args, below, meth, c, A, Q, mc, ms⟩ := M
  intro E cells slots H locs ls h1 h2 hP hD hS hl
  exact E.2.2 (some (.long v)) ws' pc H locs ls cells slots hv (Or.inr (Or.inl ⟨v, rfl, hd⟩)) (by omega) (by omega) (hP.perm hp) (hD.perm hp) hS
theorem j_vret (ws' : va_W) (hd : decode cc pc = .ok (.return_, 1)) (hp : ws.Perm ws') (hv : P none ws') : J M l x cc nL y d P k n pc lv [] ws := by
  obtain ⟨p, e, R, s, m, args, below, meth, c, A, Q, mc, ms⟩ := M
  intro E cells slots H locs ls h1 h2 hP hD hS hl
  exact E.2.2 none ws' pc H locs ls cells slots hv (Or.inr (Or.inr ⟨rfl, hd⟩)) (by omega) (by omega) (hP.perm hp) (hD.perm hp) hS
/-- another order of the world, fewer locals, less room, another name for a state -/
theorem j_perm (ws' : va_W) (hp : ws.Perm ws') (kk : J M l x cc nL y d P k n pc lv st ws') : J M l x cc nL y d P k n pc lv st ws := by
  obtain ⟨p, e, R, s, m, args, below, meth, c, A, Q, mc, ms⟩ := M
  intro E cells slots H locs ls h1 h2 hP hD hS hl
  exact kk E cells slots H locs ls h1 h2 (hP.perm hp) (hD.perm hp) hS hl
theorem j_lv (is : List Nat) {lv' : List (Nat × Value)} (h : lv_pick lv is = lv') (kk : J M l x cc nL y d P k n pc lv' st ws) : J M l x cc nL y d P k n pc lv st ws := by
  obtain ⟨p, e, R, s, m, args, below, meth, c, A, Q, mc, ms⟩ := M
  intro E cells slots H locs ls h1 h2 hP hD hS hl
  exact kk E cells slots H locs ls h1 h2 hP hD hS (lv_sub hl is h)
theorem j_room {k' n' : Nat} (g1 : k' ≤ k) (g2 : n' ≤ n) (kk : J M l x cc nL y d P k' n' pc lv st ws) : J M l x cc nL y d P k n pc lv st ws := by
  obtain ⟨p, e, R, s, m, args, below, meth, c, A, Q, mc, ms⟩ := M
  intro E cells slots H locs ls h1 h2 hP hD hS hl
  exact kk E cells slots H locs ls (by omega) (by omega) hP hD hS hl
theorem j_eq {lv' : List (Nat × Value)} {st' : List Value} {ws' : va_W} (e1 : lv = lv') (e2 : st = st') (e3 : ws = ws') (kk : J M l x cc nL y d P k n pc lv' st' ws') : J M l x cc nL y d P k n pc lv st ws := by
  subst e1; subst e2; subst e3; exact kk
end
