section
variable {M : Mx} {l : Launch} {x : Cx} {cc : ByteArray} {nL : Nat} {y : MethodName} {d : Nat} {P : Option Value → va_W → Prop} {k n pc : Nat} {lv : List (Nat × Value)} {st : List Value} {ws : va_W}
theorem j_iconst {i : Int} {v : Int32} (hd : decode cc pc = .ok (.iconst i, 1)) (hv : Int32.ofInt i = v) (kk : J M l x cc nL y d P k n (pc + 1) lv (.int v :: st) ws) : J M l x cc nL y d P k n pc lv st ws := by
  obtain ⟨p, e, R, s, m, args, below, meth, c, A, Q, mc, ms⟩ := M
  intro E cells slots H locs ls h1 h2 hP hD hS hl
  exact lv_iconst E.1.1 E.1.2.1 hd hv (kk E cells slots H locs ls h1 h2 hP hD hS hl)
theorem j_bipush {i : Int} {v : Int32} (hd : decode cc pc = .ok (.bipush i, 2)) (hv : (Int8.ofInt i).toInt32 = v) (kk : J M l x cc nL y d P k n (pc + 2) lv (.int v :: st) ws) : J M l x cc nL y d P k n pc lv st ws := by
  obtain ⟨p, e, R, s, m, args, below, meth, c, A, Q, mc, ms⟩ := M
  intro E cells slots H locs ls h1 h2 hP hD hS hl
  exact lv_bipush E.1.1 E.1.2.1 hd hv (kk E cells slots H locs ls h1 h2 hP hD hS hl)
theorem j_sipush {i : Int} {v : Int32} (hd : decode cc pc = .ok (.sipush i, 3)) (hv : (Int16.ofInt i).toInt32 = v) (kk : J M l x cc nL y d P k n (pc + 3) lv (.int v :: st) ws) : J M l x cc nL y d P k n pc lv st ws := by
  obtain ⟨p, e, R, s, m, args, below, meth, c, A, Q, mc, ms⟩ := M
  intro E cells slots H locs ls h1 h2 hP hD hS hl
  exact lv_sipush E.1.1 E.1.2.1 hd hv (kk E cells slots H locs ls h1 h2 hP hD hS hl)
theorem j_lconst {i : Fin 2} {v : Int64} (hd : decode cc pc = .ok (.lconst i, 1)) (hv : Int64.ofNat (i : Nat) = v) (kk : J M l x cc nL y d P k n (pc + 1) lv (.long v :: st) ws) : J M l x cc nL y d P k n pc lv st ws := by
  obtain ⟨p, e, R, s, m, args, below, meth, c, A, Q, mc, ms⟩ := M
  intro E cells slots H locs ls h1 h2 hP hD hS hl
  exact lv_lconst E.1.1 E.1.2.1 hd hv (kk E cells slots H locs ls h1 h2 hP hD hS hl)
theorem j_ldc {i : Nat} {v : Int32} (hd : decode cc pc = .ok (.ldc i, 2)) (hc : Cond.constant y.cls i v ∈ gw) (kk : J M l x cc nL y d P k n (pc + 2) lv (.int v :: st) ws) : J M l x cc nL y d P k n pc lv st ws := by
  obtain ⟨p, e, R, s, m, args, below, meth, c, A, Q, mc, ms⟩ := M
  intro E cells slots H locs ls h1 h2 hP hD hS hl
  exact lv_ldc E.1.1 E.1.2.1 E.1.2.2.2.1 (E.1.2.2.2.2.2.1 _ hc) hd (kk E cells slots H locs ls h1 h2 hP hD hS hl)
theorem j_ldc2 {i : Nat} {v : Int64} (hd : decode cc pc = .ok (.ldc2_w i, 3)) (hc : Cond.constantLong y.cls i v ∈ gw) (kk : J M l x cc nL y d P k n (pc + 3) lv (.long v :: st) ws) : J M l x cc nL y d P k n pc lv st ws := by
  obtain ⟨p, e, R, s, m, args, below, meth, c, A, Q, mc, ms⟩ := M
  intro E cells slots H locs ls h1 h2 hP hD hS hl
  exact lv_ldc2 E.1.1 E.1.2.1 E.1.2.2.2.1 (E.1.2.2.2.2.2.1 _ hc) hd (kk E cells slots H locs ls h1 h2 hP hD hS hl)
theorem j_iload_n (q : Nat) {j : Fin 4} {i : Nat} {v : Int32} (hd : decode cc pc = .ok (.iload_n j, 1)) (hi : (j : Nat) = i) (hq : lv[q]? = some (i, .int v)) (kk : J M l x cc nL y d P k n (pc + 1) lv (.int v :: st) ws) : J M l x cc nL y d P k n pc lv st ws := by
  obtain ⟨p, e, R, s, m, args, below, meth, c, A, Q, mc, ms⟩ := M
  intro E cells slots H locs ls h1 h2 hP hD hS hl
  exact lv_iload_n E.1.1 E.1.2.1 hd hi (lv_at hl q hq) (kk E cells slots H locs ls h1 h2 hP hD hS hl)
theorem j_iload (q : Nat) {i : Nat} {v : Int32} (hd : decode cc pc = .ok (.iload i, 2)) (hq : lv[q]? = some (i, .int v)) (kk : J M l x cc nL y d P k n (pc + 2) lv (.int v :: st) ws) : J M l x cc nL y d P k n pc lv st ws := by
  obtain ⟨p, e, R, s, m, args, below, meth, c, A, Q, mc, ms⟩ := M
  intro E cells slots H locs ls h1 h2 hP hD hS hl
  exact lv_iload E.1.1 E.1.2.1 hd (lv_at hl q hq) (kk E cells slots H locs ls h1 h2 hP hD hS hl)
theorem j_lload_n (q : Nat) {j : Fin 4} {i : Nat} {v : Int64} (hd : decode cc pc = .ok (.lload_n j, 1)) (hi : (j : Nat) = i) (hq : lv[q]? = some (i, .long v)) (kk : J M l x cc nL y d P k n (pc + 1) lv (.long v :: st) ws) : J M l x cc nL y d P k n pc lv st ws := by
  obtain ⟨p, e, R, s, m, args, below, meth, c, A, Q, mc, ms⟩ := M
  intro E cells slots H locs ls h1 h2 hP hD hS hl
  exact lv_lload_n E.1.1 E.1.2.1 hd hi (lv_at hl q hq) (kk E cells slots H locs ls h1 h2 hP hD hS hl)
theorem j_lload (q : Nat) {i : Nat} {v : Int64} (hd : decode cc pc = .ok (.lload i, 2)) (hq : lv[q]? = some (i, .long v)) (kk : J M l x cc nL y d P k n (pc + 2) lv (.long v :: st) ws) : J M l x cc nL y d P k n pc lv st ws := by
  obtain ⟨p, e, R, s, m, args, below, meth, c, A, Q, mc, ms⟩ := M
  intro E cells slots H locs ls h1 h2 hP hD hS hl
  exact lv_lload E.1.1 E.1.2.1 hd (lv_at hl q hq) (kk E cells slots H locs ls h1 h2 hP hD hS hl)
theorem j_aload_n (q : Nat) {j : Fin 4} {i : Nat} {v : Nat} (hd : decode cc pc = .ok (.aload_n j, 1)) (hi : (j : Nat) = i) (hq : lv[q]? = some (i, .ref v)) (kk : J M l x cc nL y d P k n (pc + 1) lv (.ref v :: st) ws) : J M l x cc nL y d P k n pc lv st ws := by
  obtain ⟨p, e, R, s, m, args, below, meth, c, A, Q, mc, ms⟩ := M
  intro E cells slots H locs ls h1 h2 hP hD hS hl
  exact lv_aload_n E.1.1 E.1.2.1 hd hi (lv_at hl q hq) (kk E cells slots H locs ls h1 h2 hP hD hS hl)
theorem j_aload (q : Nat) {i : Nat} {v : Nat} (hd : decode cc pc = .ok (.aload i, 2)) (hq : lv[q]? = some (i, .ref v)) (kk : J M l x cc nL y d P k n (pc + 2) lv (.ref v :: st) ws) : J M l x cc nL y d P k n pc lv st ws := by
  obtain ⟨p, e, R, s, m, args, below, meth, c, A, Q, mc, ms⟩ := M
  intro E cells slots H locs ls h1 h2 hP hD hS hl
  exact lv_aload E.1.1 E.1.2.1 hd (lv_at hl q hq) (kk E cells slots H locs ls h1 h2 hP hD hS hl)
theorem j_istore_n {j : Fin 4} {i : Nat} {v : Int32} {lv' : List (Nat × Value)} (hd : decode cc pc = .ok (.istore_n j, 1)) (hi : (j : Nat) = i) (hn : i < nL) (hlv : (i, Value.int v) :: lv.filter (fun q => !(q.1 == i) && !(q.1 + 1 == i && q.2.category == 2)) = lv') (kk : J M l x cc nL y d P k n (pc + 1) lv' st ws) : J M l x cc nL y d P k n pc lv (.int v :: st) ws := by
  obtain ⟨p, e, R, s, m, args, below, meth, c, A, Q, mc, ms⟩ := M
  intro E cells slots H locs ls h1 h2 hP hD hS hl
  exact lv_istore_n E.1.1 E.1.2.1 hd hi hl hn hlv (fun ls hl => kk E cells slots H locs ls h1 h2 hP hD hS hl)
theorem j_istore {i : Nat} {v : Int32} {lv' : List (Nat × Value)} (hd : decode cc pc = .ok (.istore i, 2)) (hn : i < nL) (hlv : (i, Value.int v) :: lv.filter (fun q => !(q.1 == i) && !(q.1 + 1 == i && q.2.category == 2)) = lv') (kk : J M l x cc nL y d P k n (pc + 2) lv' st ws) : J M l x cc nL y d P k n pc lv (.int v :: st) ws := by
  obtain ⟨p, e, R, s, m, args, below, meth, c, A, Q, mc, ms⟩ := M
  intro E cells slots H locs ls h1 h2 hP hD hS hl
  exact lv_istore E.1.1 E.1.2.1 hd hl hn hlv (fun ls hl => kk E cells slots H locs ls h1 h2 hP hD hS hl)
theorem j_lstore_n {j : Fin 4} {i : Nat} {v : Int64} {lv' : List (Nat × Value)} (hd : decode cc pc = .ok (.lstore_n j, 1)) (hi : (j : Nat) = i) (hn : i + 1 < nL) (hlv : (i, Value.long v) :: lv.filter (fun q => !(q.1 == i) && (!(q.1 == i + 1) && !(q.1 + 1 == i && q.2.category == 2))) = lv') (kk : J M l x cc nL y d P k n (pc + 1) lv' st ws) : J M l x cc nL y d P k n pc lv (.long v :: st) ws := by
  obtain ⟨p, e, R, s, m, args, below, meth, c, A, Q, mc, ms⟩ := M
  intro E cells slots H locs ls h1 h2 hP hD hS hl
  exact lv_lstore_n E.1.1 E.1.2.1 hd hi hl hn hlv (fun ls hl => kk E cells slots H locs ls h1 h2 hP hD hS hl)
theorem j_lstore {i : Nat} {v : Int64} {lv' : List (Nat × Value)} (hd : decode cc pc = .ok (.lstore i, 2)) (hn : i + 1 < nL) (hlv : (i, Value.long v) :: lv.filter (fun q => !(q.1 == i) && (!(q.1 == i + 1) && !(q.1 + 1 == i && q.2.category == 2))) = lv') (kk : J M l x cc nL y d P k n (pc + 2) lv' st ws) : J M l x cc nL y d P k n pc lv (.long v :: st) ws := by
  obtain ⟨p, e, R, s, m, args, below, meth, c, A, Q, mc, ms⟩ := M
  intro E cells slots H locs ls h1 h2 hP hD hS hl
  exact lv_lstore E.1.1 E.1.2.1 hd hl hn hlv (fun ls hl => kk E cells slots H locs ls h1 h2 hP hD hS hl)
theorem j_astore_n {j : Fin 4} {i : Nat} {v : Nat} {lv' : List (Nat × Value)} (hd : decode cc pc = .ok (.astore_n j, 1)) (hi : (j : Nat) = i) (hn : i < nL) (hlv : (i, Value.ref v) :: lv.filter (fun q => !(q.1 == i) && !(q.1 + 1 == i && q.2.category == 2)) = lv') (kk : J M l x cc nL y d P k n (pc + 1) lv' st ws) : J M l x cc nL y d P k n pc lv (.ref v :: st) ws := by
  obtain ⟨p, e, R, s, m, args, below, meth, c, A, Q, mc, ms⟩ := M
  intro E cells slots H locs ls h1 h2 hP hD hS hl
  exact lv_astore_n E.1.1 E.1.2.1 hd hi hl hn hlv (fun ls hl => kk E cells slots H locs ls h1 h2 hP hD hS hl)
theorem j_astore {i : Nat} {v : Nat} {lv' : List (Nat × Value)} (hd : decode cc pc = .ok (.astore i, 2)) (hn : i < nL) (hlv : (i, Value.ref v) :: lv.filter (fun q => !(q.1 == i) && !(q.1 + 1 == i && q.2.category == 2)) = lv') (kk : J M l x cc nL y d P k n (pc + 2) lv' st ws) : J M l x cc nL y d P k n pc lv (.ref v :: st) ws := by
  obtain ⟨p, e, R, s, m, args, below, meth, c, A, Q, mc, ms⟩ := M
  intro E cells slots H locs ls h1 h2 hP hD hS hl
  exact lv_astore E.1.1 E.1.2.1 hd hl hn hlv (fun ls hl => kk E cells slots H locs ls h1 h2 hP hD hS hl)
theorem j_iinc (q : Nat) {i : Nat} {t : Int} {u v : Int32} {lv' : List (Nat × Value)} (hd : decode cc pc = .ok (.iinc i t, 3)) (hq : lv[q]? = some (i, .int u)) (hv : u + Int32.ofInt t = v) (hn : i < nL) (hlv : (i, Value.int v) :: lv.filter (fun q => !(q.1 == i) && !(q.1 + 1 == i && q.2.category == 2)) = lv') (kk : J M l x cc nL y d P k n (pc + 3) lv' st ws) : J M l x cc nL y d P k n pc lv st ws := by
  obtain ⟨p, e, R, s, m, args, below, meth, c, A, Q, mc, ms⟩ := M
  intro E cells slots H locs ls h1 h2 hP hD hS hl
  exact lv_iinc E.1.1 E.1.2.1 hd hl hq hv hn hlv (fun ls hl => kk E cells slots H locs ls h1 h2 hP hD hS hl)
theorem j_iadd {a b : Int32} (hd : decode cc pc = .ok (.iadd, 1)) (kk : J M l x cc nL y d P k n (pc + 1) lv (.int (a + b) :: st) ws) : J M l x cc nL y d P k n pc lv (.int b :: .int a :: st) ws := by
  obtain ⟨p, e, R, s, m, args, below, meth, c, A, Q, mc, ms⟩ := M
  intro E cells slots H locs ls h1 h2 hP hD hS hl
  exact lv_iadd E.1.1 E.1.2.1 hd (kk E cells slots H locs ls h1 h2 hP hD hS hl)
theorem j_isub {a b : Int32} (hd : decode cc pc = .ok (.isub, 1)) (kk : J M l x cc nL y d P k n (pc + 1) lv (.int (a - b) :: st) ws) : J M l x cc nL y d P k n pc lv (.int b :: .int a :: st) ws := by
  obtain ⟨p, e, R, s, m, args, below, meth, c, A, Q, mc, ms⟩ := M
  intro E cells slots H locs ls h1 h2 hP hD hS hl
  exact lv_isub E.1.1 E.1.2.1 hd (kk E cells slots H locs ls h1 h2 hP hD hS hl)
theorem j_imul {a b : Int32} (hd : decode cc pc = .ok (.imul, 1)) (kk : J M l x cc nL y d P k n (pc + 1) lv (.int (a * b) :: st) ws) : J M l x cc nL y d P k n pc lv (.int b :: .int a :: st) ws := by
  obtain ⟨p, e, R, s, m, args, below, meth, c, A, Q, mc, ms⟩ := M
  intro E cells slots H locs ls h1 h2 hP hD hS hl
  exact lv_imul E.1.1 E.1.2.1 hd (kk E cells slots H locs ls h1 h2 hP hD hS hl)
theorem j_iand {a b : Int32} (hd : decode cc pc = .ok (.iand, 1)) (kk : J M l x cc nL y d P k n (pc + 1) lv (.int (a &&& b) :: st) ws) : J M l x cc nL y d P k n pc lv (.int b :: .int a :: st) ws := by
  obtain ⟨p, e, R, s, m, args, below, meth, c, A, Q, mc, ms⟩ := M
  intro E cells slots H locs ls h1 h2 hP hD hS hl
  exact lv_iand E.1.1 E.1.2.1 hd (kk E cells slots H locs ls h1 h2 hP hD hS hl)
theorem j_ior {a b : Int32} (hd : decode cc pc = .ok (.ior, 1)) (kk : J M l x cc nL y d P k n (pc + 1) lv (.int (a ||| b) :: st) ws) : J M l x cc nL y d P k n pc lv (.int b :: .int a :: st) ws := by
  obtain ⟨p, e, R, s, m, args, below, meth, c, A, Q, mc, ms⟩ := M
  intro E cells slots H locs ls h1 h2 hP hD hS hl
  exact lv_ior E.1.1 E.1.2.1 hd (kk E cells slots H locs ls h1 h2 hP hD hS hl)
theorem j_idiv {a b : Int32} (hd : decode cc pc = .ok (.idiv, 1)) (hne : ¬ b = 0) (kk : J M l x cc nL y d P k n (pc + 1) lv (.int (a / b) :: st) ws) : J M l x cc nL y d P k n pc lv (.int b :: .int a :: st) ws := by
  obtain ⟨p, e, R, s, m, args, below, meth, c, A, Q, mc, ms⟩ := M
  intro E cells slots H locs ls h1 h2 hP hD hS hl
  exact lv_idiv E.1.1 E.1.2.1 hd hne (kk E cells slots H locs ls h1 h2 hP hD hS hl)
theorem j_irem {a b : Int32} (hd : decode cc pc = .ok (.irem, 1)) (hne : ¬ b = 0) (kk : J M l x cc nL y d P k n (pc + 1) lv (.int (a - a / b * b) :: st) ws) : J M l x cc nL y d P k n pc lv (.int b :: .int a :: st) ws := by
  obtain ⟨p, e, R, s, m, args, below, meth, c, A, Q, mc, ms⟩ := M
  intro E cells slots H locs ls h1 h2 hP hD hS hl
  exact lv_irem E.1.1 E.1.2.1 hd hne (kk E cells slots H locs ls h1 h2 hP hD hS hl)
theorem j_ladd {a b : Int64} (hd : decode cc pc = .ok (.ladd, 1)) (kk : J M l x cc nL y d P k n (pc + 1) lv (.long (a + b) :: st) ws) : J M l x cc nL y d P k n pc lv (.long b :: .long a :: st) ws := by
  obtain ⟨p, e, R, s, m, args, below, meth, c, A, Q, mc, ms⟩ := M
  intro E cells slots H locs ls h1 h2 hP hD hS hl
  exact lv_ladd E.1.1 E.1.2.1 hd (kk E cells slots H locs ls h1 h2 hP hD hS hl)
theorem j_lmul {a b : Int64} (hd : decode cc pc = .ok (.lmul, 1)) (kk : J M l x cc nL y d P k n (pc + 1) lv (.long (a * b) :: st) ws) : J M l x cc nL y d P k n pc lv (.long b :: .long a :: st) ws := by
  obtain ⟨p, e, R, s, m, args, below, meth, c, A, Q, mc, ms⟩ := M
  intro E cells slots H locs ls h1 h2 hP hD hS hl
  exact lv_lmul E.1.1 E.1.2.1 hd (kk E cells slots H locs ls h1 h2 hP hD hS hl)
theorem j_land {a b : Int64} (hd : decode cc pc = .ok (.land, 1)) (kk : J M l x cc nL y d P k n (pc + 1) lv (.long (a &&& b) :: st) ws) : J M l x cc nL y d P k n pc lv (.long b :: .long a :: st) ws := by
  obtain ⟨p, e, R, s, m, args, below, meth, c, A, Q, mc, ms⟩ := M
  intro E cells slots H locs ls h1 h2 hP hD hS hl
  exact lv_land E.1.1 E.1.2.1 hd (kk E cells slots H locs ls h1 h2 hP hD hS hl)
theorem j_ldiv {a b : Int64} (hd : decode cc pc = .ok (.ldiv, 1)) (hne : ¬ b = 0) (kk : J M l x cc nL y d P k n (pc + 1) lv (.long (a / b) :: st) ws) : J M l x cc nL y d P k n pc lv (.long b :: .long a :: st) ws := by
  obtain ⟨p, e, R, s, m, args, below, meth, c, A, Q, mc, ms⟩ := M
  intro E cells slots H locs ls h1 h2 hP hD hS hl
  exact lv_ldiv E.1.1 E.1.2.1 hd hne (kk E cells slots H locs ls h1 h2 hP hD hS hl)
theorem j_lrem {a b : Int64} (hd : decode cc pc = .ok (.lrem, 1)) (hne : ¬ b = 0) (kk : J M l x cc nL y d P k n (pc + 1) lv (.long (a - a / b * b) :: st) ws) : J M l x cc nL y d P k n pc lv (.long b :: .long a :: st) ws := by
  obtain ⟨p, e, R, s, m, args, below, meth, c, A, Q, mc, ms⟩ := M
  intro E cells slots H locs ls h1 h2 hP hD hS hl
  exact lv_lrem E.1.1 E.1.2.1 hd hne (kk E cells slots H locs ls h1 h2 hP hD hS hl)
theorem j_ishl {a b : Int32} (hd : decode cc pc = .ok (.ishl, 1)) (kk : J M l x cc nL y d P k n (pc + 1) lv (.int (a <<< (b &&& 31)) :: st) ws) : J M l x cc nL y d P k n pc lv (.int b :: .int a :: st) ws := by
  obtain ⟨p, e, R, s, m, args, below, meth, c, A, Q, mc, ms⟩ := M
  intro E cells slots H locs ls h1 h2 hP hD hS hl
  exact lv_ishl E.1.1 E.1.2.1 hd (kk E cells slots H locs ls h1 h2 hP hD hS hl)
theorem j_ishr {a b : Int32} (hd : decode cc pc = .ok (.ishr, 1)) (kk : J M l x cc nL y d P k n (pc + 1) lv (.int (a >>> (b &&& 31)) :: st) ws) : J M l x cc nL y d P k n pc lv (.int b :: .int a :: st) ws := by
  obtain ⟨p, e, R, s, m, args, below, meth, c, A, Q, mc, ms⟩ := M
  intro E cells slots H locs ls h1 h2 hP hD hS hl
  exact lv_ishr E.1.1 E.1.2.1 hd (kk E cells slots H locs ls h1 h2 hP hD hS hl)
theorem j_i2l {a : Int32} (hd : decode cc pc = .ok (.i2l, 1)) (kk : J M l x cc nL y d P k n (pc + 1) lv (.long a.toInt64 :: st) ws) : J M l x cc nL y d P k n pc lv (.int a :: st) ws := by
  obtain ⟨p, e, R, s, m, args, below, meth, c, A, Q, mc, ms⟩ := M
  intro E cells slots H locs ls h1 h2 hP hD hS hl
  exact lv_i2l E.1.1 E.1.2.1 hd rfl (kk E cells slots H locs ls h1 h2 hP hD hS hl)
theorem j_l2i {a : Int64} (hd : decode cc pc = .ok (.l2i, 1)) (kk : J M l x cc nL y d P k n (pc + 1) lv (.int a.toInt32 :: st) ws) : J M l x cc nL y d P k n pc lv (.long a :: st) ws := by
  obtain ⟨p, e, R, s, m, args, below, meth, c, A, Q, mc, ms⟩ := M
  intro E cells slots H locs ls h1 h2 hP hD hS hl
  exact lv_l2i E.1.1 E.1.2.1 hd rfl (kk E cells slots H locs ls h1 h2 hP hD hS hl)
theorem j_i2b {a : Int32} (hd : decode cc pc = .ok (.i2b, 1)) (kk : J M l x cc nL y d P k n (pc + 1) lv (.int a.toInt8.toInt32 :: st) ws) : J M l x cc nL y d P k n pc lv (.int a :: st) ws := by
  obtain ⟨p, e, R, s, m, args, below, meth, c, A, Q, mc, ms⟩ := M
  intro E cells slots H locs ls h1 h2 hP hD hS hl
  exact lv_i2b E.1.1 E.1.2.1 hd rfl (kk E cells slots H locs ls h1 h2 hP hD hS hl)
theorem j_dup {v : Value} (hd : decode cc pc = .ok (.dup, 1)) (hv : v.category = 1) (kk : J M l x cc nL y d P k n (pc + 1) lv (v :: v :: st) ws) : J M l x cc nL y d P k n pc lv (v :: st) ws := by
  obtain ⟨p, e, R, s, m, args, below, meth, c, A, Q, mc, ms⟩ := M
  intro E cells slots H locs ls h1 h2 hP hD hS hl
  exact lv_dup E.1.1 E.1.2.1 hd hv (kk E cells slots H locs ls h1 h2 hP hD hS hl)
theorem j_pop {v : Value} (hd : decode cc pc = .ok (.pop, 1)) (hv : v.category = 1) (kk : J M l x cc nL y d P k n (pc + 1) lv st ws) : J M l x cc nL y d P k n pc lv (v :: st) ws := by
  obtain ⟨p, e, R, s, m, args, below, meth, c, A, Q, mc, ms⟩ := M
  intro E cells slots H locs ls h1 h2 hP hD hS hl
  exact lv_pop E.1.1 E.1.2.1 hd hv (kk E cells slots H locs ls h1 h2 hP hD hS hl)
theorem j_dup2 {v u : Value} (hd : decode cc pc = .ok (.dup2, 1)) (hv : v.category = 1) (hu : u.category = 1) (kk : J M l x cc nL y d P k n (pc + 1) lv (v :: u :: v :: u :: st) ws) : J M l x cc nL y d P k n pc lv (v :: u :: st) ws := by
  obtain ⟨p, e, R, s, m, args, below, meth, c, A, Q, mc, ms⟩ := M
  intro E cells slots H locs ls h1 h2 hP hD hS hl
  exact lv_dup2_11 E.1.1 E.1.2.1 hd hv hu (kk E cells slots H locs ls h1 h2 hP hD hS hl)
theorem j_goto {off : Int} {tgt : Nat} (hd : decode cc pc = .ok (.goto off, 3)) (ht : (pc : Int) + off = (tgt : Int)) (kk : J M l x cc nL y d P k n tgt lv st ws) : J M l x cc nL y d P k n pc lv st ws := by
  obtain ⟨p, e, R, s, m, args, below, meth, c, A, Q, mc, ms⟩ := M
  intro E cells slots H locs ls h1 h2 hP hD hS hl
  exact lv_goto E.1.1 E.1.2.1 hd ht (kk E cells slots H locs ls h1 h2 hP hD hS hl)
theorem j_if_eq {a : Int32} {off : Int} {tgt : Nat} (hd : decode cc pc = .ok (.ifCond .eq off, 3)) (ht : (pc : Int) + off = (tgt : Int)) (kt : a = 0 → J M l x cc nL y d P k n tgt lv st ws) (kf : ¬ a = 0 → J M l x cc nL y d P k n (pc + 3) lv st ws) : J M l x cc nL y d P k n pc lv (.int a :: st) ws := by
  obtain ⟨p, e, R, s, m, args, below, meth, c, A, Q, mc, ms⟩ := M
  intro E cells slots H locs ls h1 h2 hP hD hS hl
  exact lv_if_eq E.1.1 E.1.2.1 hd ht (fun q => kt q E cells slots H locs ls h1 h2 hP hD hS hl) (fun q => kf q E cells slots H locs ls h1 h2 hP hD hS hl)
theorem j_icmp_eq {a b : Int32} {off : Int} {tgt : Nat} (hd : decode cc pc = .ok (.if_icmp .eq off, 3)) (ht : (pc : Int) + off = (tgt : Int)) (kt : a = b → J M l x cc nL y d P k n tgt lv st ws) (kf : ¬ a = b → J M l x cc nL y d P k n (pc + 3) lv st ws) : J M l x cc nL y d P k n pc lv (.int b :: .int a :: st) ws := by
  obtain ⟨p, e, R, s, m, args, below, meth, c, A, Q, mc, ms⟩ := M
  intro E cells slots H locs ls h1 h2 hP hD hS hl
  exact lv_icmp_eq E.1.1 E.1.2.1 hd ht (fun q => kt q E cells slots H locs ls h1 h2 hP hD hS hl) (fun q => kf q E cells slots H locs ls h1 h2 hP hD hS hl)
theorem j_if_ne {a : Int32} {off : Int} {tgt : Nat} (hd : decode cc pc = .ok (.ifCond .ne off, 3)) (ht : (pc : Int) + off = (tgt : Int)) (kt : ¬ a = 0 → J M l x cc nL y d P k n tgt lv st ws) (kf : a = 0 → J M l x cc nL y d P k n (pc + 3) lv st ws) : J M l x cc nL y d P k n pc lv (.int a :: st) ws := by
  obtain ⟨p, e, R, s, m, args, below, meth, c, A, Q, mc, ms⟩ := M
  intro E cells slots H locs ls h1 h2 hP hD hS hl
  exact lv_if_ne E.1.1 E.1.2.1 hd ht (fun q => kt q E cells slots H locs ls h1 h2 hP hD hS hl) (fun q => kf q E cells slots H locs ls h1 h2 hP hD hS hl)
theorem j_icmp_ne {a b : Int32} {off : Int} {tgt : Nat} (hd : decode cc pc = .ok (.if_icmp .ne off, 3)) (ht : (pc : Int) + off = (tgt : Int)) (kt : ¬ a = b → J M l x cc nL y d P k n tgt lv st ws) (kf : a = b → J M l x cc nL y d P k n (pc + 3) lv st ws) : J M l x cc nL y d P k n pc lv (.int b :: .int a :: st) ws := by
  obtain ⟨p, e, R, s, m, args, below, meth, c, A, Q, mc, ms⟩ := M
  intro E cells slots H locs ls h1 h2 hP hD hS hl
  exact lv_icmp_ne E.1.1 E.1.2.1 hd ht (fun q => kt q E cells slots H locs ls h1 h2 hP hD hS hl) (fun q => kf q E cells slots H locs ls h1 h2 hP hD hS hl)
theorem j_if_lt {a : Int32} {off : Int} {tgt : Nat} (hd : decode cc pc = .ok (.ifCond .lt off, 3)) (ht : (pc : Int) + off = (tgt : Int)) (kt : a < 0 → J M l x cc nL y d P k n tgt lv st ws) (kf : ¬ a < 0 → J M l x cc nL y d P k n (pc + 3) lv st ws) : J M l x cc nL y d P k n pc lv (.int a :: st) ws := by
  obtain ⟨p, e, R, s, m, args, below, meth, c, A, Q, mc, ms⟩ := M
  intro E cells slots H locs ls h1 h2 hP hD hS hl
  exact lv_if_lt E.1.1 E.1.2.1 hd ht (fun q => kt q E cells slots H locs ls h1 h2 hP hD hS hl) (fun q => kf q E cells slots H locs ls h1 h2 hP hD hS hl)
theorem j_icmp_lt {a b : Int32} {off : Int} {tgt : Nat} (hd : decode cc pc = .ok (.if_icmp .lt off, 3)) (ht : (pc : Int) + off = (tgt : Int)) (kt : a < b → J M l x cc nL y d P k n tgt lv st ws) (kf : ¬ a < b → J M l x cc nL y d P k n (pc + 3) lv st ws) : J M l x cc nL y d P k n pc lv (.int b :: .int a :: st) ws := by
  obtain ⟨p, e, R, s, m, args, below, meth, c, A, Q, mc, ms⟩ := M
  intro E cells slots H locs ls h1 h2 hP hD hS hl
  exact lv_icmp_lt E.1.1 E.1.2.1 hd ht (fun q => kt q E cells slots H locs ls h1 h2 hP hD hS hl) (fun q => kf q E cells slots H locs ls h1 h2 hP hD hS hl)
theorem j_if_ge {a : Int32} {off : Int} {tgt : Nat} (hd : decode cc pc = .ok (.ifCond .ge off, 3)) (ht : (pc : Int) + off = (tgt : Int)) (kt : 0 ≤ a → J M l x cc nL y d P k n tgt lv st ws) (kf : ¬ 0 ≤ a → J M l x cc nL y d P k n (pc + 3) lv st ws) : J M l x cc nL y d P k n pc lv (.int a :: st) ws := by
  obtain ⟨p, e, R, s, m, args, below, meth, c, A, Q, mc, ms⟩ := M
  intro E cells slots H locs ls h1 h2 hP hD hS hl
  exact lv_if_ge E.1.1 E.1.2.1 hd ht (fun q => kt q E cells slots H locs ls h1 h2 hP hD hS hl) (fun q => kf q E cells slots H locs ls h1 h2 hP hD hS hl)
theorem j_icmp_ge {a b : Int32} {off : Int} {tgt : Nat} (hd : decode cc pc = .ok (.if_icmp .ge off, 3)) (ht : (pc : Int) + off = (tgt : Int)) (kt : b ≤ a → J M l x cc nL y d P k n tgt lv st ws) (kf : ¬ b ≤ a → J M l x cc nL y d P k n (pc + 3) lv st ws) : J M l x cc nL y d P k n pc lv (.int b :: .int a :: st) ws := by
  obtain ⟨p, e, R, s, m, args, below, meth, c, A, Q, mc, ms⟩ := M
  intro E cells slots H locs ls h1 h2 hP hD hS hl
  exact lv_icmp_ge E.1.1 E.1.2.1 hd ht (fun q => kt q E cells slots H locs ls h1 h2 hP hD hS hl) (fun q => kf q E cells slots H locs ls h1 h2 hP hD hS hl)
theorem j_if_gt {a : Int32} {off : Int} {tgt : Nat} (hd : decode cc pc = .ok (.ifCond .gt off, 3)) (ht : (pc : Int) + off = (tgt : Int)) (kt : 0 < a → J M l x cc nL y d P k n tgt lv st ws) (kf : ¬ 0 < a → J M l x cc nL y d P k n (pc + 3) lv st ws) : J M l x cc nL y d P k n pc lv (.int a :: st) ws := by
  obtain ⟨p, e, R, s, m, args, below, meth, c, A, Q, mc, ms⟩ := M
  intro E cells slots H locs ls h1 h2 hP hD hS hl
  exact lv_if_gt E.1.1 E.1.2.1 hd ht (fun q => kt q E cells slots H locs ls h1 h2 hP hD hS hl) (fun q => kf q E cells slots H locs ls h1 h2 hP hD hS hl)
theorem j_icmp_gt {a b : Int32} {off : Int} {tgt : Nat} (hd : decode cc pc = .ok (.if_icmp .gt off, 3)) (ht : (pc : Int) + off = (tgt : Int)) (kt : b < a → J M l x cc nL y d P k n tgt lv st ws) (kf : ¬ b < a → J M l x cc nL y d P k n (pc + 3) lv st ws) : J M l x cc nL y d P k n pc lv (.int b :: .int a :: st) ws := by
  obtain ⟨p, e, R, s, m, args, below, meth, c, A, Q, mc, ms⟩ := M
  intro E cells slots H locs ls h1 h2 hP hD hS hl
  exact lv_icmp_gt E.1.1 E.1.2.1 hd ht (fun q => kt q E cells slots H locs ls h1 h2 hP hD hS hl) (fun q => kf q E cells slots H locs ls h1 h2 hP hD hS hl)
theorem j_if_le {a : Int32} {off : Int} {tgt : Nat} (hd : decode cc pc = .ok (.ifCond .le off, 3)) (ht : (pc : Int) + off = (tgt : Int)) (kt : a ≤ 0 → J M l x cc nL y d P k n tgt lv st ws) (kf : ¬ a ≤ 0 → J M l x cc nL y d P k n (pc + 3) lv st ws) : J M l x cc nL y d P k n pc lv (.int a :: st) ws := by
  obtain ⟨p, e, R, s, m, args, below, meth, c, A, Q, mc, ms⟩ := M
  intro E cells slots H locs ls h1 h2 hP hD hS hl
  exact lv_if_le E.1.1 E.1.2.1 hd ht (fun q => kt q E cells slots H locs ls h1 h2 hP hD hS hl) (fun q => kf q E cells slots H locs ls h1 h2 hP hD hS hl)
theorem j_icmp_le {a b : Int32} {off : Int} {tgt : Nat} (hd : decode cc pc = .ok (.if_icmp .le off, 3)) (ht : (pc : Int) + off = (tgt : Int)) (kt : a ≤ b → J M l x cc nL y d P k n tgt lv st ws) (kf : ¬ a ≤ b → J M l x cc nL y d P k n (pc + 3) lv st ws) : J M l x cc nL y d P k n pc lv (.int b :: .int a :: st) ws := by
  obtain ⟨p, e, R, s, m, args, below, meth, c, A, Q, mc, ms⟩ := M
  intro E cells slots H locs ls h1 h2 hP hD hS hl
  exact lv_icmp_le E.1.1 E.1.2.1 hd ht (fun q => kt q E cells slots H locs ls h1 h2 hP hD hS hl) (fun q => kf q E cells slots H locs ls h1 h2 hP hD hS hl)
theorem j_lcmp {a b : Int64} (hd : decode cc pc = .ok (.lcmp, 1)) (kk : J M l x cc nL y d P k n (pc + 1) lv (.int (lg_cmp a b) :: st) ws) : J M l x cc nL y d P k n pc lv (.long b :: .long a :: st) ws := by
  obtain ⟨p, e, R, s, m, args, below, meth, c, A, Q, mc, ms⟩ := M
  intro E cells slots H locs ls h1 h2 hP hD hS hl
  exact W.lcmp E.1.1 E.1.2.1 hd (kk E cells slots H locs ls h1 h2 hP hD hS hl)
theorem j_tabOut {dflt lo hi : Int} {offs : Array Int} {len : Nat} {a : Int32} {tgt : Nat} (hd : decode cc pc = .ok (.tableswitch dflt lo hi offs, len)) (h : a.toInt < lo ∨ hi < a.toInt) (ht : (pc : Int) + dflt = (tgt : Int)) (kk : J M l x cc nL y d P k n tgt lv st ws) : J M l x cc nL y d P k n pc lv (.int a :: st) ws := by
  obtain ⟨p, e, R, s, m, args, below, meth, c, A, Q, mc, ms⟩ := M
  intro E cells slots H locs ls h1 h2 hP hD hS hl
  exact lv_tableOut E.1.1 E.1.2.1 hd h ht (kk E cells slots H locs ls h1 h2 hP hD hS hl)
theorem j_tabIn {dflt lo hi : Int} {offs : Array Int} {len : Nat} {a : Int32} {off : Int} {tgt : Nat} (hd : decode cc pc = .ok (.tableswitch dflt lo hi offs, len)) (g1 : ¬ a.toInt < lo) (g2 : ¬ hi < a.toInt) (ho : offs[(a.toInt - lo).toNat]? = some off) (ht : (pc : Int) + off = (tgt : Int)) (kk : J M l x cc nL y d P k n tgt lv st ws) : J M l x cc nL y d P k n pc lv (.int a :: st) ws := by
  obtain ⟨p, e, R, s, m, args, below, meth, c, A, Q, mc, ms⟩ := M
  intro E cells slots H locs ls h1 h2 hP hD hS hl
  exact lv_tableIn E.1.1 E.1.2.1 hd g1 g2 ho ht (kk E cells slots H locs ls h1 h2 hP hD hS hl)
theorem j_lookup {dflt : Int} {ps : Array (Int × Int)} {len : Nat} {a : Int32} {off : Int} {tgt : Nat} (hd : decode cc pc = .ok (.lookupswitch dflt ps, len)) (hp : (ps.toList.zip (ps.toList.drop 1)).all (fun (a, next) => a.1 < next.1) = true) (ho : Op.lookupswitch.offset ps.toList dflt a.toInt = off) (ht : (pc : Int) + off = (tgt : Int)) (kk : J M l x cc nL y d P k n tgt lv st ws) : J M l x cc nL y d P k n pc lv (.int a :: st) ws := by
  obtain ⟨p, e, R, s, m, args, below, meth, c, A, Q, mc, ms⟩ := M
  intro E cells slots H locs ls h1 h2 hP hD hS hl
  exact lv_lookup E.1.1 E.1.2.1 hd hp ho ht (kk E cells slots H locs ls h1 h2 hP hD hS hl)
end
