/-! an array of arrays of ints, ten of thirteen, by the model's own step -/
def mq_z (h i : Nat) : Nat → Option Nat := fun j => if j < i then some (h + 1 + j) else none
/-- the outer array with its first i rows, and a row -/
def mq_out (cA : ClassId) (h i : Nat) : Cell := arrV cA 10 (fun j => va_rf (mq_z h i j))
def mq_in (cC : ClassId) : Cell := { cls := cC, slots := Array.replicate 13 (.int 0), vm := .none }
/-- the state with the outer array and its first i rows -/
def mq_st (S : State) (cA cC : ClassId) : Nat → State
  | 0 => S.pushCell (mq_out cA S.heap.size 0)
  | i + 1 => ((mq_st S cA cC i).pushCell (mq_in cC)).setCell S.heap.size (mq_out cA S.heap.size (i + 1))
theorem mq_o0 (cA : ClassId) (h : Nat) : ({ cls := cA, slots := Array.replicate 10 .null, vm := .none } : Cell) = mq_out cA h 0 := by
  rw [arrV_new]
  rfl
theorem mq_oS (cA : ClassId) (h i : Nat) : (mq_out cA h i).setSlot i (.ref (h + 1 + i)) = mq_out cA h (i + 1) := by
  rw [mq_out, arrV_store, mq_out]
  refine congrArg (arrV cA 10) (funext fun j => ?_)
  by_cases e : j = i
  · subst e
    simp [updV, va_rf, mq_z]
  · have : j < i ↔ j < i + 1 := by omega
    simp [updV, e, mq_z, this]
theorem mq_size (S : State) (cA cC : ClassId) : ∀ i, (mq_st S cA cC i).heap.size = S.heap.size + 1 + i
  | 0 => by rw [mq_st, State.heap_pushCell, Array.size_push]
  | i + 1 => by rw [mq_st, size_setCell, State.heap_pushCell, Array.size_push, mq_size S cA cC i]; omega
theorem mq_vm (S : State) (cA cC : ClassId) : ∀ i, (mq_st S cA cC i).vm = S.vm
  | 0 => rfl
  | i + 1 => mq_vm S cA cC i
theorem mq_psh (U : State) (x : Cell) {a : Nat} (h : a < U.heap.size) : (U.pushCell x).heap[a]? = U.heap[a]? := by
  rw [State.heap_pushCell, Array.getElem?_push, if_neg (Nat.ne_of_lt h)]
theorem mq_at (S : State) (cA cC : ClassId) (i : Nat) : (mq_st S cA cC i).heap[S.heap.size]? = some (mq_out cA S.heap.size i) := by
  cases i with
  | zero => rw [mq_st, State.heap_pushCell, Array.getElem?_push, if_pos rfl]
  | succ i =>
    rw [mq_st]
    have h9 : S.heap.size < ((mq_st S cA cC i).pushCell (mq_in cC)).heap.size := by
      have := mq_size S cA cC i
      rw [State.heap_pushCell, Array.size_push]
      omega
    exact heapAt_setCell_self _ h9
theorem mq_old (S : State) (cA cC : ClassId) {a : Nat} (h : a < S.heap.size) : ∀ i, (mq_st S cA cC i).heap[a]? = S.heap[a]?
  | 0 => mq_psh S _ h
  | i + 1 => by
    have := mq_size S cA cC i
    rw [mq_st, heapAt_setCell_ne _ (Nat.ne_of_gt h), mq_psh _ _ (by omega), mq_old S cA cC h i]
theorem mq_row (S : State) (cA cC : ClassId) : ∀ (i j : Nat), j < i → (mq_st S cA cC i).heap[S.heap.size + 1 + j]? = some (mq_in cC)
  | 0, _, h => absurd h (Nat.not_lt_zero _)
  | i + 1, j, h => by
    have hs := mq_size S cA cC i
    rw [mq_st, heapAt_setCell_ne _ (show (S.heap.size : Nat) ≠ S.heap.size + 1 + j by omega)]
    by_cases e : j = i
    · subst e
      rw [State.heap_pushCell, Array.getElem?_push, if_pos (by omega)]
    · rw [mq_psh _ _ (by omega), mq_row S cA cC i j (by omega)]
section
variable {p : Program} {l : Launch} {e : Env} {R : Room} {s : State} {m : MethodId} {args : Array Value} {below : List Frame} {meth : Method} {c : Code} {T : State} {locs : List Loc} {cells slots : Nat}
theorem mq_stand (X : Stand p l e R s m args below meth c T locs cells slots) (cA cC : ClassId) : ∀ i, ∃ L : List Loc, (∀ z ∈ L, z ∈ locs ∨ z.base = T.heap.size) ∧ Stand p l e R s m args below meth c (mq_st T cA cC i) L (cells + 1 + i) (slots + 10 + 13 * i)
  | 0 => by
    have h := X.pushed (mq_out cA T.heap.size 0)
    rw [mq_out, arrV_size] at h
    exact ⟨locs, fun z hz => Or.inl hz, h⟩
  | i + 1 => by
    obtain ⟨L, hL, Y⟩ := mq_stand X cA cC i
    have hs := mq_size T cA cC i
    have h1 := Y.pushed (mq_in cC)
    have h2 := h1.stored (a := T.heap.size) (cell := mq_out cA T.heap.size i) (by rw [mq_psh _ _ (by omega)]; exact mq_at T cA cC i) i (.ref (T.heap.size + 1 + i))
    rw [mq_oS, show (mq_in cC).slots.size = 13 from Array.size_replicate, show cells + 1 + i + 1 = cells + 1 + (i + 1) by omega, show slots + 10 + 13 * i + 13 = slots + 10 + 13 * (i + 1) by omega] at h2
    refine ⟨_, fun z hz => ?_, h2⟩
    rcases List.mem_append.mp hz with hz | hz
    · exact hL z hz
    · rw [List.mem_singleton.mp hz]; exact Or.inr rfl
end
section
variable {E : CtlPost} {e : Env} {d : Bool} {acts : List Action} {S : State}
/-- a new array -/
theorem mq_new {Q : Addr → Pre} {cA comp : ClassId} {k : Class} {t : FieldType} {n : Nat} {v : Value}
    (hk : S.vm.classes[cA]? = some k) (hkind : k.kind = .array comp t) (hl : ¬ n > e.platform.arrayLengthLimit) (hh : ¬ n * componentBytes t > e.platform.maxHeapBytes)
    (hf : fits t v = true) (hv : v.isDefault = true) (h1 : S.heap.size < e.platform.maxCells) (h2 : S.slotsUsed + n ≤ e.platform.maxSlots)
    (h : Q S.heap.size d acts (S.pushCell { cls := cA, slots := Array.replicate n v, vm := .none })) : wp (Jvm.newArray cA n v) Q E e d acts S := by
  have hfit : ∀ i w, (Array.replicate n v)[i]? = some w → S.fitsSlot cA .none i w = true := by
    intro i w hw
    rw [Array.getElem?_replicate] at hw
    split at hw
    · cases hw; simp [State.fitsSlot, State.slotType?, hk, hkind, hf]
    · cases hw
  have hacts : allocActs (Array.replicate n v) S.heap.size acts = acts := by
    unfold allocActs
    rw [if_pos (by rw [Array.all_replicate]; split <;> simp [hv])]
  simp only [Jvm.newArray, Jvm.arrayFits, wp_bind', Jvm.W.ask, Jvm.W.ite, hl, if_false, wp_pure', Jvm.W.theClass, hk, Option.some.injEq, exists_eq_left', hkind, hh, Jvm.W.alloc, Jvm.W.stop]
  rw [if_neg (by omega)]
  exact ⟨h1, by rw [Array.size_replicate]; exact h2, hfit, by rw [hacts]; exact h⟩
/-- a counted loop whose states are known -/
theorem mq_for {N : Nat} {G : Nat → State} {F : Nat → PUnit → Sem (ForInStep PUnit)} {Q : PUnit → Pre}
    (hF : ∀ i, i < N → ∀ (Q' : ForInStep PUnit → Pre) (d : Bool) (acts : List Action), (∀ d acts, Q' (.yield PUnit.unit) d acts (G (i + 1))) → wp (F i PUnit.unit) Q' E e d acts (G i))
    (hQ : ∀ d acts, Q PUnit.unit d acts (G N)) : ∀ (k i : Nat), i + k = N → ∀ (d : Bool) (acts : List Action), wp (forIn (List.range' i k 1) PUnit.unit F) Q E e d acts (G i)
  | 0, i, h, d, acts => by
    obtain rfl : i = N := by omega
    exact hQ d acts
  | k + 1, i, h, d, acts => by
    rw [List.range'_succ, List.forIn_cons, wp_bind']
    refine hF i (by omega) _ d acts (fun d acts => ?_)
    exact mq_for hF hQ k (i + 1) (by omega) d acts
variable {f : JFrame}
theorem mq_make {Q : Addr → Pre} {cA cC c0 : ClassId} {kA kC : Class} (hA : S.vm.classes[cA]? = some kA) (hAk : kA.kind = .array cC (.array .int)) (hC : S.vm.classes[cC]? = some kC) (hCk : kC.kind = .array c0 .int)
    (hl : 1000 ≤ e.platform.arrayLengthLimit) (hh : 1000 ≤ e.platform.maxHeapBytes) (hb : S.heap.size + 11 ≤ e.platform.maxCells) (h0 : S.slotsUsed + 10 ≤ e.platform.maxSlots) (hs : ∀ i, i < 10 → (mq_st S cA cC i).slotsUsed + 13 ≤ e.platform.maxSlots)
    (hQ : ∀ d acts, Q S.heap.size d acts ((mq_st S cA cC 10).setTop f)) : wp (multianewarray.make cA [10, 13]) Q E e d acts (S.setTop f) := by
  have e10 : (10 : Int32).toNatClampNeg = 10 := by decide
  have e13 : (13 : Int32).toNatClampNeg = 13 := by decide
  have n10 : ¬ (10 : Int32) < 0 := by decide
  have n13 : ¬ (13 : Int32) < 0 := by decide
  have z10 : ((10 : Int32) == 0) = false := by decide
  rw [multianewarray.make]
  simp only [wp_bind', Jvm.W.ite, n10, if_false, wp_pure', Jvm.W.theClass, State.vm_setTop, hA, Option.some.injEq, exists_eq_left', hAk, e10]
  refine mq_new (S := S.setTop f) (t := .array .int) hA hAk (by omega) (by show ¬ 10 * 4 > _; omega) rfl rfl (by show S.heap.size < _; omega) (by show S.slotsUsed + 10 ≤ _; exact h0) ?_
  simp only [z10, Bool.false_eq_true, if_false, wp_bind', wp_pure', State.heap_setTop]
  rw [Std.Legacy.Range.forIn_eq_forIn_range']
  rw [mq_o0 cA S.heap.size]
  refine mq_for (N := 10) (G := fun i => (mq_st S cA cC i).setTop f) (fun i hi Q' d acts h => ?_) (fun d acts => hQ d acts) 10 0 rfl d acts
  have hsz := mq_size S cA cC i
  have hvm := mq_vm S cA cC i
  have hCi : (mq_st S cA cC i).vm.classes[cC]? = some kC := by rw [hvm]; exact hC
  have hAi : (mq_st S cA cC i).vm.classes[cA]? = some kA := by rw [hvm]; exact hA
  rw [wp_bind', multianewarray.make]
  simp only [wp_bind', Jvm.W.ite, n13, if_false, wp_pure', Jvm.W.theClass, State.vm_setTop, hCi, Option.some.injEq, exists_eq_left', hCk, e13]
  refine mq_new (S := (mq_st S cA cC i).setTop f) (t := .int) hCi hCk (by omega) (by show ¬ 13 * 4 > _; omega) rfl rfl (by show (mq_st S cA cC i).heap.size < _; omega) (by show (mq_st S cA cC i).slotsUsed + 13 ≤ _; exact hs i hi) ?_
  have hfit : ((mq_st S cA cC i).pushCell (mq_in cC)).fitsSlot cA .none i (.ref (S.heap.size + 1 + i)) = true := by
    simp [State.fitsSlot, State.slotType?, hAi, hAk, fits]
  have hcell : ((mq_st S cA cC i).pushCell (mq_in cC)).heap[S.heap.size]? = some (mq_out cA S.heap.size i) := by
    rw [mq_psh _ _ (by omega)]; exact mq_at S cA cC i
  simp only [wp_bind', wp_pure', Jvm.W.writeLoc]
  refine ⟨mq_out cA S.heap.size i, hcell, (fun q => by cases q), ?_, ?_, ?_⟩
  · rw [mq_out, arrV_size]; exact hi
  · show ((mq_st S cA cC i).pushCell (mq_in cC)).fitsSlot cA .none i (.ref (mq_st S cA cC i).heap.size) = true
    rw [hsz]; exact hfit
  · have h9 := h true (writeActs ⟨S.heap.size, i⟩ .plain (.ref (S.heap.size + 1 + i)) acts)
    rw [mq_st, ← mq_oS] at h9
    rw [show ((mq_st S cA cC i).setTop f).heap.size = S.heap.size + 1 + i from hsz]
    exact h9
end
section
variable {p : Program} {l : Launch} {e : Env} {R : Room} {s : State} {m : MethodId} {args : Array Value} {below : List Frame} {meth : Method} {c : Code} {T : State} {locs : List Loc} {cells slots : Nat}
theorem mq_step (X : Stand p l e R s m args below meth c T locs cells slots) (hexec : p.tables.exec = Jvm.exec) {own : String} {idx : Nat} (hown : s.vm.findClass own = some m.cls) (hcl : (Cond.classLink own idx "[[I").before args s = true)
    {cA cC c0 : ClassId} {kA kC : Class} (hfA : s.vm.findClass "[[I" = some cA) (hA : s.vm.classes[cA]? = some kA) (hAk : kA.kind = .array cC (.array .int)) (hC : s.vm.classes[cC]? = some kC) (hCk : kC.kind = .array c0 .int)
    {g : JFrame} (hg : g.method = m) (hdg : decode c.code g.pc = .ok (.multianewarray idx 2, 4)) {rest : List Value} (hstack : g.stack = .int 13 :: .int 10 :: rest) (hcells : cells + 11 ≤ R.cells) (hslots : slots + 140 ≤ R.slots) :
    ∃ (S : State) (L : List Loc), S.heap = T.heap ∧ (∀ z ∈ L, z ∈ locs ∨ z.base = T.heap.size) ∧ Stand p l e R s m args below meth c (mq_st S cA cC 10) L (cells + 11) (slots + 140) ∧
      ∀ target, Steps p.tables e below ((mq_st S cA cC 10).setTop { g with pc := g.pc + 4, stack := .ref T.heap.size :: rest }) target → Steps p.tables e below (T.setTop g) target := by
  subst hg
  have hpl : e.platform.magicAccessors = ({} : Platform).magicAccessors := by rw [X.admits.platform]
  obtain ⟨c9, hf9, hlk⟩ := Cond.classLink_spec hown hcl e.platform hpl
  cases hfA.symm.trans hf9
  obtain ⟨hg1, hw1, -⟩ := State.classEntry (e := e) X.warmed hlk
  generalize T.vm.noted g.method.cls idx (.cls cA) = vm1 at hg1 hw1
  have hal : s.vm.Alike vm1 := hw1.alike
  have halT : T.vm.Alike vm1 := X.warmed.alike.symm.trans hal
  obtain ⟨kA1, hA1, heA⟩ := hal.2.2 _ _ hA
  obtain ⟨kC1, hC1, heC⟩ := hal.2.2 _ _ hC
  have X1 := X.noted hw1
  obtain ⟨L, hL, Y⟩ := mq_stand X1 cA cC 10
  obtain ⟨hr1, hr2⟩ := X.roomAbove hcells hslots
  refine ⟨T.setVm vm1, L, rfl, hL, Y, fun target hrest => ?_⟩
  refine Steps.instr (c := c) (by simpa using X.here) ?_
  rw [hdg]
  show wpRun (p.tables.exec (.multianewarray idx 2)) _ _ e (T.setTop g)
  rw [hexec]
  show wp (multianewarray.sem idx 2) _ _ e false [] (T.setTop g)
  rw [multianewarray.sem, wp_bind']
  refine (Jvm.W.resolveClassAt_links (t := T.setTop g) (State.method?_setTop g X.here.top) hg1 (Vm.Alike.size_le halT)).mpr ?_
  rw [wp_bind']
  refine (popN_top (s := T.setVm vm1) (f := g) (args := [.int 10, .int 13]) (rest := rest) X1.here.top hstack).mpr ?_
  simp only [List.mapM_cons, List.mapM_nil, wp_bind', wp_pure']
  refine mq_make (S := T.setVm vm1) hA1 (by rw [heA]; exact hAk) hC1 (by rw [heC]; exact hCk) (by rw [Launch.admits_arrayLengthLimit X.admits]; decide) (by rw [Launch.admits_maxHeapBytes X.admits]; decide) hr1 (by show T.slotsUsed + 10 ≤ _; omega) (fun i hi => ?_) (fun d acts => ?_)
  · obtain ⟨L9, -, Y9⟩ := mq_stand X1 cA cC i
    exact (Y9.roomAbove (a := 0) (b := 13) (by omega) (by omega)).2
  · simp only [wp_bind', Jvm.W.mark, Jvm.W.pushRef]
    refine ⟨_, State.topJava?_setTop' _ Y.here.top, fun acts9 => ?_⟩
    rw [State.setTop_setTop, afterInstr_ok]
    exact hrest
end
theorem mq_inC (cC : ClassId) : mq_in cC = vp_cell cC (13, .inl (fun _ => 0)) := by
  rw [mq_in, arrV_new]; rfl
section
variable {M : Mx} {l : Launch} {x : Cx} {cc : ByteArray} {nL : Nat} {y : MethodName} {d : Nat} {P : Option Value → va_W → Prop} {k n pc : Nat} {lv : List (Nat × Value)} {st : List Value} {ws : va_W}
set_option maxHeartbeats 4000000 in
theorem j_mna {idx : Nat} (hd : decode cc pc = .ok (.multianewarray idx 2, 4)) (hcl : Cond.classLink y.cls idx "[[I" ∈ gw) (kk : ∀ (q : Nat) (r : Nat → Nat), J M l x cc nL y d P k n (pc + 4) lv (.ref q :: st) ((q, .inl (x.2.2.2.2.2, 10, .inr (.inr (.inr (.inr (fun i => if i < 10 then some (r i) else none)))))) :: (rowsB x r (fun _ _ => 0) ++ ws))) : J M l x cc nL y d P (k + 11) (n + 140) pc lv (.int 13 :: .int 10 :: st) ws := by
  obtain ⟨p, e, R, s, m, args, below, meth, c, A, Q, mc, ms⟩ := M
  intro E cells slots H locs ls h1 h2 hP hD hS hl
  obtain ⟨E1, E2, E3⟩ := id E
  have hts := E1.2.2.2.2.2.1
  have hK := E1.2.2.2.2.2.2.1
  have hr1 := E2.2.2.1
  have hr2 := E2.2.2.2
  intro T hT Xs
  obtain ⟨kA, hA, hAk⟩ := hK.2.2.2.2.2.1
  obtain ⟨-, kC, hC, c0, hCk⟩ := (hK.1.2 0 _ rfl).1 0 (fun _ => .null)
  have hfA : s.vm.findClass "[[I" = some x.2.2.2.2.2 := (hK.1.2 4 _ rfl).2
  obtain ⟨S, L, hS0, hL, X', step⟩ := mq_step Xs E1.1 E1.2.2.2.1 (hts _ hcl) hfA hA hAk hC hCk (g := F0 m pc ls (.int 13 :: .int 10 :: st)) rfl (by rw [E1.2.1]; exact hd) rfl (by omega) (by omega)
  have hSH : S.heap = H := hS0.trans hT
  have f1 := mq_size S x.2.2.2.2.2 x.2.1 10
  have f2 := mq_at S x.2.2.2.2.2 x.2.1 10
  have hold : ∀ a : Nat, a < H.size → (mq_st S x.2.2.2.2.2 x.2.1 10).heap[a]? = H[a]? := fun a ha => by
    rw [mq_old S x.2.2.2.2.2 x.2.1 (by rw [hSH]; exact ha) 10, hSH]
  have hrow : ∀ j : Nat, j < 10 → (mq_st S x.2.2.2.2.2 x.2.1 10).heap[H.size + 1 + j]? = some (vp_cell x.2.1 (13, .inl (fun _ => 0))) := fun j hj => by
    have h9 := mq_row S x.2.2.2.2.2 x.2.1 10 j hj
    rw [hSH, mq_inC] at h9
    exact h9
  rw [hSH] at f1 f2
  generalize mq_st S x.2.2.2.2.2 x.2.1 10 = F at X' step f1 f2 hold hrow
  rw [show mq_out x.2.2.2.2.2 H.size 10 = vp_cell x.2.2.2.2.2 (10, .inr (.inr (.inr (.inr (fun i => if i < 10 then some (H.size + 1 + i) else none))))) from by rw [vp_cell_q]; rfl] at f2
  have hlt : ∀ q ∈ ws, q.1 < H.size := fun q hq => by
    obtain ⟨i, hi⟩ := List.getElem?_of_mem hq
    exact (hP i q hi).lt
  have hP0 : va_P x.1 vwCl ws F.heap := hP.kept (fun k9 q hq => hold q.1 (hlt q (List.mem_of_getElem? hq)))
  have hP1 : va_P x.1 vwCl [(H.size, .inl (x.2.2.2.2.2, 10, .inr (.inr (.inr (.inr (fun i => if i < 10 then some (H.size + 1 + i) else none))))))] F.heap := fun k9 q hq => by
    have h0 : k9 < 1 := (List.getElem?_eq_some_iff.mp hq).1
    rw [show k9 = 0 by omega] at hq
    cases hq
    exact f2
  have hP2 : va_P x.1 vwCl (rowsB x (fun i => H.size + 1 + i) (fun _ _ => 0)) F.heap := fun k9 q hq => by
    obtain ⟨i, hi, rfl⟩ := List.mem_map.mp (List.mem_of_getElem? hq)
    exact hrow i (List.mem_range.mp hi)
  have hD2 : va_D A ((H.size, .inl (x.2.2.2.2.2, 10, .inr (.inr (.inr (.inr (fun i => if i < 10 then some (H.size + 1 + i) else none)))))) :: (rowsB x (fun i => H.size + 1 + i) (fun _ _ => 0) ++ ws)) := by
    rw [va_D_iff] at hD ⊢
    have hrw : ∀ q ∈ rowsB x (fun i => H.size + 1 + i) (fun _ _ => 0), ∃ i, i < 10 ∧ q.1 = H.size + 1 + i := fun q hq => by
      obtain ⟨i, hi, rfl⟩ := List.mem_map.mp hq
      exact ⟨i, List.mem_range.mp hi, rfl⟩
    refine ⟨?_, fun q hq => ?_⟩
    · rw [List.map_cons, List.map_append, List.nodup_cons, List.nodup_append]
      refine ⟨fun hm => ?_, ?_, hD.1, fun a ha b hb => ?_⟩
      · rcases List.mem_append.mp hm with hm | hm
        · obtain ⟨q, hq, e⟩ := List.mem_map.mp hm
          obtain ⟨i, _, e2⟩ := hrw q hq
          have e : q.1 = H.size := e
          omega
        · obtain ⟨q, hq, e⟩ := List.mem_map.mp hm
          have := hlt q hq
          have e : q.1 = H.size := e
          omega
      · have er : (rowsB x (fun i => H.size + 1 + i) (fun _ _ => 0)).map (·.1) = (List.range 10).map (fun i => H.size + 1 + i) := by
          rw [rowsB, List.map_map]; rfl
        rw [er, List.nodup_iff_pairwise_ne, List.pairwise_map]
        refine List.Pairwise.imp ?_ (List.nodup_iff_pairwise_ne.mp List.nodup_range)
        intro a b hab e
        exact hab (by omega)
      · intro e
        obtain ⟨q, hq, e1⟩ := List.mem_map.mp ha
        obtain ⟨q', hq', e2⟩ := List.mem_map.mp hb
        obtain ⟨i, _, e3⟩ := hrw q hq
        have := hlt q' hq'
        have e1 : q.1 = a := e1
        have e2 : q'.1 = b := e2
        omega
    · rcases List.mem_cons.mp hq with rfl | hq
      · exact E1.2.2.2.2.2.2.2 _ hS.1
      · rcases List.mem_append.mp hq with hq | hq
        · obtain ⟨i, _, e3⟩ := hrw q hq
          exact E1.2.2.2.2.2.2.2 _ (by have := hS.1; omega)
        · exact hD.2 q hq
  have hL9 : ∀ z ∈ L, A z.base := fun z hz => by
    rcases hL z hz with h | h
    · exact hS.2.2 z h
    · rw [h, hT]; exact E1.2.2.2.2.2.2.2 _ hS.1
  obtain ⟨t, a1, b1⟩ := kk H.size (fun i => H.size + 1 + i) E (cells + 11) (slots + 140) F.heap L ls (by omega) (by omega) (hP1.app (hP2.app hP0)) hD2 ⟨by rw [f1]; have := hS.1; omega, fun a h1 h2 => (hold a (Nat.lt_of_lt_of_le h1 hS.1)).trans (hS.2.1 a h1 h2), hL9⟩ hl F rfl X'
  refine ⟨t, step t ?_, b1⟩
  have e9 : T.heap.size = H.size := by rw [hT]
  rw [e9]
  exact a1
end
