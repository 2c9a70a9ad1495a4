/-! contracts and calls at the judgement J -/
def jPre (x : Cx) (w : va_W) (sz : Nat) (U : State) : Prop := U.heap.size = sz ∧ va_P x.1 vwCl w U.heap ∧ cxK x U ∧ va_D (fun _ => True) w
def jRm (d mc ms : Nat) : Room := { frames := d, cells := mc, slots := ms, locals := 40 * d }
def jQ (x : Cx) (w : va_W) (sz : Nat) (Pst : Option Value → va_W → Prop) : Array Value → State → Outcome → State → Prop := fun _ st oc t => (∃ (v : Option Value) (ws : va_W), oc = .returned v ∧ Pst v ws ∧ va_P x.1 vwCl ws t.heap ∧ va_D (va_A w sz) ws) ∧ va_F (va_A w sz) st t
/-- the contract: from the world w, with the arguments av, the method returns v in a world ws with Pst v ws -/
def MC (l : Launch) (x : Cx) (d mc ms : Nat) (y : MethodName) (cc : ByteArray) (nL : Nat) (ret : Option FieldType) (av : List Value) (w : va_W) (Pst : Option Value → va_W → Prop) : Prop :=
  ∀ sz : Nat, Met l y (.code y cc nL ret :: gw) (jRm d mc ms) (va_Pc av (jPre x w sz)) (jQ x w sz Pst) mc ms (va_A w sz)
def retFit (ret : Option FieldType) (v : Option Value) : Prop := (ret = none ∧ v = none) ∨ (∃ (ty : FieldType) (i : Int32), ret = some ty ∧ v = some (.int i) ∧ narrow ty (.int i) = .int i) ∨ ∃ i : Int64, ret = some .long ∧ v = some (.long i)
theorem jPre_blind (av : List Value) (x : Cx) (w : va_W) (sz : Nat) : FrameBlind (va_Pc av (jPre x w sz)) := by
  intro a U g mk h
  obtain ⟨h0, h1, h2, h3, h4⟩ := h
  exact ⟨h0, h1, h2, cxK.same (s := U) (U := U.calling g mk a) rfl h3, h4⟩
theorem va_P.left {D : va_G} {cl : List vw_C} {a b : va_W} {H : Heap} (h : va_P D cl (a ++ b) H) : va_P D cl a H := by
  intro k q hk
  obtain ⟨i, hi⟩ := List.getElem?_of_mem (List.mem_append_left b (List.mem_of_getElem? hk))
  exact h i q hi
theorem va_P.right {D : va_G} {cl : List vw_C} {a b : va_W} {H : Heap} (h : va_P D cl (a ++ b) H) : va_P D cl b H := by
  intro k q hk
  obtain ⟨i, hi⟩ := List.getElem?_of_mem (List.mem_append_right a (List.mem_of_getElem? hk))
  exact h i q hi
theorem va_D.left {A : Nat → Prop} {a b : va_W} (h : va_D A (a ++ b)) : va_D A a := by
  rw [va_D_iff] at h ⊢
  rw [List.map_append, List.nodup_append] at h
  exact ⟨h.1.1, fun q hq => h.2 q (List.mem_append_left b hq)⟩
theorem va_D.right {A : Nat → Prop} {a b : va_W} (h : va_D A (a ++ b)) : va_D A b := by
  rw [va_D_iff] at h ⊢
  rw [List.map_append, List.nodup_append] at h
  exact ⟨h.1.2.1, fun q hq => h.2 q (List.mem_append_right a hq)⟩
theorem va_A_free {A : Nat → Prop} {a b : va_W} {H0 H : Heap} {locs : List Loc} (hD : va_D A (a ++ b)) (hS : va_S A H0 H locs) (hA : ∀ q, H0.size ≤ q → A q) : ∀ q, va_A a H.size q → A q := by
  intro q h
  rcases h with ⟨k, e, h⟩ | h
  · exact hD.left.2 k (q, e) h
  · exact hA q (Nat.le_trans hS.1 h)
theorem va_join2 {A : Nat → Prop} {D : va_G} {cl : List vw_C} {wc wr w1 : va_W} {H H1 : Heap} (hP : va_P D cl (wc ++ wr) H) (hD : va_D A (wc ++ wr)) (hk : ∀ q : Nat, q < H.size → ¬ va_A wc H.size q → H1[q]? = H[q]?) (hF : ∀ q, va_A wc H.size q → A q) (hP1 : va_P D cl w1 H1) (hD1 : va_D (va_A wc H.size) w1) : va_P D cl (w1 ++ wr) H1 ∧ va_D A (w1 ++ wr) := by
  have apart : ∀ q ∈ wr, q.1 < H.size ∧ ¬ va_A wc H.size q.1 := by
    intro q hq
    obtain ⟨i, hi⟩ := List.getElem?_of_mem hq
    have hl := (hP.right i q hi).lt
    refine ⟨hl, fun h => ?_⟩
    rcases h with ⟨k2, e, h⟩ | h
    · rw [va_D_iff, List.map_append, List.nodup_append] at hD
      exact hD.1.2.2 q.1 (List.mem_map.mpr ⟨(q.1, e), List.mem_of_getElem? h, rfl⟩) q.1 (List.mem_map.mpr ⟨q, hq, rfl⟩) rfl
    · omega
  refine ⟨va_P.app hP1 (fun k q hq => ?_), va_D.app (hD1.weaken (fun k q _ h => hF q.1 h)) hD.right (fun i j p q hp hq hxy => ?_)⟩
  · obtain ⟨g1, g2⟩ := apart q (List.mem_of_getElem? hq)
    exact (hP.right k q hq).kept (hk q.1 g1 g2)
  · exact (apart q (List.mem_of_getElem? hq)).2 (by rw [← hxy]; exact hD1.2 i p hp)
set_option maxHeartbeats 4000000 in
/-- a contract by the walk of its body -/
theorem MC.of {l : Launch} {x : Cx} {d mc ms : Nat} {y : MethodName} {cc : ByteArray} {nL : Nat} {ret : Option FieldType} {av : List Value} {w : va_W} {Pst : Option Value → va_W → Prop} (hy : plainName y.cls = true) (hn : (lg_sl av).length ≤ nL) (hret : ∀ v ws, Pst v ws → retFit ret v) (body : ∀ M : Mx, J M l x cc nL y d Pst mc ms 0 (lv_args 0 av) [] w) : MC l x d mc ms y cc nL ret av w Pst := by
  intro sz
  refine Met.ofW (cc := cc) (maxL := nL) (ret := ret) hy rfl ?_
  intro p e s m args below meth c s₁ B hml hv
  obtain ⟨rfl, hsz, hP, hK, hD0⟩ := hv
  subst hsz
  have hD := hD0.self (sz := s.heap.size)
  have hts := atoms_spec (ws := .code y cc nL ret :: gw) B.pre
  have hlocks := B.notSynchronized
  have hr := B.returns
  have hE : jEnv (p, e, (headSpec (.code y cc nL ret :: gw) (jRm d mc ms)).room, s, m, av.toArray, below, meth, c, va_A w s.heap.size, MQ below (jQ x w s.heap.size Pst) av.toArray s mc ms (va_A w s.heap.size), mc, ms) l x cc nL y d Pst := by
    refine ⟨⟨B.exec, B.bytes, hml, findClass_of_methodNamed B.named, (name_of_methodNamed B.named B.method).1, fun w h => hts w (List.mem_cons_of_mem _ h), hK, fun q h => Or.inr h⟩, ⟨Nat.le_refl _, Nat.le_refl _, Nat.le_refl _, Nat.le_refl _⟩, ?_⟩
    intro v ws pc H locs ls cells slots hPst hR hc1 hc2 hP hD hS
    have post : ∀ (t : State), t.heap = H → jQ x w s.heap.size Pst av.toArray s (.returned v) t := fun t ht => ⟨⟨v, ws, rfl, hPst, by rw [ht]; exact hP, hD⟩, hS.F ht⟩
    refine W.widen (k := mc) (n := ms) hc1 hc2 ?_
    rcases hR with ⟨i, rfl, hd⟩ | ⟨i, rfl, hd⟩ | ⟨rfl, hd⟩
    · rcases hret _ _ hPst with ⟨h1, h2⟩ | ⟨ty, j, h1, h2, h3⟩ | ⟨j, h1, h2⟩
      · cases h2
      · cases h2
        exact W.zret B.exec B.bytes (hr.trans h1) h3 (fun t ht _ => post t ht) hS.2.2 hd
      · cases h2
    · rcases hret _ _ hPst with ⟨h1, h2⟩ | ⟨ty, j, h1, h2, h3⟩ | ⟨j, h1, h2⟩
      · cases h2
      · cases h2
      · exact W.lret B.exec B.bytes (hr.trans h1) (fun t ht _ => post t ht) hS.2.2 hd
    · rcases hret _ _ hPst with ⟨h1, h2⟩ | ⟨ty, j, h1, h2, h3⟩ | ⟨j, h1, h2⟩
      · exact W.vret B.exec B.bytes (hr.trans h1) (fun t ht _ => post t ht) hS.2.2 hd
      · cases h2
      · cases h2
  have hl := lv_entry av (n := nL) hn
  rw [lg_entry_eq]
  have hb := body (p, e, (headSpec (.code y cc nL ret :: gw) (jRm d mc ms)).room, s, m, av.toArray, below, meth, c, va_A w s.heap.size, MQ below (jQ x w s.heap.size Pst) av.toArray s mc ms (va_A w s.heap.size), mc, ms) hE
  exact hb 0 0 s.heap [] _ (Nat.le_of_eq (Nat.zero_add mc)) (Nat.le_of_eq (Nat.zero_add ms)) hP hD va_S.rf hl
section
variable {p : Program} {l : Launch} {e : Env} {R : Room} {s : State} {m : MethodId} {args : Array Value} {below : List Frame} {meth : Method} {c : Code} {A : Nat → Prop} {Q : State → Prop}
theorem jn_core {x : Cx} {wc wr : va_W} {Pst : Option Value → va_W → Prop} {a : Array Value} {H : Heap} {locs : List Loc} {cells slots mc' ms' pc : Nat} {ls : Array Slot} {st rest : List Value} (hr : va_Run p l e R s m args below meth c H locs cells slots mc' ms' (F0 m pc ls st) rest (jQ x wc H.size Pst a) (va_A wc H.size)) (hP : va_P x.1 vwCl (wc ++ wr) H) (hD : va_D A (wc ++ wr)) (hS : va_S A s.heap H locs) (hA : ∀ q, s.heap.size ≤ q → A q) (kk : ∀ (v : Option Value) (w1 : va_W) (H1 : Heap) (locs1 : List Loc), Pst v w1 → va_P x.1 vwCl (w1 ++ wr) H1 → va_D A (w1 ++ wr) → va_S A s.heap H1 locs1 → W p l e R s m args below meth c H1 locs1 (cells + mc') (slots + ms') Q (F0 m (pc + 3) ls (v.toList ++ rest))) : W p l e R s m args below meth c H locs cells slots Q (F0 m pc ls st) := by
  have hF := va_A_free hD hS hA
  intro T hT X
  obtain ⟨v, st₀, t, T', L, h0, X', hL, e1, e2, ⟨⟨v', ws1, hv, hp, hP1, hD1⟩, hz, hk⟩, go⟩ := hr T hT X
  cases hv
  rw [h0] at hz hk
  rw [← e1] at hP1 hz hk
  obtain ⟨hP2, hD2⟩ := va_join2 hP hD hk hF hP1 hD1
  obtain ⟨t2, a1, b1⟩ := kk v ws1 T'.heap (locs ++ L) hp hP2 hD2
    ⟨Nat.le_trans hS.1 hz, fun q h1 h2 => by rw [hk q (Nat.lt_of_lt_of_le h1 hS.1) (fun z => h2 (hF q z))]; exact hS.2.1 q h1 h2, fun q hq => by
      rcases List.mem_append.mp hq with h | h
      · exact hS.2.2 q h
      · exact hF _ (hL q h)⟩ T' rfl X'
  exact ⟨t2, go t2 a1, b1⟩
end
section
variable {M : Mx} {l : Launch} {x : Cx} {cc : ByteArray} {nL : Nat} {y : MethodName} {d : Nat} {P : Option Value → va_W → Prop} {k n pc : Nat} {lv : List (Nat × Value)} {st : List Value} {ws : va_W}
def COK (y' : MethodName) (cc' : ByteArray) (nL' : Nat) (ret' : Option FieldType) (na : Nat) : Prop := Cond.code y' cc' nL' ret' ∈ gw ∧ Cond.initialized y'.cls ∈ gw ∧ (y'.cls ≠ "java/lang/invoke/MethodHandle" ∧ y'.cls ≠ "java/lang/invoke/VarHandle") ∧ (parseMethodDescriptor y'.desc).map (fun d => d.parameters.length) = some na ∧ nL' ≤ 21
/-- what a virtual call needs of the tables -/
def VOK (own : String) (idx : Nat) (y' : MethodName) : Prop := Cond.methodLink own idx y' ∈ gw ∧ Cond.instanceMethod y' ∈ gw ∧ Cond.selects y'.cls y' y' ∈ gw
theorem gw_sub {c : Cond} (h : c ∈ gw) : ∀ w ∈ (c :: gw), w ∈ gw := fun w hw => by
  rcases List.mem_cons.mp hw with rfl | hw
  · exact h
  · exact hw
set_option maxHeartbeats 4000000 in
theorem j_callV {wc wr : va_W} {Pst : Option Value → va_W → Prop} {d' mc' ms' k2 n2 idx b nL' na : Nat} {y' : MethodName} {cc' : ByteArray} {ret' : Option FieldType} {As rest : List Value} (hM : MC l x d' mc' ms' y' cc' nL' ret' (.ref b :: As) wc Pst) (hC : COK y' cc' nL' ret' na) (hV : VOK y.cls idx y') (q0 : Nat) {ci : Nat} {fs : List Value} {r : vw_C} (he : wc[q0]? = some (b, .inr (ci, fs))) (hc : vwCl[ci]? = some r) (hcl : r.1 = y'.cls) (hd : decode cc pc = .ok (.invokevirtual idx, 3)) (h0 : d' + 1 ≤ d) (hk : mc' + k2 ≤ k) (hn : ms' + n2 ≤ n) (ha : As.length = na) (hst : st = As.reverse ++ .ref b :: rest) (hr : (rest.map fun v => v.category).sum ≤ 8) (hp : ws.Perm (wc ++ wr)) (kk : ∀ v w1, Pst v w1 → J M l x cc nL y d P k2 n2 (pc + 3) lv (v.toList ++ rest) (w1 ++ wr)) : J M l x cc nL y d P k n pc lv st ws := by
  obtain ⟨p, e, R, s, m, args, below, meth, c, A, Q, mc, ms⟩ := M
  intro E cells slots H locs ls h1 h2 hP hD hS hl
  obtain ⟨E1, E2, E3⟩ := id E
  obtain ⟨C1, C2, C3, C4, C5⟩ := hC
  obtain ⟨V1, V2, V3⟩ := hV
  have hts := E1.2.2.2.2.2.1
  have hP' := hP.perm hp
  have hD' := hD.perm hp
  have cw : CallW R s args y.cls y'.cls idx y' cc' nL' ret' (.code y' cc' nL' ret' :: gw) (jRm d' mc' ms') mc' ms' na := cwV na hts (fun w hw => gw_good w (by
    rcases List.mem_append.mp hw with h | h
    · simp only [List.mem_cons, List.not_mem_nil, or_false] at h
      rcases h with rfl | rfl | rfl | rfl
      · exact V1
      · exact V2
      · exact V3
      · exact C2
    · exact gw_sub C1 w h)) rfl rfl rfl ⟨rfl, C3.1, C3.2, C4⟩ ⟨by show d' + 1 ≤ _; omega, by show 8 + (nL' + 11) + 40 * d' ≤ _; omega⟩
  have hrecv := va_recv E1.2.2.2.2.2.2.1.1 hP'.left hc he
  rw [hcl] at hrecv
  refine jn_core (wc := wc) (wr := wr) (va_runV (As := As) (rest := rest) (b := b) ⟨E1.1, E1.2.1, E1.2.2.1, E1.2.2.2.1, hts⟩ (hM H.size) cw ⟨jPre_blind _ _ _ _, hrecv, fun U hU hW => ⟨rfl, by rw [hU], by rw [hU]; exact hP'.left, E1.2.2.2.2.2.2.1.warm hW, hD'.left.weaken (fun _ _ _ _ => trivial)⟩⟩ rfl ha hl.1 hst (lv_room hr) hd ⟨by omega, by omega⟩) hP' hD' hS E1.2.2.2.2.2.2.2 (fun v w1 H1 locs1 hv hP hD hS => ?_)
  exact kk v w1 hv E (cells + mc') (slots + ms') H1 locs1 ls (by omega) (by omega) hP hD hS hl
def SOK (own : String) (idx : Nat) (y' : MethodName) : Prop := Cond.methodLink own idx y' ∈ gw ∧ Cond.static y' ∈ gw ∧ y'.cls = own
set_option maxHeartbeats 4000000 in
theorem j_callS {wc wr : va_W} {Pst : Option Value → va_W → Prop} {d' mc' ms' k2 n2 idx nL' na : Nat} {y' : MethodName} {cc' : ByteArray} {ret' : Option FieldType} {As rest : List Value} (hM : MC l x d' mc' ms' y' cc' nL' ret' As wc Pst) (hC : COK y' cc' nL' ret' na) (hV : SOK y.cls idx y') (hd : decode cc pc = .ok (.invokestatic idx, 3)) (h0 : d' + 1 ≤ d) (hk : mc' + k2 ≤ k) (hn : ms' + n2 ≤ n) (ha : As.length = na) (hst : st = As.reverse ++ rest) (hr : (rest.map fun v => v.category).sum ≤ 8) (hp : ws.Perm (wc ++ wr)) (kk : ∀ v w1, Pst v w1 → J M l x cc nL y d P k2 n2 (pc + 3) lv (v.toList ++ rest) (w1 ++ wr)) : J M l x cc nL y d P k n pc lv st ws := by
  obtain ⟨p, e, R, s, m, args, below, meth, c, A, Q, mc, ms⟩ := M
  intro E cells slots H locs ls h1 h2 hP hD hS hl
  obtain ⟨E1, E2, E3⟩ := id E
  obtain ⟨C1, C2, C3, C4, C5⟩ := hC
  obtain ⟨V1, V2, V3⟩ := hV
  have hts := E1.2.2.2.2.2.1
  have hP' := hP.perm hp
  have hD' := hD.perm hp
  have cw := cwS (R := R) (s := s) (args := args) (own := y.cls) (index := idx) (y := y') (bytes := cc') (maxL := nL') (ret := ret') (ws := .code y' cc' nL' ret' :: gw) (rm := jRm d' mc' ms') (mc := mc') (ms := ms') na hts (fun w hw => gw_good w (by
    rcases List.mem_append.mp hw with h | h
    · simp only [List.mem_cons, List.not_mem_nil, or_false] at h
      rcases h with rfl | rfl | rfl
      · exact V1
      · exact V2
      · rw [← V3]; exact C2
    · exact gw_sub C1 w h)) rfl rfl rfl ⟨V3, C3.1, C3.2, C4⟩ ⟨by show d' + 1 ≤ _; omega, by show 8 + (nL' + 11) + 40 * d' ≤ _; omega⟩
  refine jn_core (wc := wc) (wr := wr) (va_runS (As := As) (rest := rest) ⟨E1.1, E1.2.1, E1.2.2.1, E1.2.2.2.1, hts⟩ (hM H.size) cw ⟨jPre_blind _ _ _ _, fun U hU hW => ⟨rfl, by rw [hU], by rw [hU]; exact hP'.left, E1.2.2.2.2.2.2.1.warm hW, hD'.left.weaken (fun _ _ _ _ => trivial)⟩⟩ rfl ha hl.1 hst (lv_room hr) hd ⟨by omega, by omega⟩) hP' hD' hS E1.2.2.2.2.2.2.2 (fun v w1 H1 locs1 hv hP hD hS => ?_)
  exact kk v w1 hv E (cells + mc') (slots + ms') H1 locs1 ls (by omega) (by omega) hP hD hS hl
/-- a static method of the nest's host, called from a class inside -/
def NOK (own : String) (idx : Nat) (y' : MethodName) (host : String) : Prop := (∀ (x : Cx) (s : State), cxK x s → va_Nw (.methodLinkNest own idx y' host) s) ∧ Cond.static y' ∈ gw
set_option maxHeartbeats 4000000 in
theorem j_callN {wc wr : va_W} {Pst : Option Value → va_W → Prop} {d' mc' ms' k2 n2 idx nL' na : Nat} {y' : MethodName} {host : String} {cc' : ByteArray} {ret' : Option FieldType} {As rest : List Value} (hM : MC l x d' mc' ms' y' cc' nL' ret' As wc Pst) (hC : COK y' cc' nL' ret' na) (hV : NOK y.cls idx y' host) (hd : decode cc pc = .ok (.invokestatic idx, 3)) (h0 : d' + 1 ≤ d) (hk : mc' + k2 ≤ k) (hn : ms' + n2 ≤ n) (ha : As.length = na) (hst : st = As.reverse ++ rest) (hr : (rest.map fun v => v.category).sum ≤ 8) (hp : ws.Perm (wc ++ wr)) (kk : ∀ v w1, Pst v w1 → J M l x cc nL y d P k2 n2 (pc + 3) lv (v.toList ++ rest) (w1 ++ wr)) : J M l x cc nL y d P k n pc lv st ws := by
  obtain ⟨p, e, R, s, m, args, below, meth, c, A, Q, mc, ms⟩ := M
  intro E cells slots H locs ls h1 h2 hP hD hS hl
  obtain ⟨E1, E2, E3⟩ := id E
  obtain ⟨C1, C2, C3, C4, C5⟩ := hC
  obtain ⟨V1, V2⟩ := hV
  have hts := E1.2.2.2.2.2.1
  have hP' := hP.perm hp
  have hD' := hD.perm hp
  have cw := va_cnB (R := R) (s := s) (args := args) (own := y.cls) (host := host) (index := idx) (y := y') (bytes := cc') (maxL := nL') (ret := ret') (ws := .code y' cc' nL' ret' :: gw) (rm := jRm d' mc' ms') (mc := mc') (ms := ms') na hts (fun w hw => gw_good w (gw_sub C1 w hw)) rfl rfl rfl (V1 x s E1.2.2.2.2.2.2.1) (hts _ C2) ⟨C3.1, C3.2, C4⟩ ⟨by show d' + 1 ≤ _; omega, by show 8 + (nL' + 11) + 40 * d' ≤ _; omega⟩
  refine jn_core (wc := wc) (wr := wr) (va_runSN (As := As) (rest := rest) ⟨E1.1, E1.2.1, E1.2.2.1, E1.2.2.2.1, hts⟩ (hM H.size) ⟨cw, hts _ V2, trivial⟩ ⟨jPre_blind _ _ _ _, fun U hU hW => ⟨rfl, by rw [hU], by rw [hU]; exact hP'.left, E1.2.2.2.2.2.2.1.warm hW, hD'.left.weaken (fun _ _ _ _ => trivial)⟩⟩ rfl ha hl.1 hst (lv_room hr) hd ⟨by omega, by omega⟩) hP' hD' hS E1.2.2.2.2.2.2.2 (fun v w1 H1 locs1 hv hP hD hS => ?_)
  exact kk v w1 hv E (cells + mc') (slots + ms') H1 locs1 ls (by omega) (by omega) hP hD hS hl
def IOK (own : String) (idx : Nat) (y' : MethodName) : Prop := Cond.methodLink own idx y' ∈ gw ∧ Cond.instanceMethod y' ∈ gw ∧ y'.name = "<init>"
set_option maxHeartbeats 4000000 in
theorem j_callI {wc wr : va_W} {Pst : Option Value → va_W → Prop} {d' mc' ms' k2 n2 idx b nL' na : Nat} {y' : MethodName} {cc' : ByteArray} {As rest : List Value} (hM : MC l x d' mc' ms' y' cc' nL' none (.ref b :: As) wc Pst) (hC : COK y' cc' nL' none na) (hV : IOK y.cls idx y') (hd : decode cc pc = .ok (.invokespecial idx, 3)) (h0 : d' + 1 ≤ d) (hk : mc' + k2 ≤ k) (hn : ms' + n2 ≤ n) (ha : As.length = na) (hst : st = As.reverse ++ .ref b :: rest) (hr : (rest.map fun v => v.category).sum ≤ 8) (hp : ws.Perm (wc ++ wr)) (kk : ∀ v w1, Pst v w1 → J M l x cc nL y d P k2 n2 (pc + 3) lv (v.toList ++ rest) (w1 ++ wr)) : J M l x cc nL y d P k n pc lv st ws := by
  obtain ⟨p, e, R, s, m, args, below, meth, c, A, Q, mc, ms⟩ := M
  intro E cells slots H locs ls h1 h2 hP hD hS hl
  obtain ⟨E1, E2, E3⟩ := id E
  obtain ⟨C1, C2, C3, C4, C5⟩ := hC
  obtain ⟨V1, V2, V3⟩ := hV
  have hts := E1.2.2.2.2.2.1
  have hP' := hP.perm hp
  have hD' := hD.perm hp
  have cw := cwI (R := R) (s := s) (args := args) (own := y.cls) (index := idx) (y := y') (bytes := cc') (maxL := nL') (ws := .code y' cc' nL' none :: gw) (rm := jRm d' mc' ms') (mc := mc') (ms := ms') na hts (fun w hw => gw_good w (gw_sub C1 w hw)) rfl rfl rfl (hts _ C2) (hts _ V1) (hts _ V2) V3 ⟨C3.1, C3.2, C4⟩ ⟨by show d' + 1 ≤ _; omega, by show 8 + (nL' + 11) + 40 * d' ≤ _; omega⟩
  refine jn_core (wc := wc) (wr := wr) (va_runI (As := As) (rest := rest) (b := b) ⟨E1.1, E1.2.1, E1.2.2.1, E1.2.2.2.1, hts⟩ (hM H.size) cw ⟨jPre_blind _ _ _ _, fun U hU hW => ⟨rfl, by rw [hU], by rw [hU]; exact hP'.left, E1.2.2.2.2.2.2.1.warm hW, hD'.left.weaken (fun _ _ _ _ => trivial)⟩⟩ rfl ha hl.1 hst (lv_room hr) hd ⟨by omega, by omega⟩) hP' hD' hS E1.2.2.2.2.2.2.2 (fun v w1 H1 locs1 hv hP hD hS => ?_)
  exact kk v w1 hv E (cells + mc') (slots + ms') H1 locs1 ls (by omega) (by omega) hP hD hS hl
end
