/-! an array of arrays -/
theorem mn_outer (c : ClassId) (N h0 : Nat) : ∀ i : Nat, Jvm.Free.Multi.outerC c N h0 i = arrV c N (fun j => va_rf (if j < i then some (h0 + 1 + j) else none))
  | 0 => by
    show ({ cls := c, slots := Array.replicate N .null, vm := .none } : Cell) = _
    rw [arrV_new]
    refine congrArg (arrV c N) (funext fun j => ?_)
    simp [va_rf]
  | i + 1 => by
    show (Jvm.Free.Multi.outerC c N h0 i).setSlot i (.ref (h0 + 1 + i)) = _
    rw [mn_outer c N h0 i, arrV_store]
    refine congrArg (arrV c N) (funext fun j => ?_)
    by_cases e : j = i
    · subst e
      simp [updV, va_rf]
    · by_cases h : j < i
      · simp [updV, e, h, Nat.lt_succ_of_lt h]
      · simp [updV, e, h, show ¬ j < i + 1 by omega]
theorem mn_inner (c : ClassId) : Jvm.Free.Multi.innerC c 13 (defaultValue .int) = vp_cell c (13, .inl (fun _ => 0)) := by
  show ({ cls := c, slots := Array.replicate 13 (.int 0), vm := .none } : Cell) = _
  rw [arrV_new]; rfl
section
variable {M : Mx} {l : Launch} {x : Cx} {cc : ByteArray} {nL : Nat} {y : MethodName} {d : Nat} {P : Option Value → va_W → Prop} {k n pc : Nat} {lv : List (Nat × Value)} {st : List Value} {ws : va_W}
set_option maxHeartbeats 4000000 in
theorem j_mna {idx : Nat} (hd : decode cc pc = .ok (.multianewarray idx 2, 4)) (hcl : Cond.classLink y.cls idx "[[I" ∈ gw) (kk : ∀ (q : Nat) (r : Nat → Nat), J M l x cc nL y d P k n (pc + 4) lv (.ref q :: st) ((q, .inl (x.2.2.2.2.2, 10, .inr (.inr (.inr (.inr (fun i => if i < 10 then some (r i) else none)))))) :: (rowsB x r (fun _ _ => 0) ++ ws))) : J M l x cc nL y d P (k + 11) (n + 140) pc lv (.int 13 :: .int 10 :: st) ws := by
  obtain ⟨p, e, R, s, m, args, below, meth, c, A, Q, mc, ms⟩ := M
  intro E cells slots H locs ls h1 h2 hP hD hS hl
  obtain ⟨E1, E2, E3⟩ := id E
  have hts := E1.2.2.2.2.2.1
  intro T hT Xs
  have e10 : (10 : Int32).toNatClampNeg = 10 := by decide
  have e13 : (13 : Int32).toNatClampNeg = 13 := by decide
  have hov : (Cond.arrayOver (.array .int)).before args s = true := E1.2.2.2.2.2.2.1.2.2.2.2.2
  obtain ⟨vm₁, cA, comp, -, fA, fC, hO, -, X', step⟩ := Xs.multianewarray2F (ty := .int) E1.1 E1.2.2.2.1 (hts _ hcl) hov (hts _ (gw_in (by decide +kernel) (by decide +kernel))) (g := F0 m pc ls (.int 13 :: .int 10 :: st)) rfl (by rw [E1.2.1]; exact hd) rfl (by decide) (by decide) (by rw [e10]; omega) (by rw [e13]; decide) (by rw [e13]; omega) rfl rfl (by rw [e10]; omega) (by rw [e10, e13]; omega)
  rw [e10, e13] at X' step
  have hcy : s.vm.findClass (FieldType.array .int).toString = some x.2.1 := (E1.2.2.2.2.2.2.1.1.2 0 _ rfl).2
  have hcx : s.vm.findClass ("[" ++ (FieldType.array .int).toString) = some x.2.2.2.2.2 := (E1.2.2.2.2.2.2.1.1.2 4 _ rfl).2
  obtain rfl : x.2.1 = comp := Option.some.inj (hcy.symm.trans fC)
  obtain rfl : x.2.2.2.2.2 = cA := Option.some.inj (hcx.symm.trans fA)
  generalize hF : Jvm.Free.Multi.fill (T.setVm vm₁) x.2.2.2.2.2 x.2.1 10 13 (defaultValue .int) 10 = F at X' step
  have hTh : (T.setVm vm₁).heap = H := hT
  obtain ⟨f1, f2, -, -⟩ := Jvm.Free.Multi.fill_facts (T.setVm vm₁) x.2.2.2.2.2 x.2.1 10 13 (defaultValue .int) 10
  rw [hF, hTh] at f1 f2
  have hold : ∀ a : Nat, a < H.size → F.heap[a]? = H[a]? := fun a ha => by
    have := Jvm.Free.Multi.fill_old (T.setVm vm₁) x.2.2.2.2.2 x.2.1 10 13 (defaultValue .int) (a := a) (by rw [hTh]; exact ha) 10
    rw [hF, hTh] at this
    exact this
  have hrow : ∀ j : Nat, j < 10 → F.heap[H.size + 1 + j]? = some (vp_cell x.2.1 (13, .inl (fun _ => 0))) := fun j hj => by
    have := Jvm.Free.Multi.fill_inner (T.setVm vm₁) x.2.2.2.2.2 x.2.1 10 13 (defaultValue .int) 10 j hj
    rw [hF, hTh, mn_inner] at this
    exact this
  rw [show Jvm.Free.Multi.outerC x.2.2.2.2.2 10 H.size 10 = vp_cell x.2.2.2.2.2 (10, .inr (.inr (.inr (.inr (fun i => if i < 10 then some (H.size + 1 + i) else none))))) from by rw [vp_cell_q]; exact mn_outer _ _ _ _] at f2
  have hlt : ∀ q ∈ ws, q.1 < H.size := fun q hq => by
    obtain ⟨i, hi⟩ := List.getElem?_of_mem hq
    exact (hP i q hi).lt
  have hP0 : va_P x.1 vwCl ws F.heap := hP.kept (fun k9 q hq => hold q.1 (hlt q (List.mem_of_getElem? hq)))
  have hP1 : va_P x.1 vwCl [(H.size, .inl (x.2.2.2.2.2, 10, .inr (.inr (.inr (.inr (fun i => if i < 10 then some (H.size + 1 + i) else none))))))] F.heap := fun k9 q hq => by
    have h0 : k9 < 1 := (List.getElem?_eq_some_iff.mp hq).1
    rw [show k9 = 0 by omega] at hq
    cases hq
    exact f2
  have hP2 : va_P x.1 vwCl (rowsB x (fun i => H.size + 1 + i) (fun _ _ => 0)) F.heap := fun k9 q hq => by
    obtain ⟨i, hi, rfl⟩ := List.mem_map.mp (List.mem_of_getElem? hq)
    exact hrow i (List.mem_range.mp hi)
  have hD2 : va_D A ((H.size, .inl (x.2.2.2.2.2, 10, .inr (.inr (.inr (.inr (fun i => if i < 10 then some (H.size + 1 + i) else none)))))) :: (rowsB x (fun i => H.size + 1 + i) (fun _ _ => 0) ++ ws)) := by
    rw [va_D_iff] at hD ⊢
    have hrw : ∀ q ∈ rowsB x (fun i => H.size + 1 + i) (fun _ _ => 0), ∃ i, i < 10 ∧ q.1 = H.size + 1 + i := fun q hq => by
      obtain ⟨i, hi, rfl⟩ := List.mem_map.mp hq
      exact ⟨i, List.mem_range.mp hi, rfl⟩
    refine ⟨?_, fun q hq => ?_⟩
    · rw [List.map_cons, List.map_append, List.nodup_cons, List.nodup_append]
      refine ⟨fun hm => ?_, ?_, hD.1, fun a ha b hb => ?_⟩
      · rcases List.mem_append.mp hm with hm | hm
        · obtain ⟨q, hq, e⟩ := List.mem_map.mp hm
          obtain ⟨i, _, e2⟩ := hrw q hq
          have e : q.1 = H.size := e
          omega
        · obtain ⟨q, hq, e⟩ := List.mem_map.mp hm
          have := hlt q hq
          have e : q.1 = H.size := e
          omega
      · have er : (rowsB x (fun i => H.size + 1 + i) (fun _ _ => 0)).map (·.1) = (List.range 10).map (fun i => H.size + 1 + i) := by
          rw [rowsB, List.map_map]; rfl
        rw [er, List.nodup_iff_pairwise_ne, List.pairwise_map]
        refine List.Pairwise.imp ?_ (List.nodup_iff_pairwise_ne.mp List.nodup_range)
        intro a b hab e
        exact hab (by omega)
      · intro e
        obtain ⟨q, hq, e1⟩ := List.mem_map.mp ha
        obtain ⟨q', hq', e2⟩ := List.mem_map.mp hb
        obtain ⟨i, _, e3⟩ := hrw q hq
        have := hlt q' hq'
        have e1 : q.1 = a := e1
        have e2 : q'.1 = b := e2
        omega
    · rcases List.mem_cons.mp hq with rfl | hq
      · exact E1.2.2.2.2.2.2.2 _ hS.1
      · rcases List.mem_append.mp hq with hq | hq
        · obtain ⟨i, _, e3⟩ := hrw q hq
          exact E1.2.2.2.2.2.2.2 _ (by have := hS.1; omega)
        · exact hD.2 q hq
  obtain ⟨t, a1, b1⟩ := kk H.size (fun i => H.size + 1 + i) E (cells + 11) (slots + 140) F.heap locs ls (by omega) (by omega) (hP1.app (hP2.app hP0)) hD2 ⟨by rw [f1]; have := hS.1; omega, fun a h1 h2 => (hold a (Nat.lt_of_lt_of_le h1 hS.1)).trans (hS.2.1 a h1 h2), hS.2.2⟩ hl F rfl X'
  refine ⟨t, step t ?_, b1⟩
  have e9 : T.heap.size = H.size := by rw [hT]
  rw [e9]
  exact a1
end
