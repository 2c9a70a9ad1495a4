/-! what makes cells -/
section
variable {M : Mx} {l : Launch} {x : Cx} {cc : ByteArray} {nL : Nat} {y : MethodName} {d : Nat} {P : Option Value → va_W → Prop} {k n pc : Nat} {lv : List (Nat × Value)} {st : List Value} {ws : va_W}
def WOK (own : String) (idx ci N : Nat) (fs : List Value) : Prop := ∃ (C : String) (T : u_T) (ty : Nat → FieldType), vwCl[ci]? = some (C, T, N) ∧ (∀ w ∈ u_ws C T N, w ∈ gw) ∧ (∀ k, k < N → parseFieldDescriptor (T k).2.2.1 = some (ty k)) ∧ Cond.classLink own idx C ∈ gw ∧ Cond.instantiable C N ∈ gw ∧ Cond.initialized C ∈ gw ∧ ∀ j, j < N → defaultValue (ty j) = vp_V fs j
theorem pm_last (ws : va_W) (q : Nat × va_E) : (ws ++ [q]).Perm (q :: ws) := by
  have h := List.perm_append_comm (l₁ := ws) (l₂ := [q])
  exact h
theorem j_new {idx ci N : Nat} {fs : List Value} (hd : decode cc pc = .ok (.new idx, 3)) (hW : WOK y.cls idx ci N fs) (kk : ∀ q : Nat, J M l x cc nL y d P k n (pc + 3) lv (.ref q :: st) ((q, .inr (ci, fs)) :: ws)) : J M l x cc nL y d P (k + 1) (n + N) pc lv st ws := by
  obtain ⟨p, e, R, s, m, args, below, meth, c, A, Q, mc, ms⟩ := M
  intro E cells slots H locs ls h1 h2 hP hD hS hl
  obtain ⟨E1, E2, E3⟩ := id E
  obtain ⟨C, T, ty, f1, f2, f3, f4, f5, f6, f7⟩ := hW
  have hts := E1.2.2.2.2.2.1
  refine va_new E1.1 E1.2.1 hts f2 ty f3 E1.2.2.2.1 (hts _ f4) (hts _ f5) (hts _ f6) E1.2.2.2.2.2.2.1.1 hP hD hS E1.2.2.2.2.2.2.2 f1 f7 (by omega) (by omega) hd (fun q H1 hP hD hS => ?_)
  exact kk q E (cells + 1) (slots + N) H1 locs ls (by omega) (by omega) (hP.perm (pm_last _ _)) (hD.perm (pm_last _ _)) hS hl
theorem j_newi {v : Int32} {N : Nat} (hd : decode cc pc = .ok (.newarray .int, 2)) (hn : ¬ v < 0) (hN : v.toNatClampNeg = N) (hb : N ≤ 1000) (kk : ∀ q : Nat, J M l x cc nL y d P k n (pc + 2) lv (.ref q :: st) ((q, .inl (x.2.1, N, .inl (fun _ => 0))) :: ws)) : J M l x cc nL y d P (k + 1) (n + N) pc lv (.int v :: st) ws := by
  obtain ⟨p, e, R, s, m, args, below, meth, c, A, Q, mc, ms⟩ := M
  intro E cells slots H locs ls h1 h2 hP hD hS hl
  obtain ⟨E1, E2, E3⟩ := id E
  have hts := E1.2.2.2.2.2.1
  refine va_newa E1.1 E1.2.1 (hts _ (gw_in (by decide +kernel) (by decide +kernel))) (ty := .int) rfl E1.2.2.2.2.2.2.1.1 hP hD hS E1.2.2.2.2.2.2.2 (N' := N) (a0 := (N, .inl (fun _ => 0))) (fun cA => rfl) hn hN (by show N * 4 ≤ _; omega) (by omega) (by omega) hd (fun q cA H1 hK hP hD hS => ?_)
  have e : x.2.1 = cA := Option.some.inj ((E1.2.2.2.2.2.2.1.1.2 0 _ rfl).2.symm.trans (hK.2 5 _ rfl).2)
  subst e
  exact kk q E (cells + 1) (slots + N) H1 locs ls (by omega) (by omega) (hP.perm (pm_last _ _)) (hD.perm (pm_last _ _)) hS hl
theorem j_newz {v : Int32} {N : Nat} (hd : decode cc pc = .ok (.newarray .boolean, 2)) (hn : ¬ v < 0) (hN : v.toNatClampNeg = N) (hb : N ≤ 1000) (kk : ∀ q : Nat, J M l x cc nL y d P k n (pc + 2) lv (.ref q :: st) ((q, .inl (x.2.2.1, N, .inl (fun _ => 0))) :: ws)) : J M l x cc nL y d P (k + 1) (n + N) pc lv (.int v :: st) ws := by
  obtain ⟨p, e, R, s, m, args, below, meth, c, A, Q, mc, ms⟩ := M
  intro E cells slots H locs ls h1 h2 hP hD hS hl
  obtain ⟨E1, E2, E3⟩ := id E
  have hts := E1.2.2.2.2.2.1
  refine va_newa E1.1 E1.2.1 (hts _ (gw_in (by decide +kernel) (by decide +kernel))) (ty := .boolean) rfl E1.2.2.2.2.2.2.1.1 hP hD hS E1.2.2.2.2.2.2.2 (N' := N) (a0 := (N, .inl (fun _ => 0))) (fun cA => rfl) hn hN (by show N * 1 ≤ _; omega) (by omega) (by omega) hd (fun q cA H1 hK hP hD hS => ?_)
  have e : x.2.2.1 = cA := Option.some.inj ((E1.2.2.2.2.2.2.1.1.2 1 _ rfl).2.symm.trans (hK.2 5 _ rfl).2)
  subst e
  exact kk q E (cells + 1) (slots + N) H1 locs ls (by omega) (by omega) (hP.perm (pm_last _ _)) (hD.perm (pm_last _ _)) hS hl
theorem j_newb {v : Int32} {N : Nat} (hd : decode cc pc = .ok (.newarray .byte, 2)) (hn : ¬ v < 0) (hN : v.toNatClampNeg = N) (hb : N ≤ 1000) (kk : ∀ q : Nat, J M l x cc nL y d P k n (pc + 2) lv (.ref q :: st) ((q, .inl (x.2.2.2.1, N, .inl (fun _ => 0))) :: ws)) : J M l x cc nL y d P (k + 1) (n + N) pc lv (.int v :: st) ws := by
  obtain ⟨p, e, R, s, m, args, below, meth, c, A, Q, mc, ms⟩ := M
  intro E cells slots H locs ls h1 h2 hP hD hS hl
  obtain ⟨E1, E2, E3⟩ := id E
  have hts := E1.2.2.2.2.2.1
  refine va_newa E1.1 E1.2.1 (hts _ (gw_in (by decide +kernel) (by decide +kernel))) (ty := .byte) rfl E1.2.2.2.2.2.2.1.1 hP hD hS E1.2.2.2.2.2.2.2 (N' := N) (a0 := (N, .inl (fun _ => 0))) (fun cA => rfl) hn hN (by show N * 1 ≤ _; omega) (by omega) (by omega) hd (fun q cA H1 hK hP hD hS => ?_)
  have e : x.2.2.2.1 = cA := Option.some.inj ((E1.2.2.2.2.2.2.1.1.2 2 _ rfl).2.symm.trans (hK.2 5 _ rfl).2)
  subst e
  exact kk q E (cells + 1) (slots + N) H1 locs ls (by omega) (by omega) (hP.perm (pm_last _ _)) (hD.perm (pm_last _ _)) hS hl
theorem j_newq {v : Int32} {N idx : Nat} (hd : decode cc pc = .ok (.anewarray idx, 3)) (hcl : Cond.classLink y.cls idx "WakefulBed$Night" ∈ gw) (hn : ¬ v < 0) (hN : v.toNatClampNeg = N) (hb : N ≤ 1000) (kk : ∀ q : Nat, J M l x cc nL y d P k n (pc + 3) lv (.ref q :: st) ((q, .inl (x.2.2.2.2.1, N, .inr (.inr (.inr (.inr (fun _ => none)))))) :: ws)) : J M l x cc nL y d P (k + 1) (n + N) pc lv (.int v :: st) ws := by
  obtain ⟨p, e, R, s, m, args, below, meth, c, A, Q, mc, ms⟩ := M
  intro E cells slots H locs ls h1 h2 hP hD hS hl
  obtain ⟨E1, E2, E3⟩ := id E
  have hts := E1.2.2.2.2.2.1
  refine va_newq E1.1 E1.2.1 E1.2.2.2.1 (hts _ hcl) E1.2.2.2.2.2.2.1.2.2.2.2.1 E1.2.2.2.2.2.2.1.1 hP hD hS E1.2.2.2.2.2.2.2 (N' := N) hn hN (by omega) (by omega) (by omega) hd (fun q cA H1 hK hP hD hS => ?_)
  have e : x.2.2.2.2.1 = cA := by
    obtain ⟨_, _, _, _, _, h1⟩ := (E1.2.2.2.2.2.2.1.1.2 3 _ rfl).2
    obtain ⟨_, _, _, _, _, h2⟩ := (hK.2 5 _ rfl).2
    exact Option.some.inj (h1.symm.trans h2)
  subst e
  exact kk q E (cells + 1) (slots + N) H1 locs ls (by omega) (by omega) (hP.perm (pm_last _ _)) (hD.perm (pm_last _ _)) hS hl
end
