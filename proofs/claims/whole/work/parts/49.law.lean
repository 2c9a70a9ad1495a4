/-! the law: its script, the two objects side by side, each case of its switch -/
def jX (M : Mx) (b L : Nat) (xs : Nat → Int32) : Prop := match M with
  | (_, _, _, s, _, _, _, _, _, A, _, _, _) => va_X b L xs s s.heap ∧ b < s.heap.size ∧ ¬ A b
section
variable {M : Mx} {l : Launch} {x : Cx} {cc : ByteArray} {nL : Nat} {y : MethodName} {d : Nat} {P : Option Value → va_W → Prop} {k n pc : Nat} {lv : List (Nat × Value)} {st : List Value} {ws : va_W}
theorem j_sld {b L i : Nat} {xs : Nat → Int32} (hX : jX M b L xs) (hi : i < L) (hL : L ≤ 256) (hd : decode cc pc = .ok (.iaload, 1)) (kk : J M l x cc nL y d P k n (pc + 1) lv (.int (xs i) :: st) ws) : J M l x cc nL y d P k n pc lv (.int (nI i) :: .ref b :: st) ws := by
  obtain ⟨p, e, R, s, m, args, below, meth, c, A, Q, mc, ms⟩ := M
  intro E cells slots H locs ls h1 h2 hP hD hS hl
  have kk := kk E cells slots H locs ls h1 h2 hP hD hS hl
  rw [← nI_clamp (show i < 2 ^ 31 by omega)] at kk
  exact va_sld E.1.1 E.1.2.1 hX.1 hX.2.1 hX.2.2 hS (vp_in_nI hi (by omega)) hd kk
theorem j_slen {b L : Nat} {xs : Nat → Int32} (hX : jX M b L xs) (hd : decode cc pc = .ok (.arraylength, 1)) (kk : J M l x cc nL y d P k n (pc + 1) lv (.int (nI L) :: st) ws) : J M l x cc nL y d P k n pc lv (.ref b :: st) ws := by
  obtain ⟨p, e, R, s, m, args, below, meth, c, A, Q, mc, ms⟩ := M
  intro E cells slots H locs ls h1 h2 hP hD hS hl
  exact va_slen E.1.1 E.1.2.1 hX.1 hX.2.1 hX.2.2 hS hd (kk E cells slots H locs ls h1 h2 hP hD hS hl)
end
/-- the law answers 1 -/
def pL1 : Option Value → va_W → Prop := fun v9 _ => v9 = some (.int 1)
/-- between two calls: the class' cells and the reference's, alike -/
def LI (x : Cx) (A a : Nat → Nat → Nat) (r q : Nat → Nat) (i : Nat) (ws : va_W) : Prop := ∃ (S : CS) (z : ZS) (u : NS) (v : SS) (g : PG) (pw : Bool × Nat) (kp : KS) (o : OS), ws = cw x A a r S z ++ mb x q u v g pw kp o ∧ zok z ∧ REL S u v g kp o ∧ o.1 ≤ i
theorem LI.mono {x : Cx} {A a : Nat → Nat → Nat} {r q : Nat → Nat} {i j : Nat} {ws : va_W} (h : LI x A a r q i ws) (hij : i ≤ j) : LI x A a r q j ws := by
  obtain ⟨S, z, u, v, g, pw, kp, o, h1, h2, h3, h4⟩ := h
  exact ⟨S, z, u, v, g, pw, kp, o, h1, h2, h3, by omega⟩
theorem uX6_house (l : Launch) (x : Cx) (q : Nat → Nat) (u : NS) (v : SS) (g : PG) (pw : Bool × Nat) (kp : KS) (o : OS) (hg : g.2 ≤ 18) : MC l x 3 0 0 yX6_house cX6_house 3 (some .int) [.ref (q 0)] (mb x q u v g pw kp o) (eX (kHouse (false, o.1, o.2.1) g u v u v).1 (fun ws => ∃ pw' : Bool × Nat, ws = mb x q (kHouse (false, o.1, o.2.1) g u v u v).2.2.2.1 (kHouse (false, o.1, o.2.1) g u v u v).2.2.2.2.1 (kHouse (false, o.1, o.2.1) g u v u v).2.2.1 pw' kp (setO o (kHouse (false, o.1, o.2.1) g u v u v).2.1.2.1))) := by
  obtain ⟨kf, tf, sl, bf, n, d, h⟩ := u
  exact tX6_house l x q kf tf sl bf n d h v g pw kp o hg
theorem uX6_image (l : Launch) (x : Cx) (q : Nat → Nat) (u : NS) (v : SS) (g : PG) (pw : Bool × Nat) (kp : KS) (o : OS) (hk : okN u) : MC l x 1 0 0 yX6_image cX6_image 2 (some .int) [.ref (q 0)] (mb x q u v g pw kp o) (eI (if nN u = 0 then -103 else nH u) (mb x q u v g pw (if nN u = 0 then kp else imK u v kp o.1) (if nN u = 0 then o else imO u o))) := by
  obtain ⟨kf, tf, sl, bf, n, d, h⟩ := u
  obtain ⟨hs, wh, vn⟩ := v
  obtain ⟨ki, kh, ks, kd, khs, kwh⟩ := kp
  exact tX6_image l x q kf tf sl bf n d h hs wh vn g pw ki kh ks kd khs kwh o hk.1
theorem uX6_restore (l : Launch) (x : Cx) (q : Nat → Nat) (u : NS) (v : SS) (g : PG) (pw : Bool × Nat) (kp : KS) (o : OS) (hk : okN u) (h1 : kp.2.1 < 2 ^ 31) (h2 : o.1 < 2 ^ 31) : MC l x 1 0 0 yX6_restore cX6_restore 2 (some .int) [.ref (q 0)] (mb x q u v g pw kp o) (eI (if kp.1 = true ∧ kp.2.1 = o.1 then nH (reU u kp o) else -103) (mb x q (if kp.1 = true ∧ kp.2.1 = o.1 then reU u kp o else u) (if kp.1 = true ∧ kp.2.1 = o.1 then reV v kp else v) g pw kp o)) := by
  obtain ⟨kf, tf, sl, bf, n, d, h⟩ := u
  obtain ⟨hs, wh, vn⟩ := v
  obtain ⟨ki, kh, ks, kd, khs, kwh⟩ := kp
  exact tX6_restore l x q kf tf sl bf n d h hs wh vn g pw ki kh ks kd khs kwh o hk.1 h1 h2
theorem kHouse_n (c : Bool × Nat × Nat) (g : PG) (u : NS) (v : SS) : (kHouse c g u v u v).2.1.2.1 ≤ c.2.1 + 1 := by
  rw [kHouse]
  split
  · exact Nat.le_refl _
  · exact Nat.le_succ _
theorem imO_n (u : NS) (o : OS) : (if nN u = 0 then o else imO u o).1 = o.1 := by
  obtain ⟨ho, as, sv, sd, wy, se, hh⟩ := o
  split <;> rfl
theorem REL.hh {s : CS} {u : NS} {v : SS} {g : PG} {kp : KS} {o : OS} (h : REL s u v g kp o) (z : Int64) : REL s u v g kp (setH o z) := by
  obtain ⟨ho, as, sv, sd, wy, se, hh⟩ := o
  exact h
set_option maxHeartbeats 4000000 in
set_option maxRecDepth 100000 in
theorem lc_letter {M : Mx} {l : Launch} {x : Cx} {b L : Nat} {xs : Nat → Int32} (hX : jX M b L xs) {A a : Nat → Nat → Nat} {r q : Nat → Nat} {i : Nat} (hi : i + 4 ≤ L) (hL : L ≤ 256) {ws : va_W} (h : LI x A a r q i ws) (kk : ∀ ws', LI x A a r q (i + 1) ws' → J M l x cL_law 4 yL_law 12 pL1 0 0 579 [(0, .ref b), (1, .ref (A 0 0)), (2, .ref (q 0)), (3, .int (nI i))] [] ws') : J M l x cL_law 4 yL_law 12 pL1 0 0 128 [(0, .ref b), (1, .ref (A 0 0)), (2, .ref (q 0)), (3, .int (nI i))] [] ws := by
  obtain ⟨⟨⟨ik, hr, ld⟩, gc, uc, vc, uk, vk⟩, z, u, v, g, pw, kp, o, rfl, hz, hR, ho⟩ := h
  obtain ⟨⟨k1, k2, k3, k4, k5, k6⟩, a2, a3, a4, a5, a6, a7, a8, a9, a10⟩ := id hR
  have hg : g.2 ≤ 18 := by have e : gc.2 = g.2 := a6.1; rw [← e]; exact k2
  have h40 : o.2.1 ≤ 40 := by have e : ld = o.2.1 := a8; rw [← e]; exact k1
  refine j_aload_n 1 dL_law_128 rfl rfl ?_
  refine j_aload_n 0 dL_law_129 rfl rfl ?_
  refine j_iload_n 3 dL_law_130 rfl rfl ?_
  refine j_iconst (v := nI 1) dL_law_131 (by decide) ?_
  refine j_iadd dL_law_132 ?_
  refine j_topi (nI_add i 1) ?_
  refine j_sld hX (by omega) hL dL_law_133 ?_
  refine j_callV (As := [.int (xs (i + 1))]) (rest := []) (wr := mb x q u v g pw kp o) (tX5_letter l x A a r ik hr ld gc uc vc uk vk k1 k2 k3 k4 k5 k6 (xs (i + 1)) z hz) kX5_letter vL_13 0 rfl rfl rfl dL_law_134 (by decide) (Nat.le_of_eq (Nat.zero_add _)) (Nat.le_of_eq (Nat.zero_add _)) rfl rfl (Nat.le_of_ble_eq_true rfl) (List.Perm.refl _) (fun v9 w9 hv9 => ?_)
  obtain ⟨rfl, z', hz', rfl⟩ := hv9
  refine j_eq (lv' := [(0, .ref b), (1, .ref (A 0 0)), (2, .ref (q 0)), (3, .int (nI i))]) (st' := [.int ((kLetter (ik, hr, ld) gc uc vc uk vk (xs (i + 1))).1)]) (ws' := cw x A a r (kLetter (ik, hr, ld) gc uc vc uk vk (xs (i + 1))).2 z' ++ mb x q u v g pw kp o) rfl rfl rfl ?_
  refine j_aload_n 2 dL_law_137 rfl rfl ?_
  refine j_aload_n 0 dL_law_138 rfl rfl ?_
  refine j_iload_n 3 dL_law_139 rfl rfl ?_
  refine j_iconst (v := nI 1) dL_law_140 (by decide) ?_
  refine j_iadd dL_law_141 ?_
  refine j_topi (nI_add i 1) ?_
  refine j_sld hX (by omega) hL dL_law_142 ?_
  refine j_callV (As := [.int (xs (i + 1))]) (rest := [.int ((kLetter (ik, hr, ld) gc uc vc uk vk (xs (i + 1))).1)]) (wr := cw x A a r (kLetter (ik, hr, ld) gc uc vc uk vk (xs (i + 1))).2 z') (tX6_letter l x q u v g pw kp o hg (xs (i + 1))) kX6_letter vL_17 0 rfl rfl rfl dL_law_143 (by decide) (Nat.le_of_eq (Nat.zero_add _)) (Nat.le_of_eq (Nat.zero_add _)) rfl rfl (Nat.le_of_ble_eq_true rfl) List.perm_append_comm (fun v9 w9 hv9 => ?_)
  obtain ⟨rfl, rfl⟩ := hv9
  have hE : (kLetter (ik, hr, ld) gc uc vc uk vk (xs (i + 1))).1 = (kLetter (false, o.1, o.2.1) g u v u v (xs (i + 1))).1 := (R_letter hR (xs (i + 1))).1
  refine j_eq (lv' := [(0, .ref b), (1, .ref (A 0 0)), (2, .ref (q 0)), (3, .int (nI i))]) (st' := [.int ((kLetter (false, o.1, o.2.1) g u v u v (xs (i + 1))).1), .int ((kLetter (ik, hr, ld) gc uc vc uk vk (xs (i + 1))).1)]) (ws' := mb x q u v (kLetter (false, o.1, o.2.1) g u v u v (xs (i + 1))).2.2.1 pw kp o ++ cw x A a r (kLetter (ik, hr, ld) gc uc vc uk vk (xs (i + 1))).2 z') rfl rfl rfl ?_
  refine j_perm _ List.perm_append_comm ?_
  refine j_icmp_eq (tgt := 579) dL_law_146 (by decide) (fun _ => ?_) (fun h9 => absurd hE h9)
  exact kk _ ⟨(kLetter (ik, hr, ld) gc uc vc uk vk (xs (i + 1))).2, z', u, v, (kLetter (false, o.1, o.2.1) g u v u v (xs (i + 1))).2.2.1, pw, kp, o, rfl, hz', (R_letter hR (xs (i + 1))).2, Nat.le_succ_of_le ho⟩
set_option maxHeartbeats 4000000 in
set_option maxRecDepth 100000 in
theorem lc_blank {M : Mx} {l : Launch} {x : Cx} {b L : Nat} {xs : Nat → Int32} (hX : jX M b L xs) {A a : Nat → Nat → Nat} {r q : Nat → Nat} {i : Nat} (hi : i + 4 ≤ L) (hL : L ≤ 256) {ws : va_W} (h : LI x A a r q i ws) (kk : ∀ ws', LI x A a r q (i + 1) ws' → J M l x cL_law 4 yL_law 12 pL1 0 0 579 [(0, .ref b), (1, .ref (A 0 0)), (2, .ref (q 0)), (3, .int (nI i))] [] ws') : J M l x cL_law 4 yL_law 12 pL1 0 0 151 [(0, .ref b), (1, .ref (A 0 0)), (2, .ref (q 0)), (3, .int (nI i))] [] ws := by
  obtain ⟨⟨⟨ik, hr, ld⟩, gc, uc, vc, uk, vk⟩, z, u, v, g, pw, kp, o, rfl, hz, hR, ho⟩ := h
  obtain ⟨⟨k1, k2, k3, k4, k5, k6⟩, a2, a3, a4, a5, a6, a7, a8, a9, a10⟩ := id hR
  have hg : g.2 ≤ 18 := by have e : gc.2 = g.2 := a6.1; rw [← e]; exact k2
  have h40 : o.2.1 ≤ 40 := by have e : ld = o.2.1 := a8; rw [← e]; exact k1
  refine j_aload_n 1 dL_law_151 rfl rfl ?_
  refine j_callV (As := []) (rest := []) (wr := mb x q u v g pw kp o) (tX5_blank l x A a r ik hr ld gc uc vc uk vk k1 k2 k3 k4 k5 k6 z hz) kX5_blank vL_18 0 rfl rfl rfl dL_law_152 (by decide) (Nat.le_of_eq (Nat.zero_add _)) (Nat.le_of_eq (Nat.zero_add _)) rfl rfl (Nat.le_of_ble_eq_true rfl) (List.Perm.refl _) (fun v9 w9 hv9 => ?_)
  obtain ⟨rfl, z', hz', rfl⟩ := hv9
  refine j_eq (lv' := [(0, .ref b), (1, .ref (A 0 0)), (2, .ref (q 0)), (3, .int (nI i))]) (st' := [.int ((kBlank (ik, hr, ld) gc uc vc uk vk).1)]) (ws' := cw x A a r (kBlank (ik, hr, ld) gc uc vc uk vk).2 z' ++ mb x q u v g pw kp o) rfl rfl rfl ?_
  refine j_aload_n 2 dL_law_155 rfl rfl ?_
  refine j_callV (As := []) (rest := [.int ((kBlank (ik, hr, ld) gc uc vc uk vk).1)]) (wr := cw x A a r (kBlank (ik, hr, ld) gc uc vc uk vk).2 z') (tX6_blank l x q u v g pw kp o hg) kX6_blank vL_22 0 rfl rfl rfl dL_law_156 (by decide) (Nat.le_of_eq (Nat.zero_add _)) (Nat.le_of_eq (Nat.zero_add _)) rfl rfl (Nat.le_of_ble_eq_true rfl) List.perm_append_comm (fun v9 w9 hv9 => ?_)
  obtain ⟨rfl, rfl⟩ := hv9
  have hE : (kBlank (ik, hr, ld) gc uc vc uk vk).1 = nI g.2 := (R_blank hR).1
  refine j_eq (lv' := [(0, .ref b), (1, .ref (A 0 0)), (2, .ref (q 0)), (3, .int (nI i))]) (st' := [.int (nI g.2), .int ((kBlank (ik, hr, ld) gc uc vc uk vk).1)]) (ws' := mb x q u v (g.1, 0) pw kp o ++ cw x A a r (kBlank (ik, hr, ld) gc uc vc uk vk).2 z') rfl rfl rfl ?_
  refine j_perm _ List.perm_append_comm ?_
  refine j_icmp_eq (tgt := 579) dL_law_159 (by decide) (fun _ => ?_) (fun h9 => absurd hE h9)
  exact kk _ ⟨(kBlank (ik, hr, ld) gc uc vc uk vk).2, z', u, v, (g.1, 0), pw, kp, o, rfl, hz', (R_blank hR).2, Nat.le_succ_of_le ho⟩
set_option maxHeartbeats 4000000 in
set_option maxRecDepth 100000 in
theorem lc_fault {M : Mx} {l : Launch} {x : Cx} {b L : Nat} {xs : Nat → Int32} (hX : jX M b L xs) {A a : Nat → Nat → Nat} {r q : Nat → Nat} {i : Nat} (hi : i + 4 ≤ L) (hL : L ≤ 256) {ws : va_W} (h : LI x A a r q i ws) (kk : ∀ ws', LI x A a r q (i + 1) ws' → J M l x cL_law 4 yL_law 12 pL1 0 0 579 [(0, .ref b), (1, .ref (A 0 0)), (2, .ref (q 0)), (3, .int (nI i))] [] ws') : J M l x cL_law 4 yL_law 12 pL1 0 0 164 [(0, .ref b), (1, .ref (A 0 0)), (2, .ref (q 0)), (3, .int (nI i))] [] ws := by
  obtain ⟨⟨⟨ik, hr, ld⟩, gc, uc, vc, uk, vk⟩, z, u, v, g, pw, kp, o, rfl, hz, hR, ho⟩ := h
  obtain ⟨⟨k1, k2, k3, k4, k5, k6⟩, a2, a3, a4, a5, a6, a7, a8, a9, a10⟩ := id hR
  have hg : g.2 ≤ 18 := by have e : gc.2 = g.2 := a6.1; rw [← e]; exact k2
  have h40 : o.2.1 ≤ 40 := by have e : ld = o.2.1 := a8; rw [← e]; exact k1
  refine j_aload_n 1 dL_law_164 rfl rfl ?_
  refine j_callV (As := []) (rest := []) (wr := mb x q u v g pw kp o) (tX5_fault l x A a r ik hr ld gc uc vc uk vk k1 k2 k3 k4 k5 k6 z hz) kX5_fault vL_23 0 rfl rfl rfl dL_law_165 (by decide) (Nat.le_of_eq (Nat.zero_add _)) (Nat.le_of_eq (Nat.zero_add _)) rfl rfl (Nat.le_of_ble_eq_true rfl) (List.Perm.refl _) (fun v9 w9 hv9 => ?_)
  obtain ⟨rfl, z', hz', rfl⟩ := hv9
  refine j_eq (lv' := [(0, .ref b), (1, .ref (A 0 0)), (2, .ref (q 0)), (3, .int (nI i))]) (st' := [.int ((kFault (ik, hr, ld) gc uc vc uk vk).1)]) (ws' := cw x A a r (kFault (ik, hr, ld) gc uc vc uk vk).2 z' ++ mb x q u v g pw kp o) rfl rfl rfl ?_
  refine j_aload_n 2 dL_law_168 rfl rfl ?_
  refine j_callV (As := []) (rest := [.int ((kFault (ik, hr, ld) gc uc vc uk vk).1)]) (wr := cw x A a r (kFault (ik, hr, ld) gc uc vc uk vk).2 z') (tX6_fault l x q u v g pw kp o hg) kX6_fault vL_26 0 rfl rfl rfl dL_law_169 (by decide) (Nat.le_of_eq (Nat.zero_add _)) (Nat.le_of_eq (Nat.zero_add _)) rfl rfl (Nat.le_of_ble_eq_true rfl) List.perm_append_comm (fun v9 w9 hv9 => ?_)
  obtain ⟨rfl, pw', rfl⟩ := hv9
  have hE : (kFault (ik, hr, ld) gc uc vc uk vk).1 = nI (ffr g.1 g.2 g.2 0) := (R_fault hR).1
  refine j_eq (lv' := [(0, .ref b), (1, .ref (A 0 0)), (2, .ref (q 0)), (3, .int (nI i))]) (st' := [.int (nI (ffr g.1 g.2 g.2 0)), .int ((kFault (ik, hr, ld) gc uc vc uk vk).1)]) (ws' := mb x q u v g pw' kp o ++ cw x A a r (kFault (ik, hr, ld) gc uc vc uk vk).2 z') rfl rfl rfl ?_
  refine j_perm _ List.perm_append_comm ?_
  refine j_icmp_eq (tgt := 579) dL_law_172 (by decide) (fun _ => ?_) (fun h9 => absurd hE h9)
  exact kk _ ⟨(kFault (ik, hr, ld) gc uc vc uk vk).2, z', u, v, g, pw', kp, o, rfl, hz', (R_fault hR).2, Nat.le_succ_of_le ho⟩
set_option maxHeartbeats 4000000 in
set_option maxRecDepth 100000 in
theorem lc_house {M : Mx} {l : Launch} {x : Cx} {b L : Nat} {xs : Nat → Int32} (hX : jX M b L xs) {A a : Nat → Nat → Nat} {r q : Nat → Nat} {i : Nat} (hi : i + 4 ≤ L) (hL : L ≤ 256) {ws : va_W} (h : LI x A a r q i ws) (kk : ∀ ws', LI x A a r q (i + 1) ws' → J M l x cL_law 4 yL_law 12 pL1 0 0 579 [(0, .ref b), (1, .ref (A 0 0)), (2, .ref (q 0)), (3, .int (nI i))] [] ws') : J M l x cL_law 4 yL_law 12 pL1 0 0 177 [(0, .ref b), (1, .ref (A 0 0)), (2, .ref (q 0)), (3, .int (nI i))] [] ws := by
  obtain ⟨⟨⟨ik, hr, ld⟩, gc, uc, vc, uk, vk⟩, z, u, v, g, pw, kp, o, rfl, hz, hR, ho⟩ := h
  obtain ⟨⟨k1, k2, k3, k4, k5, k6⟩, a2, a3, a4, a5, a6, a7, a8, a9, a10⟩ := id hR
  have hg : g.2 ≤ 18 := by have e : gc.2 = g.2 := a6.1; rw [← e]; exact k2
  have h40 : o.2.1 ≤ 40 := by have e : ld = o.2.1 := a8; rw [← e]; exact k1
  refine j_aload_n 1 dL_law_177 rfl rfl ?_
  refine j_callV (As := []) (rest := []) (wr := mb x q u v g pw kp o) (tX5_house l x A a r ik hr ld gc uc vc uk vk k1 k2 k3 k4 k5 k6 z hz) kX5_house vL_27 0 rfl rfl rfl dL_law_178 (by decide) (Nat.le_of_eq (Nat.zero_add _)) (Nat.le_of_eq (Nat.zero_add _)) rfl rfl (Nat.le_of_ble_eq_true rfl) (List.Perm.refl _) (fun v9 w9 hv9 => ?_)
  obtain ⟨rfl, z', hz', rfl⟩ := hv9
  refine j_eq (lv' := [(0, .ref b), (1, .ref (A 0 0)), (2, .ref (q 0)), (3, .int (nI i))]) (st' := [.int ((kHouse (ik, hr, ld) gc uc vc uk vk).1)]) (ws' := cw x A a r (kHouse (ik, hr, ld) gc uc vc uk vk).2 z' ++ mb x q u v g pw kp o) rfl rfl rfl ?_
  refine j_aload_n 2 dL_law_181 rfl rfl ?_
  refine j_callV (As := []) (rest := [.int ((kHouse (ik, hr, ld) gc uc vc uk vk).1)]) (wr := cw x A a r (kHouse (ik, hr, ld) gc uc vc uk vk).2 z') (uX6_house l x q u v g pw kp o hg) kX6_house vL_30 0 rfl rfl rfl dL_law_182 (by decide) (Nat.le_of_eq (Nat.zero_add _)) (Nat.le_of_eq (Nat.zero_add _)) rfl rfl (Nat.le_of_ble_eq_true rfl) List.perm_append_comm (fun v9 w9 hv9 => ?_)
  obtain ⟨rfl, pw', rfl⟩ := hv9
  have hE : (kHouse (ik, hr, ld) gc uc vc uk vk).1 = (kHouse (false, o.1, o.2.1) g u v u v).1 := (R_house hR).1
  refine j_eq (lv' := [(0, .ref b), (1, .ref (A 0 0)), (2, .ref (q 0)), (3, .int (nI i))]) (st' := [.int ((kHouse (false, o.1, o.2.1) g u v u v).1), .int ((kHouse (ik, hr, ld) gc uc vc uk vk).1)]) (ws' := mb x q (kHouse (false, o.1, o.2.1) g u v u v).2.2.2.1 (kHouse (false, o.1, o.2.1) g u v u v).2.2.2.2.1 (kHouse (false, o.1, o.2.1) g u v u v).2.2.1 pw' kp (setO o (kHouse (false, o.1, o.2.1) g u v u v).2.1.2.1) ++ cw x A a r (kHouse (ik, hr, ld) gc uc vc uk vk).2 z') rfl rfl rfl ?_
  refine j_perm _ List.perm_append_comm ?_
  refine j_icmp_eq (tgt := 579) dL_law_185 (by decide) (fun _ => ?_) (fun h9 => absurd hE h9)
  exact kk _ ⟨(kHouse (ik, hr, ld) gc uc vc uk vk).2, z', (kHouse (false, o.1, o.2.1) g u v u v).2.2.2.1, (kHouse (false, o.1, o.2.1) g u v u v).2.2.2.2.1, (kHouse (false, o.1, o.2.1) g u v u v).2.2.1, pw', kp, (setO o (kHouse (false, o.1, o.2.1) g u v u v).2.1.2.1), rfl, hz', (R_house hR).2, Nat.le_trans (kHouse_n (false, o.1, o.2.1) g u v) (Nat.succ_le_succ ho)⟩
set_option maxHeartbeats 4000000 in
set_option maxRecDepth 100000 in
theorem lc_about {M : Mx} {l : Launch} {x : Cx} {b L : Nat} {xs : Nat → Int32} (hX : jX M b L xs) {A a : Nat → Nat → Nat} {r q : Nat → Nat} {i : Nat} (hi : i + 4 ≤ L) (hL : L ≤ 256) {ws : va_W} (h : LI x A a r q i ws) (kk : ∀ ws', LI x A a r q (i + 1) ws' → J M l x cL_law 4 yL_law 12 pL1 0 0 579 [(0, .ref b), (1, .ref (A 0 0)), (2, .ref (q 0)), (3, .int (nI i))] [] ws') : J M l x cL_law 4 yL_law 12 pL1 0 0 190 [(0, .ref b), (1, .ref (A 0 0)), (2, .ref (q 0)), (3, .int (nI i))] [] ws := by
  obtain ⟨⟨⟨ik, hr, ld⟩, gc, uc, vc, uk, vk⟩, z, u, v, g, pw, kp, o, rfl, hz, hR, ho⟩ := h
  obtain ⟨⟨k1, k2, k3, k4, k5, k6⟩, a2, a3, a4, a5, a6, a7, a8, a9, a10⟩ := id hR
  have hg : g.2 ≤ 18 := by have e : gc.2 = g.2 := a6.1; rw [← e]; exact k2
  have h40 : o.2.1 ≤ 40 := by have e : ld = o.2.1 := a8; rw [← e]; exact k1
  refine j_aload_n 1 dL_law_190 rfl rfl ?_
  refine j_aload_n 0 dL_law_191 rfl rfl ?_
  refine j_iload_n 3 dL_law_192 rfl rfl ?_
  refine j_iconst (v := nI 1) dL_law_193 (by decide) ?_
  refine j_iadd dL_law_194 ?_
  refine j_topi (nI_add i 1) ?_
  refine j_sld hX (by omega) hL dL_law_195 ?_
  refine j_aload_n 0 dL_law_196 rfl rfl ?_
  refine j_iload_n 3 dL_law_197 rfl rfl ?_
  refine j_iconst (v := nI 2) dL_law_198 (by decide) ?_
  refine j_iadd dL_law_199 ?_
  refine j_topi (nI_add i 2) ?_
  refine j_sld hX (by omega) hL dL_law_200 ?_
  refine j_callV (As := [.int (xs (i + 1)), .int (xs (i + 2))]) (rest := []) (wr := mb x q u v g pw kp o) (tX5_about l x A a r ik hr ld gc uc vc uk vk k1 k2 k3 k4 k5 k6 (xs (i + 1)) (xs (i + 2)) z hz) kX5_about vL_31 0 rfl rfl rfl dL_law_201 (by decide) (Nat.le_of_eq (Nat.zero_add _)) (Nat.le_of_eq (Nat.zero_add _)) rfl rfl (Nat.le_of_ble_eq_true rfl) (List.Perm.refl _) (fun v9 w9 hv9 => ?_)
  obtain ⟨rfl, z', hz', rfl⟩ := hv9
  refine j_eq (lv' := [(0, .ref b), (1, .ref (A 0 0)), (2, .ref (q 0)), (3, .int (nI i))]) (st' := [.int (kAbout uc vc (xs (i + 1)) (xs (i + 2)))]) (ws' := cw x A a r ((ik, hr, ld), gc, uc, vc, uk, vk) z' ++ mb x q u v g pw kp o) rfl rfl rfl ?_
  refine j_aload_n 2 dL_law_204 rfl rfl ?_
  refine j_aload_n 0 dL_law_205 rfl rfl ?_
  refine j_iload_n 3 dL_law_206 rfl rfl ?_
  refine j_iconst (v := nI 1) dL_law_207 (by decide) ?_
  refine j_iadd dL_law_208 ?_
  refine j_topi (nI_add i 1) ?_
  refine j_sld hX (by omega) hL dL_law_209 ?_
  refine j_aload_n 0 dL_law_210 rfl rfl ?_
  refine j_iload_n 3 dL_law_211 rfl rfl ?_
  refine j_iconst (v := nI 2) dL_law_212 (by decide) ?_
  refine j_iadd dL_law_213 ?_
  refine j_topi (nI_add i 2) ?_
  refine j_sld hX (by omega) hL dL_law_214 ?_
  refine j_callV (As := [.int (xs (i + 1)), .int (xs (i + 2))]) (rest := [.int (kAbout uc vc (xs (i + 1)) (xs (i + 2)))]) (wr := cw x A a r ((ik, hr, ld), gc, uc, vc, uk, vk) z') (tX6_about l x q u v g pw kp o a3 a5 (xs (i + 1)) (xs (i + 2))) kX6_about vL_35 0 rfl rfl rfl dL_law_215 (by decide) (Nat.le_of_eq (Nat.zero_add _)) (Nat.le_of_eq (Nat.zero_add _)) rfl rfl (Nat.le_of_ble_eq_true rfl) List.perm_append_comm (fun v9 w9 hv9 => ?_)
  obtain ⟨rfl, u', o', hs, rfl⟩ := hv9
  have hE : kAbout uc vc (xs (i + 1)) (xs (i + 2)) = kAbout u v (xs (i + 1)) (xs (i + 2)) := R_about hR (xs (i + 1)) (xs (i + 2))
  refine j_eq (lv' := [(0, .ref b), (1, .ref (A 0 0)), (2, .ref (q 0)), (3, .int (nI i))]) (st' := [.int (kAbout u v (xs (i + 1)) (xs (i + 2))), .int (kAbout uc vc (xs (i + 1)) (xs (i + 2)))]) (ws' := mb x q u' v g pw kp o' ++ cw x A a r ((ik, hr, ld), gc, uc, vc, uk, vk) z') rfl rfl rfl ?_
  refine j_perm _ List.perm_append_comm ?_
  refine j_icmp_eq (tgt := 579) dL_law_218 (by decide) (fun _ => ?_) (fun h9 => absurd hE h9)
  exact kk _ ⟨((ik, hr, ld), gc, uc, vc, uk, vk), z', u', v, g, pw, kp, o', rfl, hz', (hR).sim hs, by rw [hs.2.1]; omega⟩
set_option maxHeartbeats 4000000 in
set_option maxRecDepth 100000 in
theorem lc_as {M : Mx} {l : Launch} {x : Cx} {b L : Nat} {xs : Nat → Int32} (hX : jX M b L xs) {A a : Nat → Nat → Nat} {r q : Nat → Nat} {i : Nat} (hi : i + 4 ≤ L) (hL : L ≤ 256) {ws : va_W} (h : LI x A a r q i ws) (kk : ∀ ws', LI x A a r q (i + 1) ws' → J M l x cL_law 4 yL_law 12 pL1 0 0 579 [(0, .ref b), (1, .ref (A 0 0)), (2, .ref (q 0)), (3, .int (nI i))] [] ws') : J M l x cL_law 4 yL_law 12 pL1 0 0 223 [(0, .ref b), (1, .ref (A 0 0)), (2, .ref (q 0)), (3, .int (nI i))] [] ws := by
  obtain ⟨⟨⟨ik, hr, ld⟩, gc, uc, vc, uk, vk⟩, z, u, v, g, pw, kp, o, rfl, hz, hR, ho⟩ := h
  obtain ⟨⟨k1, k2, k3, k4, k5, k6⟩, a2, a3, a4, a5, a6, a7, a8, a9, a10⟩ := id hR
  have hg : g.2 ≤ 18 := by have e : gc.2 = g.2 := a6.1; rw [← e]; exact k2
  have h40 : o.2.1 ≤ 40 := by have e : ld = o.2.1 := a8; rw [← e]; exact k1
  refine j_aload_n 1 dL_law_223 rfl rfl ?_
  refine j_aload_n 0 dL_law_224 rfl rfl ?_
  refine j_iload_n 3 dL_law_225 rfl rfl ?_
  refine j_iconst (v := nI 1) dL_law_226 (by decide) ?_
  refine j_iadd dL_law_227 ?_
  refine j_topi (nI_add i 1) ?_
  refine j_sld hX (by omega) hL dL_law_228 ?_
  refine j_aload_n 0 dL_law_229 rfl rfl ?_
  refine j_iload_n 3 dL_law_230 rfl rfl ?_
  refine j_iconst (v := nI 2) dL_law_231 (by decide) ?_
  refine j_iadd dL_law_232 ?_
  refine j_topi (nI_add i 2) ?_
  refine j_sld hX (by omega) hL dL_law_233 ?_
  refine j_callV (As := [.int (xs (i + 1)), .int (xs (i + 2))]) (rest := []) (wr := mb x q u v g pw kp o) (tX5_as l x A a r ik hr ld gc uc vc uk vk k1 k2 k3 k4 k5 k6 (xs (i + 1)) (xs (i + 2)) z hz) kX5_as vL_36 0 rfl rfl rfl dL_law_234 (by decide) (Nat.le_of_eq (Nat.zero_add _)) (Nat.le_of_eq (Nat.zero_add _)) rfl rfl (Nat.le_of_ble_eq_true rfl) (List.Perm.refl _) (fun v9 w9 hv9 => ?_)
  obtain ⟨rfl, z', hz', rfl⟩ := hv9
  refine j_eq (lv' := [(0, .ref b), (1, .ref (A 0 0)), (2, .ref (q 0)), (3, .int (nI i))]) (st' := [.int (kAs uc (xs (i + 1)) (xs (i + 2)))]) (ws' := cw x A a r ((ik, hr, ld), gc, uc, vc, uk, vk) z' ++ mb x q u v g pw kp o) rfl rfl rfl ?_
  refine j_aload_n 2 dL_law_237 rfl rfl ?_
  refine j_aload_n 0 dL_law_238 rfl rfl ?_
  refine j_iload_n 3 dL_law_239 rfl rfl ?_
  refine j_iconst (v := nI 1) dL_law_240 (by decide) ?_
  refine j_iadd dL_law_241 ?_
  refine j_topi (nI_add i 1) ?_
  refine j_sld hX (by omega) hL dL_law_242 ?_
  refine j_aload_n 0 dL_law_243 rfl rfl ?_
  refine j_iload_n 3 dL_law_244 rfl rfl ?_
  refine j_iconst (v := nI 2) dL_law_245 (by decide) ?_
  refine j_iadd dL_law_246 ?_
  refine j_topi (nI_add i 2) ?_
  refine j_sld hX (by omega) hL dL_law_247 ?_
  refine j_callV (As := [.int (xs (i + 1)), .int (xs (i + 2))]) (rest := [.int (kAs uc (xs (i + 1)) (xs (i + 2)))]) (wr := cw x A a r ((ik, hr, ld), gc, uc, vc, uk, vk) z') (tX6_as l x q u v g pw kp o a3 (xs (i + 1)) (xs (i + 2))) kX6_as vL_39 0 rfl rfl rfl dL_law_248 (by decide) (Nat.le_of_eq (Nat.zero_add _)) (Nat.le_of_eq (Nat.zero_add _)) rfl rfl (Nat.le_of_ble_eq_true rfl) List.perm_append_comm (fun v9 w9 hv9 => ?_)
  obtain ⟨rfl, rfl⟩ := hv9
  have hE : kAs uc (xs (i + 1)) (xs (i + 2)) = kAs u (xs (i + 1)) (xs (i + 2)) := R_as hR (xs (i + 1)) (xs (i + 2))
  refine j_eq (lv' := [(0, .ref b), (1, .ref (A 0 0)), (2, .ref (q 0)), (3, .int (nI i))]) (st' := [.int (kAs u (xs (i + 1)) (xs (i + 2))), .int (kAs uc (xs (i + 1)) (xs (i + 2)))]) (ws' := mb x q u v g pw kp o ++ cw x A a r ((ik, hr, ld), gc, uc, vc, uk, vk) z') rfl rfl rfl ?_
  refine j_perm _ List.perm_append_comm ?_
  refine j_icmp_eq (tgt := 579) dL_law_251 (by decide) (fun _ => ?_) (fun h9 => absurd hE h9)
  exact kk _ ⟨((ik, hr, ld), gc, uc, vc, uk, vk), z', u, v, g, pw, kp, o, rfl, hz', hR, Nat.le_succ_of_le ho⟩
set_option maxHeartbeats 4000000 in
set_option maxRecDepth 100000 in
theorem lc_bed {M : Mx} {l : Launch} {x : Cx} {b L : Nat} {xs : Nat → Int32} (hX : jX M b L xs) {A a : Nat → Nat → Nat} {r q : Nat → Nat} {i : Nat} (hi : i + 4 ≤ L) (hL : L ≤ 256) {ws : va_W} (h : LI x A a r q i ws) (kk : ∀ ws', LI x A a r q (i + 1) ws' → J M l x cL_law 4 yL_law 12 pL1 0 0 579 [(0, .ref b), (1, .ref (A 0 0)), (2, .ref (q 0)), (3, .int (nI i))] [] ws') : J M l x cL_law 4 yL_law 12 pL1 0 0 256 [(0, .ref b), (1, .ref (A 0 0)), (2, .ref (q 0)), (3, .int (nI i))] [] ws := by
  obtain ⟨⟨⟨ik, hr, ld⟩, gc, uc, vc, uk, vk⟩, z, u, v, g, pw, kp, o, rfl, hz, hR, ho⟩ := h
  obtain ⟨⟨k1, k2, k3, k4, k5, k6⟩, a2, a3, a4, a5, a6, a7, a8, a9, a10⟩ := id hR
  have hg : g.2 ≤ 18 := by have e : gc.2 = g.2 := a6.1; rw [← e]; exact k2
  have h40 : o.2.1 ≤ 40 := by have e : ld = o.2.1 := a8; rw [← e]; exact k1
  refine j_aload_n 1 dL_law_256 rfl rfl ?_
  refine j_callV (As := []) (rest := []) (wr := mb x q u v g pw kp o) (tX5_bed l x A a r ik hr ld gc uc vc uk vk k1 k2 k3 k4 k5 k6 z hz) kX5_bed vL_40 0 rfl rfl rfl dL_law_257 (by decide) (Nat.le_of_eq (Nat.zero_add _)) (Nat.le_of_eq (Nat.zero_add _)) rfl rfl (Nat.le_of_ble_eq_true rfl) (List.Perm.refl _) (fun v9 w9 hv9 => ?_)
  obtain ⟨rfl, z', hz', rfl⟩ := hv9
  refine j_eq (lv' := [(0, .ref b), (1, .ref (A 0 0)), (2, .ref (q 0)), (3, .int (nI i))]) (st' := [.int (kBed uc)]) (ws' := cw x A a r ((ik, hr, ld), gc, uc, vc, uk, vk) z' ++ mb x q u v g pw kp o) rfl rfl rfl ?_
  refine j_aload_n 2 dL_law_260 rfl rfl ?_
  refine j_callV (As := []) (rest := [.int (kBed uc)]) (wr := cw x A a r ((ik, hr, ld), gc, uc, vc, uk, vk) z') (tX6_bed l x q u v g pw kp o a3) kX6_bed vL_43 0 rfl rfl rfl dL_law_261 (by decide) (Nat.le_of_eq (Nat.zero_add _)) (Nat.le_of_eq (Nat.zero_add _)) rfl rfl (Nat.le_of_ble_eq_true rfl) List.perm_append_comm (fun v9 w9 hv9 => ?_)
  obtain ⟨rfl, rfl⟩ := hv9
  have hE : kBed uc = kBed u := R_bed hR
  refine j_eq (lv' := [(0, .ref b), (1, .ref (A 0 0)), (2, .ref (q 0)), (3, .int (nI i))]) (st' := [.int (kBed u), .int (kBed uc)]) (ws' := mb x q u v g pw kp o ++ cw x A a r ((ik, hr, ld), gc, uc, vc, uk, vk) z') rfl rfl rfl ?_
  refine j_perm _ List.perm_append_comm ?_
  refine j_icmp_eq (tgt := 579) dL_law_264 (by decide) (fun _ => ?_) (fun h9 => absurd hE h9)
  exact kk _ ⟨((ik, hr, ld), gc, uc, vc, uk, vk), z', u, v, g, pw, kp, o, rfl, hz', hR, Nat.le_succ_of_le ho⟩
set_option maxHeartbeats 4000000 in
set_option maxRecDepth 100000 in
theorem lc_coffee {M : Mx} {l : Launch} {x : Cx} {b L : Nat} {xs : Nat → Int32} (hX : jX M b L xs) {A a : Nat → Nat → Nat} {r q : Nat → Nat} {i : Nat} (hi : i + 4 ≤ L) (hL : L ≤ 256) {ws : va_W} (h : LI x A a r q i ws) (kk : ∀ ws', LI x A a r q (i + 1) ws' → J M l x cL_law 4 yL_law 12 pL1 0 0 579 [(0, .ref b), (1, .ref (A 0 0)), (2, .ref (q 0)), (3, .int (nI i))] [] ws') : J M l x cL_law 4 yL_law 12 pL1 0 0 269 [(0, .ref b), (1, .ref (A 0 0)), (2, .ref (q 0)), (3, .int (nI i))] [] ws := by
  obtain ⟨⟨⟨ik, hr, ld⟩, gc, uc, vc, uk, vk⟩, z, u, v, g, pw, kp, o, rfl, hz, hR, ho⟩ := h
  obtain ⟨⟨k1, k2, k3, k4, k5, k6⟩, a2, a3, a4, a5, a6, a7, a8, a9, a10⟩ := id hR
  have hg : g.2 ≤ 18 := by have e : gc.2 = g.2 := a6.1; rw [← e]; exact k2
  have h40 : o.2.1 ≤ 40 := by have e : ld = o.2.1 := a8; rw [← e]; exact k1
  refine j_aload_n 1 dL_law_269 rfl rfl ?_
  refine j_aload_n 0 dL_law_270 rfl rfl ?_
  refine j_iload_n 3 dL_law_271 rfl rfl ?_
  refine j_iconst (v := nI 1) dL_law_272 (by decide) ?_
  refine j_iadd dL_law_273 ?_
  refine j_topi (nI_add i 1) ?_
  refine j_sld hX (by omega) hL dL_law_274 ?_
  refine j_callV (As := [.int (xs (i + 1))]) (rest := []) (wr := mb x q u v g pw kp o) (tX5_coffee l x A a r ik hr ld gc uc vc uk vk k1 k2 k3 k4 k5 k6 (xs (i + 1)) z hz) kX5_coffee vL_44 0 rfl rfl rfl dL_law_275 (by decide) (Nat.le_of_eq (Nat.zero_add _)) (Nat.le_of_eq (Nat.zero_add _)) rfl rfl (Nat.le_of_ble_eq_true rfl) (List.Perm.refl _) (fun v9 w9 hv9 => ?_)
  obtain ⟨rfl, z', hz', rfl⟩ := hv9
  refine j_eq (lv' := [(0, .ref b), (1, .ref (A 0 0)), (2, .ref (q 0)), (3, .int (nI i))]) (st' := [.int ((kCoffee (ik, hr, ld) gc uc vc uk vk (xs (i + 1))).1)]) (ws' := cw x A a r (kCoffee (ik, hr, ld) gc uc vc uk vk (xs (i + 1))).2 z' ++ mb x q u v g pw kp o) rfl rfl rfl ?_
  refine j_aload_n 2 dL_law_278 rfl rfl ?_
  refine j_aload_n 0 dL_law_279 rfl rfl ?_
  refine j_iload_n 3 dL_law_280 rfl rfl ?_
  refine j_iconst (v := nI 1) dL_law_281 (by decide) ?_
  refine j_iadd dL_law_282 ?_
  refine j_topi (nI_add i 1) ?_
  refine j_sld hX (by omega) hL dL_law_283 ?_
  refine j_callV (As := [.int (xs (i + 1))]) (rest := [.int ((kCoffee (ik, hr, ld) gc uc vc uk vk (xs (i + 1))).1)]) (wr := cw x A a r (kCoffee (ik, hr, ld) gc uc vc uk vk (xs (i + 1))).2 z') (tX6_coffee l x q u v g pw kp o a3 (xs (i + 1))) kX6_coffee vL_47 0 rfl rfl rfl dL_law_284 (by decide) (Nat.le_of_eq (Nat.zero_add _)) (Nat.le_of_eq (Nat.zero_add _)) rfl rfl (Nat.le_of_ble_eq_true rfl) List.perm_append_comm (fun v9 w9 hv9 => ?_)
  obtain ⟨rfl, rfl⟩ := hv9
  have hE : (kCoffee (ik, hr, ld) gc uc vc uk vk (xs (i + 1))).1 = (kCoffee (false, o.1, o.2.1) g u v u v (xs (i + 1))).1 := (R_coffee hR (xs (i + 1))).1
  refine j_eq (lv' := [(0, .ref b), (1, .ref (A 0 0)), (2, .ref (q 0)), (3, .int (nI i))]) (st' := [.int ((kCoffee (false, o.1, o.2.1) g u v u v (xs (i + 1))).1), .int ((kCoffee (ik, hr, ld) gc uc vc uk vk (xs (i + 1))).1)]) (ws' := mb x q (kCoffee (false, o.1, o.2.1) g u v u v (xs (i + 1))).2.2.2.1 v g pw kp o ++ cw x A a r (kCoffee (ik, hr, ld) gc uc vc uk vk (xs (i + 1))).2 z') rfl rfl rfl ?_
  refine j_perm _ List.perm_append_comm ?_
  refine j_icmp_eq (tgt := 579) dL_law_287 (by decide) (fun _ => ?_) (fun h9 => absurd hE h9)
  exact kk _ ⟨(kCoffee (ik, hr, ld) gc uc vc uk vk (xs (i + 1))).2, z', (kCoffee (false, o.1, o.2.1) g u v u v (xs (i + 1))).2.2.2.1, v, g, pw, kp, o, rfl, hz', (R_coffee hR (xs (i + 1))).2, Nat.le_succ_of_le ho⟩
set_option maxHeartbeats 4000000 in
set_option maxRecDepth 100000 in
theorem lc_lecture {M : Mx} {l : Launch} {x : Cx} {b L : Nat} {xs : Nat → Int32} (hX : jX M b L xs) {A a : Nat → Nat → Nat} {r q : Nat → Nat} {i : Nat} (hi : i + 4 ≤ L) (hL : L ≤ 256) {ws : va_W} (h : LI x A a r q i ws) (kk : ∀ ws', LI x A a r q (i + 1) ws' → J M l x cL_law 4 yL_law 12 pL1 0 0 579 [(0, .ref b), (1, .ref (A 0 0)), (2, .ref (q 0)), (3, .int (nI i))] [] ws') : J M l x cL_law 4 yL_law 12 pL1 0 0 292 [(0, .ref b), (1, .ref (A 0 0)), (2, .ref (q 0)), (3, .int (nI i))] [] ws := by
  obtain ⟨⟨⟨ik, hr, ld⟩, gc, uc, vc, uk, vk⟩, z, u, v, g, pw, kp, o, rfl, hz, hR, ho⟩ := h
  obtain ⟨⟨k1, k2, k3, k4, k5, k6⟩, a2, a3, a4, a5, a6, a7, a8, a9, a10⟩ := id hR
  have hg : g.2 ≤ 18 := by have e : gc.2 = g.2 := a6.1; rw [← e]; exact k2
  have h40 : o.2.1 ≤ 40 := by have e : ld = o.2.1 := a8; rw [← e]; exact k1
  refine j_aload_n 1 dL_law_292 rfl rfl ?_
  refine j_aload_n 0 dL_law_293 rfl rfl ?_
  refine j_iload_n 3 dL_law_294 rfl rfl ?_
  refine j_iconst (v := nI 1) dL_law_295 (by decide) ?_
  refine j_iadd dL_law_296 ?_
  refine j_topi (nI_add i 1) ?_
  refine j_sld hX (by omega) hL dL_law_297 ?_
  refine j_callV (As := [.int (xs (i + 1))]) (rest := []) (wr := mb x q u v g pw kp o) (tX5_lecture l x A a r ik hr ld gc uc vc uk vk k1 k2 k3 k4 k5 k6 (xs (i + 1)) z hz) kX5_lecture vL_48 0 rfl rfl rfl dL_law_298 (by decide) (Nat.le_of_eq (Nat.zero_add _)) (Nat.le_of_eq (Nat.zero_add _)) rfl rfl (Nat.le_of_ble_eq_true rfl) (List.Perm.refl _) (fun v9 w9 hv9 => ?_)
  obtain ⟨rfl, z', hz', rfl⟩ := hv9
  refine j_eq (lv' := [(0, .ref b), (1, .ref (A 0 0)), (2, .ref (q 0)), (3, .int (nI i))]) (st' := [.int ((kLecture (ik, hr, ld) gc uc vc uk vk (xs (i + 1))).1)]) (ws' := cw x A a r (kLecture (ik, hr, ld) gc uc vc uk vk (xs (i + 1))).2 z' ++ mb x q u v g pw kp o) rfl rfl rfl ?_
  refine j_aload_n 2 dL_law_301 rfl rfl ?_
  refine j_aload_n 0 dL_law_302 rfl rfl ?_
  refine j_iload_n 3 dL_law_303 rfl rfl ?_
  refine j_iconst (v := nI 1) dL_law_304 (by decide) ?_
  refine j_iadd dL_law_305 ?_
  refine j_topi (nI_add i 1) ?_
  refine j_sld hX (by omega) hL dL_law_306 ?_
  refine j_callV (As := [.int (xs (i + 1))]) (rest := [.int ((kLecture (ik, hr, ld) gc uc vc uk vk (xs (i + 1))).1)]) (wr := cw x A a r (kLecture (ik, hr, ld) gc uc vc uk vk (xs (i + 1))).2 z') (tX6_lecture l x q u v g pw kp o a3 (xs (i + 1))) kX6_lecture vL_51 0 rfl rfl rfl dL_law_307 (by decide) (Nat.le_of_eq (Nat.zero_add _)) (Nat.le_of_eq (Nat.zero_add _)) rfl rfl (Nat.le_of_ble_eq_true rfl) List.perm_append_comm (fun v9 w9 hv9 => ?_)
  obtain ⟨rfl, rfl⟩ := hv9
  have hE : (kLecture (ik, hr, ld) gc uc vc uk vk (xs (i + 1))).1 = (kLecture (false, o.1, o.2.1) g u v u v (xs (i + 1))).1 := (R_lecture hR (xs (i + 1))).1
  refine j_eq (lv' := [(0, .ref b), (1, .ref (A 0 0)), (2, .ref (q 0)), (3, .int (nI i))]) (st' := [.int ((kLecture (false, o.1, o.2.1) g u v u v (xs (i + 1))).1), .int ((kLecture (ik, hr, ld) gc uc vc uk vk (xs (i + 1))).1)]) (ws' := mb x q (kLecture (false, o.1, o.2.1) g u v u v (xs (i + 1))).2.2.2.1 v g pw kp o ++ cw x A a r (kLecture (ik, hr, ld) gc uc vc uk vk (xs (i + 1))).2 z') rfl rfl rfl ?_
  refine j_perm _ List.perm_append_comm ?_
  refine j_icmp_eq (tgt := 579) dL_law_310 (by decide) (fun _ => ?_) (fun h9 => absurd hE h9)
  exact kk _ ⟨(kLecture (ik, hr, ld) gc uc vc uk vk (xs (i + 1))).2, z', (kLecture (false, o.1, o.2.1) g u v u v (xs (i + 1))).2.2.2.1, v, g, pw, kp, o, rfl, hz', (R_lecture hR (xs (i + 1))).2, Nat.le_succ_of_le ho⟩
set_option maxHeartbeats 4000000 in
set_option maxRecDepth 100000 in
theorem lc_hour {M : Mx} {l : Launch} {x : Cx} {b L : Nat} {xs : Nat → Int32} (hX : jX M b L xs) {A a : Nat → Nat → Nat} {r q : Nat → Nat} {i : Nat} (hi : i + 4 ≤ L) (hL : L ≤ 256) {ws : va_W} (h : LI x A a r q i ws) (kk : ∀ ws', LI x A a r q (i + 1) ws' → J M l x cL_law 4 yL_law 12 pL1 0 0 579 [(0, .ref b), (1, .ref (A 0 0)), (2, .ref (q 0)), (3, .int (nI i))] [] ws') : J M l x cL_law 4 yL_law 12 pL1 0 0 315 [(0, .ref b), (1, .ref (A 0 0)), (2, .ref (q 0)), (3, .int (nI i))] [] ws := by
  obtain ⟨⟨⟨ik, hr, ld⟩, gc, uc, vc, uk, vk⟩, z, u, v, g, pw, kp, o, rfl, hz, hR, ho⟩ := h
  obtain ⟨⟨k1, k2, k3, k4, k5, k6⟩, a2, a3, a4, a5, a6, a7, a8, a9, a10⟩ := id hR
  have hg : g.2 ≤ 18 := by have e : gc.2 = g.2 := a6.1; rw [← e]; exact k2
  have h40 : o.2.1 ≤ 40 := by have e : ld = o.2.1 := a8; rw [← e]; exact k1
  refine j_aload_n 1 dL_law_315 rfl rfl ?_
  refine j_callV (As := []) (rest := []) (wr := mb x q u v g pw kp o) (tX5_hour l x A a r ik hr ld gc uc vc uk vk k1 k2 k3 k4 k5 k6 z hz) kX5_hour vL_52 0 rfl rfl rfl dL_law_316 (by decide) (Nat.le_of_eq (Nat.zero_add _)) (Nat.le_of_eq (Nat.zero_add _)) rfl rfl (Nat.le_of_ble_eq_true rfl) (List.Perm.refl _) (fun v9 w9 hv9 => ?_)
  obtain ⟨rfl, z', hz', rfl⟩ := hv9
  refine j_eq (lv' := [(0, .ref b), (1, .ref (A 0 0)), (2, .ref (q 0)), (3, .int (nI i))]) (st' := [.int ((kHour (ik, hr, ld) gc uc vc uk vk).1)]) (ws' := cw x A a r (kHour (ik, hr, ld) gc uc vc uk vk).2 z' ++ mb x q u v g pw kp o) rfl rfl rfl ?_
  refine j_aload_n 2 dL_law_319 rfl rfl ?_
  refine j_callV (As := []) (rest := [.int ((kHour (ik, hr, ld) gc uc vc uk vk).1)]) (wr := cw x A a r (kHour (ik, hr, ld) gc uc vc uk vk).2 z') (tX6_hour l x q u v g pw kp o a3) kX6_hour vL_55 0 rfl rfl rfl dL_law_320 (by decide) (Nat.le_of_eq (Nat.zero_add _)) (Nat.le_of_eq (Nat.zero_add _)) rfl rfl (Nat.le_of_ble_eq_true rfl) List.perm_append_comm (fun v9 w9 hv9 => ?_)
  obtain ⟨rfl, rfl⟩ := hv9
  have hE : (kHour (ik, hr, ld) gc uc vc uk vk).1 = (kHour (false, o.1, o.2.1) g u v u v).1 := (R_hour hR).1
  refine j_eq (lv' := [(0, .ref b), (1, .ref (A 0 0)), (2, .ref (q 0)), (3, .int (nI i))]) (st' := [.int ((kHour (false, o.1, o.2.1) g u v u v).1), .int ((kHour (ik, hr, ld) gc uc vc uk vk).1)]) (ws' := mb x q (kHour (false, o.1, o.2.1) g u v u v).2.2.2.1 v g pw kp o ++ cw x A a r (kHour (ik, hr, ld) gc uc vc uk vk).2 z') rfl rfl rfl ?_
  refine j_perm _ List.perm_append_comm ?_
  refine j_icmp_eq (tgt := 579) dL_law_323 (by decide) (fun _ => ?_) (fun h9 => absurd hE h9)
  exact kk _ ⟨(kHour (ik, hr, ld) gc uc vc uk vk).2, z', (kHour (false, o.1, o.2.1) g u v u v).2.2.2.1, v, g, pw, kp, o, rfl, hz', (R_hour hR).2, Nat.le_succ_of_le ho⟩
set_option maxHeartbeats 4000000 in
set_option maxRecDepth 100000 in
theorem lc_cups {M : Mx} {l : Launch} {x : Cx} {b L : Nat} {xs : Nat → Int32} (hX : jX M b L xs) {A a : Nat → Nat → Nat} {r q : Nat → Nat} {i : Nat} (hi : i + 4 ≤ L) (hL : L ≤ 256) {ws : va_W} (h : LI x A a r q i ws) (kk : ∀ ws', LI x A a r q (i + 1) ws' → J M l x cL_law 4 yL_law 12 pL1 0 0 579 [(0, .ref b), (1, .ref (A 0 0)), (2, .ref (q 0)), (3, .int (nI i))] [] ws') : J M l x cL_law 4 yL_law 12 pL1 0 0 328 [(0, .ref b), (1, .ref (A 0 0)), (2, .ref (q 0)), (3, .int (nI i))] [] ws := by
  obtain ⟨⟨⟨ik, hr, ld⟩, gc, uc, vc, uk, vk⟩, z, u, v, g, pw, kp, o, rfl, hz, hR, ho⟩ := h
  obtain ⟨⟨k1, k2, k3, k4, k5, k6⟩, a2, a3, a4, a5, a6, a7, a8, a9, a10⟩ := id hR
  have hg : g.2 ≤ 18 := by have e : gc.2 = g.2 := a6.1; rw [← e]; exact k2
  have h40 : o.2.1 ≤ 40 := by have e : ld = o.2.1 := a8; rw [← e]; exact k1
  refine j_aload_n 1 dL_law_328 rfl rfl ?_
  refine j_aload_n 0 dL_law_329 rfl rfl ?_
  refine j_iload_n 3 dL_law_330 rfl rfl ?_
  refine j_iconst (v := nI 1) dL_law_331 (by decide) ?_
  refine j_iadd dL_law_332 ?_
  refine j_topi (nI_add i 1) ?_
  refine j_sld hX (by omega) hL dL_law_333 ?_
  refine j_aload_n 0 dL_law_334 rfl rfl ?_
  refine j_iload_n 3 dL_law_335 rfl rfl ?_
  refine j_iconst (v := nI 2) dL_law_336 (by decide) ?_
  refine j_iadd dL_law_337 ?_
  refine j_topi (nI_add i 2) ?_
  refine j_sld hX (by omega) hL dL_law_338 ?_
  refine j_callV (As := [.int (xs (i + 1)), .int (xs (i + 2))]) (rest := []) (wr := mb x q u v g pw kp o) (tX5_cups l x A a r ik hr ld gc uc vc uk vk k1 k2 k3 k4 k5 k6 (xs (i + 1)) (xs (i + 2)) z hz) kX5_cups vL_56 0 rfl rfl rfl dL_law_339 (by decide) (Nat.le_of_eq (Nat.zero_add _)) (Nat.le_of_eq (Nat.zero_add _)) rfl rfl (Nat.le_of_ble_eq_true rfl) (List.Perm.refl _) (fun v9 w9 hv9 => ?_)
  obtain ⟨rfl, z', hz', rfl⟩ := hv9
  refine j_eq (lv' := [(0, .ref b), (1, .ref (A 0 0)), (2, .ref (q 0)), (3, .int (nI i))]) (st' := [.int (kCups uc (xs (i + 1)) (xs (i + 2)))]) (ws' := cw x A a r ((ik, hr, ld), gc, uc, vc, uk, vk) z' ++ mb x q u v g pw kp o) rfl rfl rfl ?_
  refine j_aload_n 2 dL_law_342 rfl rfl ?_
  refine j_aload_n 0 dL_law_343 rfl rfl ?_
  refine j_iload_n 3 dL_law_344 rfl rfl ?_
  refine j_iconst (v := nI 1) dL_law_345 (by decide) ?_
  refine j_iadd dL_law_346 ?_
  refine j_topi (nI_add i 1) ?_
  refine j_sld hX (by omega) hL dL_law_347 ?_
  refine j_aload_n 0 dL_law_348 rfl rfl ?_
  refine j_iload_n 3 dL_law_349 rfl rfl ?_
  refine j_iconst (v := nI 2) dL_law_350 (by decide) ?_
  refine j_iadd dL_law_351 ?_
  refine j_topi (nI_add i 2) ?_
  refine j_sld hX (by omega) hL dL_law_352 ?_
  refine j_callV (As := [.int (xs (i + 1)), .int (xs (i + 2))]) (rest := [.int (kCups uc (xs (i + 1)) (xs (i + 2)))]) (wr := cw x A a r ((ik, hr, ld), gc, uc, vc, uk, vk) z') (tX6_cups l x q u v g pw kp o a3 (xs (i + 1)) (xs (i + 2))) kX6_cups vL_59 0 rfl rfl rfl dL_law_353 (by decide) (Nat.le_of_eq (Nat.zero_add _)) (Nat.le_of_eq (Nat.zero_add _)) rfl rfl (Nat.le_of_ble_eq_true rfl) List.perm_append_comm (fun v9 w9 hv9 => ?_)
  obtain ⟨rfl, u', o', hs, rfl⟩ := hv9
  have hE : kCups uc (xs (i + 1)) (xs (i + 2)) = kCups u (xs (i + 1)) (xs (i + 2)) := R_cups hR (xs (i + 1)) (xs (i + 2))
  refine j_eq (lv' := [(0, .ref b), (1, .ref (A 0 0)), (2, .ref (q 0)), (3, .int (nI i))]) (st' := [.int (kCups u (xs (i + 1)) (xs (i + 2))), .int (kCups uc (xs (i + 1)) (xs (i + 2)))]) (ws' := mb x q u' v g pw kp o' ++ cw x A a r ((ik, hr, ld), gc, uc, vc, uk, vk) z') rfl rfl rfl ?_
  refine j_perm _ List.perm_append_comm ?_
  refine j_icmp_eq (tgt := 579) dL_law_356 (by decide) (fun _ => ?_) (fun h9 => absurd hE h9)
  exact kk _ ⟨((ik, hr, ld), gc, uc, vc, uk, vk), z', u', v, g, pw, kp, o', rfl, hz', (hR).sim hs, by rw [hs.2.1]; omega⟩
set_option maxHeartbeats 4000000 in
set_option maxRecDepth 100000 in
theorem lc_lectures {M : Mx} {l : Launch} {x : Cx} {b L : Nat} {xs : Nat → Int32} (hX : jX M b L xs) {A a : Nat → Nat → Nat} {r q : Nat → Nat} {i : Nat} (hi : i + 4 ≤ L) (hL : L ≤ 256) {ws : va_W} (h : LI x A a r q i ws) (kk : ∀ ws', LI x A a r q (i + 1) ws' → J M l x cL_law 4 yL_law 12 pL1 0 0 579 [(0, .ref b), (1, .ref (A 0 0)), (2, .ref (q 0)), (3, .int (nI i))] [] ws') : J M l x cL_law 4 yL_law 12 pL1 0 0 361 [(0, .ref b), (1, .ref (A 0 0)), (2, .ref (q 0)), (3, .int (nI i))] [] ws := by
  obtain ⟨⟨⟨ik, hr, ld⟩, gc, uc, vc, uk, vk⟩, z, u, v, g, pw, kp, o, rfl, hz, hR, ho⟩ := h
  obtain ⟨⟨k1, k2, k3, k4, k5, k6⟩, a2, a3, a4, a5, a6, a7, a8, a9, a10⟩ := id hR
  have hg : g.2 ≤ 18 := by have e : gc.2 = g.2 := a6.1; rw [← e]; exact k2
  have h40 : o.2.1 ≤ 40 := by have e : ld = o.2.1 := a8; rw [← e]; exact k1
  refine j_aload_n 1 dL_law_361 rfl rfl ?_
  refine j_aload_n 0 dL_law_362 rfl rfl ?_
  refine j_iload_n 3 dL_law_363 rfl rfl ?_
  refine j_iconst (v := nI 1) dL_law_364 (by decide) ?_
  refine j_iadd dL_law_365 ?_
  refine j_topi (nI_add i 1) ?_
  refine j_sld hX (by omega) hL dL_law_366 ?_
  refine j_aload_n 0 dL_law_367 rfl rfl ?_
  refine j_iload_n 3 dL_law_368 rfl rfl ?_
  refine j_iconst (v := nI 2) dL_law_369 (by decide) ?_
  refine j_iadd dL_law_370 ?_
  refine j_topi (nI_add i 2) ?_
  refine j_sld hX (by omega) hL dL_law_371 ?_
  refine j_aload_n 0 dL_law_372 rfl rfl ?_
  refine j_iload_n 3 dL_law_373 rfl rfl ?_
  refine j_iconst (v := nI 3) dL_law_374 (by decide) ?_
  refine j_iadd dL_law_375 ?_
  refine j_topi (nI_add i 3) ?_
  refine j_sld hX (by omega) hL dL_law_376 ?_
  refine j_callV (As := [.int (xs (i + 1)), .int (xs (i + 2)), .int (xs (i + 3))]) (rest := []) (wr := mb x q u v g pw kp o) (tX5_lectures l x A a r ik hr ld gc uc vc uk vk k1 k2 k3 k4 k5 k6 (xs (i + 1)) (xs (i + 2)) (xs (i + 3)) z hz) kX5_lectures vL_60 0 rfl rfl rfl dL_law_377 (by decide) (Nat.le_of_eq (Nat.zero_add _)) (Nat.le_of_eq (Nat.zero_add _)) rfl rfl (Nat.le_of_ble_eq_true rfl) (List.Perm.refl _) (fun v9 w9 hv9 => ?_)
  obtain ⟨rfl, z', hz', rfl⟩ := hv9
  refine j_eq (lv' := [(0, .ref b), (1, .ref (A 0 0)), (2, .ref (q 0)), (3, .int (nI i))]) (st' := [.int ((kLectures (ik, hr, ld) gc uc vc uk vk (xs (i + 1)) (xs (i + 2)) (xs (i + 3))).1)]) (ws' := cw x A a r (kLectures (ik, hr, ld) gc uc vc uk vk (xs (i + 1)) (xs (i + 2)) (xs (i + 3))).2 z' ++ mb x q u v g pw kp o) rfl rfl rfl ?_
  refine j_aload_n 2 dL_law_380 rfl rfl ?_
  refine j_aload_n 0 dL_law_381 rfl rfl ?_
  refine j_iload_n 3 dL_law_382 rfl rfl ?_
  refine j_iconst (v := nI 1) dL_law_383 (by decide) ?_
  refine j_iadd dL_law_384 ?_
  refine j_topi (nI_add i 1) ?_
  refine j_sld hX (by omega) hL dL_law_385 ?_
  refine j_aload_n 0 dL_law_386 rfl rfl ?_
  refine j_iload_n 3 dL_law_387 rfl rfl ?_
  refine j_iconst (v := nI 2) dL_law_388 (by decide) ?_
  refine j_iadd dL_law_389 ?_
  refine j_topi (nI_add i 2) ?_
  refine j_sld hX (by omega) hL dL_law_390 ?_
  refine j_aload_n 0 dL_law_391 rfl rfl ?_
  refine j_iload_n 3 dL_law_392 rfl rfl ?_
  refine j_iconst (v := nI 3) dL_law_393 (by decide) ?_
  refine j_iadd dL_law_394 ?_
  refine j_topi (nI_add i 3) ?_
  refine j_sld hX (by omega) hL dL_law_395 ?_
  refine j_callV (As := [.int (xs (i + 1)), .int (xs (i + 2)), .int (xs (i + 3))]) (rest := [.int ((kLectures (ik, hr, ld) gc uc vc uk vk (xs (i + 1)) (xs (i + 2)) (xs (i + 3))).1)]) (wr := cw x A a r (kLectures (ik, hr, ld) gc uc vc uk vk (xs (i + 1)) (xs (i + 2)) (xs (i + 3))).2 z') (tX6_lectures l x q u v g pw kp o a3 h40 (xs (i + 1)) (xs (i + 2)) (xs (i + 3))) kX6_lectures vL_64 0 rfl rfl rfl dL_law_396 (by decide) (Nat.le_of_eq (Nat.zero_add _)) (Nat.le_of_eq (Nat.zero_add _)) rfl rfl (Nat.le_of_ble_eq_true rfl) List.perm_append_comm (fun v9 w9 hv9 => ?_)
  obtain ⟨rfl, u', o', hs, rfl⟩ := hv9
  have hE : (kLectures (ik, hr, ld) gc uc vc uk vk (xs (i + 1)) (xs (i + 2)) (xs (i + 3))).1 = (kLectures (false, o.1, o.2.1) g u v u v (xs (i + 1)) (xs (i + 2)) (xs (i + 3))).1 := (R_lectures hR (xs (i + 1)) (xs (i + 2)) (xs (i + 3))).1
  refine j_eq (lv' := [(0, .ref b), (1, .ref (A 0 0)), (2, .ref (q 0)), (3, .int (nI i))]) (st' := [.int ((kLectures (false, o.1, o.2.1) g u v u v (xs (i + 1)) (xs (i + 2)) (xs (i + 3))).1), .int ((kLectures (ik, hr, ld) gc uc vc uk vk (xs (i + 1)) (xs (i + 2)) (xs (i + 3))).1)]) (ws' := mb x q u' v g pw kp o' ++ cw x A a r (kLectures (ik, hr, ld) gc uc vc uk vk (xs (i + 1)) (xs (i + 2)) (xs (i + 3))).2 z') rfl rfl rfl ?_
  refine j_perm _ List.perm_append_comm ?_
  refine j_icmp_eq (tgt := 579) dL_law_399 (by decide) (fun _ => ?_) (fun h9 => absurd hE h9)
  exact kk _ ⟨(kLectures (ik, hr, ld) gc uc vc uk vk (xs (i + 1)) (xs (i + 2)) (xs (i + 3))).2, z', u', v, g, pw, kp, o', rfl, hz', ((R_lectures hR (xs (i + 1)) (xs (i + 2)) (xs (i + 3))).2).sim hs, by rw [hs.2.1]; exact Nat.le_succ_of_le ho⟩
set_option maxHeartbeats 4000000 in
set_option maxRecDepth 100000 in
theorem lc_sunday {M : Mx} {l : Launch} {x : Cx} {b L : Nat} {xs : Nat → Int32} (hX : jX M b L xs) {A a : Nat → Nat → Nat} {r q : Nat → Nat} {i : Nat} (hi : i + 4 ≤ L) (hL : L ≤ 256) {ws : va_W} (h : LI x A a r q i ws) (kk : ∀ ws', LI x A a r q (i + 1) ws' → J M l x cL_law 4 yL_law 12 pL1 0 0 579 [(0, .ref b), (1, .ref (A 0 0)), (2, .ref (q 0)), (3, .int (nI i))] [] ws') : J M l x cL_law 4 yL_law 12 pL1 0 0 404 [(0, .ref b), (1, .ref (A 0 0)), (2, .ref (q 0)), (3, .int (nI i))] [] ws := by
  obtain ⟨⟨⟨ik, hr, ld⟩, gc, uc, vc, uk, vk⟩, z, u, v, g, pw, kp, o, rfl, hz, hR, ho⟩ := h
  obtain ⟨⟨k1, k2, k3, k4, k5, k6⟩, a2, a3, a4, a5, a6, a7, a8, a9, a10⟩ := id hR
  have hg : g.2 ≤ 18 := by have e : gc.2 = g.2 := a6.1; rw [← e]; exact k2
  have h40 : o.2.1 ≤ 40 := by have e : ld = o.2.1 := a8; rw [← e]; exact k1
  refine j_aload_n 1 dL_law_404 rfl rfl ?_
  refine j_aload_n 0 dL_law_405 rfl rfl ?_
  refine j_iload_n 3 dL_law_406 rfl rfl ?_
  refine j_iconst (v := nI 1) dL_law_407 (by decide) ?_
  refine j_iadd dL_law_408 ?_
  refine j_topi (nI_add i 1) ?_
  refine j_sld hX (by omega) hL dL_law_409 ?_
  refine j_callV (As := [.int (xs (i + 1))]) (rest := []) (wr := mb x q u v g pw kp o) (tX5_sunday l x A a r ik hr ld gc uc vc uk vk k1 k2 k3 k4 k5 k6 (xs (i + 1)) z hz) kX5_sunday vL_65 0 rfl rfl rfl dL_law_410 (by decide) (Nat.le_of_eq (Nat.zero_add _)) (Nat.le_of_eq (Nat.zero_add _)) rfl rfl (Nat.le_of_ble_eq_true rfl) (List.Perm.refl _) (fun v9 w9 hv9 => ?_)
  obtain ⟨rfl, z', hz', rfl⟩ := hv9
  refine j_eq (lv' := [(0, .ref b), (1, .ref (A 0 0)), (2, .ref (q 0)), (3, .int (nI i))]) (st' := [.int (kSunday uc (xs (i + 1)))]) (ws' := cw x A a r ((ik, hr, ld), gc, uc, vc, uk, vk) z' ++ mb x q u v g pw kp o) rfl rfl rfl ?_
  refine j_aload_n 2 dL_law_413 rfl rfl ?_
  refine j_aload_n 0 dL_law_414 rfl rfl ?_
  refine j_iload_n 3 dL_law_415 rfl rfl ?_
  refine j_iconst (v := nI 1) dL_law_416 (by decide) ?_
  refine j_iadd dL_law_417 ?_
  refine j_topi (nI_add i 1) ?_
  refine j_sld hX (by omega) hL dL_law_418 ?_
  refine j_callV (As := [.int (xs (i + 1))]) (rest := [.int (kSunday uc (xs (i + 1)))]) (wr := cw x A a r ((ik, hr, ld), gc, uc, vc, uk, vk) z') (tX6_sunday l x q u v g pw kp o a3 (xs (i + 1))) kX6_sunday vL_68 0 rfl rfl rfl dL_law_419 (by decide) (Nat.le_of_eq (Nat.zero_add _)) (Nat.le_of_eq (Nat.zero_add _)) rfl rfl (Nat.le_of_ble_eq_true rfl) List.perm_append_comm (fun v9 w9 hv9 => ?_)
  obtain ⟨rfl, rfl⟩ := hv9
  have hE : kSunday uc (xs (i + 1)) = kSunday u (xs (i + 1)) := R_sunday hR (xs (i + 1))
  refine j_eq (lv' := [(0, .ref b), (1, .ref (A 0 0)), (2, .ref (q 0)), (3, .int (nI i))]) (st' := [.int (kSunday u (xs (i + 1))), .int (kSunday uc (xs (i + 1)))]) (ws' := mb x q u v g pw kp o ++ cw x A a r ((ik, hr, ld), gc, uc, vc, uk, vk) z') rfl rfl rfl ?_
  refine j_perm _ List.perm_append_comm ?_
  refine j_icmp_eq (tgt := 579) dL_law_422 (by decide) (fun _ => ?_) (fun h9 => absurd hE h9)
  exact kk _ ⟨((ik, hr, ld), gc, uc, vc, uk, vk), z', u, v, g, pw, kp, o, rfl, hz', hR, Nat.le_succ_of_le ho⟩
set_option maxHeartbeats 4000000 in
set_option maxRecDepth 100000 in
theorem lc_see {M : Mx} {l : Launch} {x : Cx} {b L : Nat} {xs : Nat → Int32} (hX : jX M b L xs) {A a : Nat → Nat → Nat} {r q : Nat → Nat} {i : Nat} (hi : i + 4 ≤ L) (hL : L ≤ 256) {ws : va_W} (h : LI x A a r q i ws) (kk : ∀ ws', LI x A a r q (i + 1) ws' → J M l x cL_law 4 yL_law 12 pL1 0 0 579 [(0, .ref b), (1, .ref (A 0 0)), (2, .ref (q 0)), (3, .int (nI i))] [] ws') : J M l x cL_law 4 yL_law 12 pL1 0 0 427 [(0, .ref b), (1, .ref (A 0 0)), (2, .ref (q 0)), (3, .int (nI i))] [] ws := by
  obtain ⟨⟨⟨ik, hr, ld⟩, gc, uc, vc, uk, vk⟩, z, u, v, g, pw, kp, o, rfl, hz, hR, ho⟩ := h
  obtain ⟨⟨k1, k2, k3, k4, k5, k6⟩, a2, a3, a4, a5, a6, a7, a8, a9, a10⟩ := id hR
  have hg : g.2 ≤ 18 := by have e : gc.2 = g.2 := a6.1; rw [← e]; exact k2
  have h40 : o.2.1 ≤ 40 := by have e : ld = o.2.1 := a8; rw [← e]; exact k1
  refine j_aload_n 1 dL_law_427 rfl rfl ?_
  refine j_aload_n 0 dL_law_428 rfl rfl ?_
  refine j_iload_n 3 dL_law_429 rfl rfl ?_
  refine j_iconst (v := nI 1) dL_law_430 (by decide) ?_
  refine j_iadd dL_law_431 ?_
  refine j_topi (nI_add i 1) ?_
  refine j_sld hX (by omega) hL dL_law_432 ?_
  refine j_aload_n 0 dL_law_433 rfl rfl ?_
  refine j_iload_n 3 dL_law_434 rfl rfl ?_
  refine j_iconst (v := nI 2) dL_law_435 (by decide) ?_
  refine j_iadd dL_law_436 ?_
  refine j_topi (nI_add i 2) ?_
  refine j_sld hX (by omega) hL dL_law_437 ?_
  refine j_callV (As := [.int (xs (i + 1)), .int (xs (i + 2))]) (rest := []) (wr := mb x q u v g pw kp o) (tX5_see l x A a r ik hr ld gc uc vc uk vk k1 k2 k3 k4 k5 k6 (xs (i + 1)) (xs (i + 2)) z hz) kX5_see vL_69 0 rfl rfl rfl dL_law_438 (by decide) (Nat.le_of_eq (Nat.zero_add _)) (Nat.le_of_eq (Nat.zero_add _)) rfl rfl (Nat.le_of_ble_eq_true rfl) (List.Perm.refl _) (fun v9 w9 hv9 => ?_)
  obtain ⟨rfl, z', hz', rfl⟩ := hv9
  refine j_eq (lv' := [(0, .ref b), (1, .ref (A 0 0)), (2, .ref (q 0)), (3, .int (nI i))]) (st' := [.int ((kSee (ik, hr, ld) gc uc vc uk vk (xs (i + 1)) (xs (i + 2))).1)]) (ws' := cw x A a r (kSee (ik, hr, ld) gc uc vc uk vk (xs (i + 1)) (xs (i + 2))).2 z' ++ mb x q u v g pw kp o) rfl rfl rfl ?_
  refine j_aload_n 2 dL_law_441 rfl rfl ?_
  refine j_aload_n 0 dL_law_442 rfl rfl ?_
  refine j_iload_n 3 dL_law_443 rfl rfl ?_
  refine j_iconst (v := nI 1) dL_law_444 (by decide) ?_
  refine j_iadd dL_law_445 ?_
  refine j_topi (nI_add i 1) ?_
  refine j_sld hX (by omega) hL dL_law_446 ?_
  refine j_aload_n 0 dL_law_447 rfl rfl ?_
  refine j_iload_n 3 dL_law_448 rfl rfl ?_
  refine j_iconst (v := nI 2) dL_law_449 (by decide) ?_
  refine j_iadd dL_law_450 ?_
  refine j_topi (nI_add i 2) ?_
  refine j_sld hX (by omega) hL dL_law_451 ?_
  refine j_callV (As := [.int (xs (i + 1)), .int (xs (i + 2))]) (rest := [.int ((kSee (ik, hr, ld) gc uc vc uk vk (xs (i + 1)) (xs (i + 2))).1)]) (wr := cw x A a r (kSee (ik, hr, ld) gc uc vc uk vk (xs (i + 1)) (xs (i + 2))).2 z') (tX6_see l x q u v g pw kp o a3 a5.1 (xs (i + 1)) (xs (i + 2))) kX6_see vL_72 0 rfl rfl rfl dL_law_452 (by decide) (Nat.le_of_eq (Nat.zero_add _)) (Nat.le_of_eq (Nat.zero_add _)) rfl rfl (Nat.le_of_ble_eq_true rfl) List.perm_append_comm (fun v9 w9 hv9 => ?_)
  obtain ⟨rfl, rfl⟩ := hv9
  have hE : (kSee (ik, hr, ld) gc uc vc uk vk (xs (i + 1)) (xs (i + 2))).1 = (kSee (false, o.1, o.2.1) g u v u v (xs (i + 1)) (xs (i + 2))).1 := (R_see hR (xs (i + 1)) (xs (i + 2))).1
  refine j_eq (lv' := [(0, .ref b), (1, .ref (A 0 0)), (2, .ref (q 0)), (3, .int (nI i))]) (st' := [.int ((kSee (false, o.1, o.2.1) g u v u v (xs (i + 1)) (xs (i + 2))).1), .int ((kSee (ik, hr, ld) gc uc vc uk vk (xs (i + 1)) (xs (i + 2))).1)]) (ws' := mb x q u (kSee (false, o.1, o.2.1) g u v u v (xs (i + 1)) (xs (i + 2))).2.2.2.2.1 g pw kp o ++ cw x A a r (kSee (ik, hr, ld) gc uc vc uk vk (xs (i + 1)) (xs (i + 2))).2 z') rfl rfl rfl ?_
  refine j_perm _ List.perm_append_comm ?_
  refine j_icmp_eq (tgt := 579) dL_law_455 (by decide) (fun _ => ?_) (fun h9 => absurd hE h9)
  exact kk _ ⟨(kSee (ik, hr, ld) gc uc vc uk vk (xs (i + 1)) (xs (i + 2))).2, z', u, (kSee (false, o.1, o.2.1) g u v u v (xs (i + 1)) (xs (i + 2))).2.2.2.2.1, g, pw, kp, o, rfl, hz', (R_see hR (xs (i + 1)) (xs (i + 2))).2, Nat.le_succ_of_le ho⟩
set_option maxHeartbeats 4000000 in
set_option maxRecDepth 100000 in
theorem lc_forget {M : Mx} {l : Launch} {x : Cx} {b L : Nat} {xs : Nat → Int32} (hX : jX M b L xs) {A a : Nat → Nat → Nat} {r q : Nat → Nat} {i : Nat} (hi : i + 4 ≤ L) (hL : L ≤ 256) {ws : va_W} (h : LI x A a r q i ws) (kk : ∀ ws', LI x A a r q (i + 1) ws' → J M l x cL_law 4 yL_law 12 pL1 0 0 579 [(0, .ref b), (1, .ref (A 0 0)), (2, .ref (q 0)), (3, .int (nI i))] [] ws') : J M l x cL_law 4 yL_law 12 pL1 0 0 460 [(0, .ref b), (1, .ref (A 0 0)), (2, .ref (q 0)), (3, .int (nI i))] [] ws := by
  obtain ⟨⟨⟨ik, hr, ld⟩, gc, uc, vc, uk, vk⟩, z, u, v, g, pw, kp, o, rfl, hz, hR, ho⟩ := h
  obtain ⟨⟨k1, k2, k3, k4, k5, k6⟩, a2, a3, a4, a5, a6, a7, a8, a9, a10⟩ := id hR
  have hg : g.2 ≤ 18 := by have e : gc.2 = g.2 := a6.1; rw [← e]; exact k2
  have h40 : o.2.1 ≤ 40 := by have e : ld = o.2.1 := a8; rw [← e]; exact k1
  refine j_aload_n 1 dL_law_460 rfl rfl ?_
  refine j_callV (As := []) (rest := []) (wr := mb x q u v g pw kp o) (tX5_forget l x A a r ik hr ld gc uc vc uk vk k1 k2 k3 k4 k5 k6 z hz) kX5_forget vL_73 0 rfl rfl rfl dL_law_461 (by decide) (Nat.le_of_eq (Nat.zero_add _)) (Nat.le_of_eq (Nat.zero_add _)) rfl rfl (Nat.le_of_ble_eq_true rfl) (List.Perm.refl _) (fun v9 w9 hv9 => ?_)
  obtain ⟨rfl, z', hz', rfl⟩ := hv9
  refine j_eq (lv' := [(0, .ref b), (1, .ref (A 0 0)), (2, .ref (q 0)), (3, .int (nI i))]) (st' := [.int ((kForget (ik, hr, ld) gc uc vc uk vk).1)]) (ws' := cw x A a r (kForget (ik, hr, ld) gc uc vc uk vk).2 z' ++ mb x q u v g pw kp o) rfl rfl rfl ?_
  refine j_aload_n 2 dL_law_464 rfl rfl ?_
  refine j_callV (As := []) (rest := [.int ((kForget (ik, hr, ld) gc uc vc uk vk).1)]) (wr := cw x A a r (kForget (ik, hr, ld) gc uc vc uk vk).2 z') (tX6_forget l x q u v g pw kp o a3) kX6_forget vL_76 0 rfl rfl rfl dL_law_465 (by decide) (Nat.le_of_eq (Nat.zero_add _)) (Nat.le_of_eq (Nat.zero_add _)) rfl rfl (Nat.le_of_ble_eq_true rfl) List.perm_append_comm (fun v9 w9 hv9 => ?_)
  obtain ⟨rfl, rfl⟩ := hv9
  have hE : (kForget (ik, hr, ld) gc uc vc uk vk).1 = nI v.2.2 := (R_forget hR).1
  refine j_eq (lv' := [(0, .ref b), (1, .ref (A 0 0)), (2, .ref (q 0)), (3, .int (nI i))]) (st' := [.int (nI v.2.2), .int ((kForget (ik, hr, ld) gc uc vc uk vk).1)]) (ws' := mb x q u (v.1, v.2.1, 0) g pw kp o ++ cw x A a r (kForget (ik, hr, ld) gc uc vc uk vk).2 z') rfl rfl rfl ?_
  refine j_perm _ List.perm_append_comm ?_
  refine j_icmp_eq (tgt := 579) dL_law_468 (by decide) (fun _ => ?_) (fun h9 => absurd hE h9)
  exact kk _ ⟨(kForget (ik, hr, ld) gc uc vc uk vk).2, z', u, (v.1, v.2.1, 0), g, pw, kp, o, rfl, hz', (R_forget hR).2, Nat.le_succ_of_le ho⟩
set_option maxHeartbeats 4000000 in
set_option maxRecDepth 100000 in
theorem lc_nights {M : Mx} {l : Launch} {x : Cx} {b L : Nat} {xs : Nat → Int32} (hX : jX M b L xs) {A a : Nat → Nat → Nat} {r q : Nat → Nat} {i : Nat} (hi : i + 4 ≤ L) (hL : L ≤ 256) {ws : va_W} (h : LI x A a r q i ws) (kk : ∀ ws', LI x A a r q (i + 1) ws' → J M l x cL_law 4 yL_law 12 pL1 0 0 579 [(0, .ref b), (1, .ref (A 0 0)), (2, .ref (q 0)), (3, .int (nI i))] [] ws') : J M l x cL_law 4 yL_law 12 pL1 0 0 473 [(0, .ref b), (1, .ref (A 0 0)), (2, .ref (q 0)), (3, .int (nI i))] [] ws := by
  obtain ⟨⟨⟨ik, hr, ld⟩, gc, uc, vc, uk, vk⟩, z, u, v, g, pw, kp, o, rfl, hz, hR, ho⟩ := h
  obtain ⟨⟨k1, k2, k3, k4, k5, k6⟩, a2, a3, a4, a5, a6, a7, a8, a9, a10⟩ := id hR
  have hg : g.2 ≤ 18 := by have e : gc.2 = g.2 := a6.1; rw [← e]; exact k2
  have h40 : o.2.1 ≤ 40 := by have e : ld = o.2.1 := a8; rw [← e]; exact k1
  refine j_aload_n 1 dL_law_473 rfl rfl ?_
  refine j_aload_n 0 dL_law_474 rfl rfl ?_
  refine j_iload_n 3 dL_law_475 rfl rfl ?_
  refine j_iconst (v := nI 1) dL_law_476 (by decide) ?_
  refine j_iadd dL_law_477 ?_
  refine j_topi (nI_add i 1) ?_
  refine j_sld hX (by omega) hL dL_law_478 ?_
  refine j_aload_n 0 dL_law_479 rfl rfl ?_
  refine j_iload_n 3 dL_law_480 rfl rfl ?_
  refine j_iconst (v := nI 2) dL_law_481 (by decide) ?_
  refine j_iadd dL_law_482 ?_
  refine j_topi (nI_add i 2) ?_
  refine j_sld hX (by omega) hL dL_law_483 ?_
  refine j_aload_n 0 dL_law_484 rfl rfl ?_
  refine j_iload_n 3 dL_law_485 rfl rfl ?_
  refine j_iconst (v := nI 3) dL_law_486 (by decide) ?_
  refine j_iadd dL_law_487 ?_
  refine j_topi (nI_add i 3) ?_
  refine j_sld hX (by omega) hL dL_law_488 ?_
  refine j_callV (As := [.int (xs (i + 1)), .int (xs (i + 2)), .int (xs (i + 3))]) (rest := []) (wr := mb x q u v g pw kp o) (tX5_nights l x A a r ik hr ld gc uc vc uk vk k1 k2 k3 k4 k5 k6 (xs (i + 1)) (xs (i + 2)) (xs (i + 3)) z hz) kX5_nights vL_77 0 rfl rfl rfl dL_law_489 (by decide) (Nat.le_of_eq (Nat.zero_add _)) (Nat.le_of_eq (Nat.zero_add _)) rfl rfl (Nat.le_of_ble_eq_true rfl) (List.Perm.refl _) (fun v9 w9 hv9 => ?_)
  obtain ⟨rfl, z', hz', rfl⟩ := hv9
  refine j_eq (lv' := [(0, .ref b), (1, .ref (A 0 0)), (2, .ref (q 0)), (3, .int (nI i))]) (st' := [.int (kNightsR uc (xs (i + 1)) (xs (i + 2)) (xs (i + 3)))]) (ws' := cw x A a r ((ik, hr, ld), gc, uc, vc, uk, vk) z' ++ mb x q u v g pw kp o) rfl rfl rfl ?_
  refine j_aload_n 2 dL_law_492 rfl rfl ?_
  refine j_aload_n 0 dL_law_493 rfl rfl ?_
  refine j_iload_n 3 dL_law_494 rfl rfl ?_
  refine j_iconst (v := nI 1) dL_law_495 (by decide) ?_
  refine j_iadd dL_law_496 ?_
  refine j_topi (nI_add i 1) ?_
  refine j_sld hX (by omega) hL dL_law_497 ?_
  refine j_aload_n 0 dL_law_498 rfl rfl ?_
  refine j_iload_n 3 dL_law_499 rfl rfl ?_
  refine j_iconst (v := nI 2) dL_law_500 (by decide) ?_
  refine j_iadd dL_law_501 ?_
  refine j_topi (nI_add i 2) ?_
  refine j_sld hX (by omega) hL dL_law_502 ?_
  refine j_aload_n 0 dL_law_503 rfl rfl ?_
  refine j_iload_n 3 dL_law_504 rfl rfl ?_
  refine j_iconst (v := nI 3) dL_law_505 (by decide) ?_
  refine j_iadd dL_law_506 ?_
  refine j_topi (nI_add i 3) ?_
  refine j_sld hX (by omega) hL dL_law_507 ?_
  refine j_callV (As := [.int (xs (i + 1)), .int (xs (i + 2)), .int (xs (i + 3))]) (rest := [.int (kNightsR uc (xs (i + 1)) (xs (i + 2)) (xs (i + 3)))]) (wr := cw x A a r ((ik, hr, ld), gc, uc, vc, uk, vk) z') (tX6_nights l x q u v g pw kp o a3 (xs (i + 1)) (xs (i + 2)) (xs (i + 3))) kX6_nights vL_80 0 rfl rfl rfl dL_law_508 (by decide) (Nat.le_of_eq (Nat.zero_add _)) (Nat.le_of_eq (Nat.zero_add _)) rfl rfl (Nat.le_of_ble_eq_true rfl) List.perm_append_comm (fun v9 w9 hv9 => ?_)
  obtain ⟨rfl, u', o', hs, rfl⟩ := hv9
  have hE : kNightsR uc (xs (i + 1)) (xs (i + 2)) (xs (i + 3)) = kNightsR u (xs (i + 1)) (xs (i + 2)) (xs (i + 3)) := R_nights hR (xs (i + 1)) (xs (i + 2)) (xs (i + 3))
  refine j_eq (lv' := [(0, .ref b), (1, .ref (A 0 0)), (2, .ref (q 0)), (3, .int (nI i))]) (st' := [.int (kNightsR u (xs (i + 1)) (xs (i + 2)) (xs (i + 3))), .int (kNightsR uc (xs (i + 1)) (xs (i + 2)) (xs (i + 3)))]) (ws' := mb x q u' v g pw kp o' ++ cw x A a r ((ik, hr, ld), gc, uc, vc, uk, vk) z') rfl rfl rfl ?_
  refine j_perm _ List.perm_append_comm ?_
  refine j_icmp_eq (tgt := 579) dL_law_511 (by decide) (fun _ => ?_) (fun h9 => absurd hE h9)
  exact kk _ ⟨((ik, hr, ld), gc, uc, vc, uk, vk), z', u', v, g, pw, kp, o', rfl, hz', (hR).sim hs, by rw [hs.2.1]; omega⟩
set_option maxHeartbeats 4000000 in
set_option maxRecDepth 100000 in
theorem lc_image {M : Mx} {l : Launch} {x : Cx} {b L : Nat} {xs : Nat → Int32} (hX : jX M b L xs) {A a : Nat → Nat → Nat} {r q : Nat → Nat} {i : Nat} (hi : i + 4 ≤ L) (hL : L ≤ 256) {ws : va_W} (h : LI x A a r q i ws) (kk : ∀ ws', LI x A a r q (i + 1) ws' → J M l x cL_law 4 yL_law 12 pL1 0 0 579 [(0, .ref b), (1, .ref (A 0 0)), (2, .ref (q 0)), (3, .int (nI i))] [] ws') : J M l x cL_law 4 yL_law 12 pL1 0 0 516 [(0, .ref b), (1, .ref (A 0 0)), (2, .ref (q 0)), (3, .int (nI i))] [] ws := by
  obtain ⟨⟨⟨ik, hr, ld⟩, gc, uc, vc, uk, vk⟩, z, u, v, g, pw, kp, o, rfl, hz, hR, ho⟩ := h
  obtain ⟨⟨k1, k2, k3, k4, k5, k6⟩, a2, a3, a4, a5, a6, a7, a8, a9, a10⟩ := id hR
  have hg : g.2 ≤ 18 := by have e : gc.2 = g.2 := a6.1; rw [← e]; exact k2
  have h40 : o.2.1 ≤ 40 := by have e : ld = o.2.1 := a8; rw [← e]; exact k1
  refine j_aload_n 1 dL_law_516 rfl rfl ?_
  refine j_callV (As := []) (rest := []) (wr := mb x q u v g pw kp o) (tX5_image l x A a r ik hr ld gc uc vc uk vk k1 k2 k3 k4 k5 k6 z hz) kX5_image vL_81 0 rfl rfl rfl dL_law_517 (by decide) (Nat.le_of_eq (Nat.zero_add _)) (Nat.le_of_eq (Nat.zero_add _)) rfl rfl (Nat.le_of_ble_eq_true rfl) (List.Perm.refl _) (fun v9 w9 hv9 => ?_)
  obtain ⟨rfl, z', hz', rfl⟩ := hv9
  refine j_eq (lv' := [(0, .ref b), (1, .ref (A 0 0)), (2, .ref (q 0)), (3, .int (nI i))]) (st' := [.int ((kImage (ik, hr, ld) gc uc vc uk vk).1)]) (ws' := cw x A a r (kImage (ik, hr, ld) gc uc vc uk vk).2 z' ++ mb x q u v g pw kp o) rfl rfl rfl ?_
  refine j_aload_n 2 dL_law_520 rfl rfl ?_
  refine j_callV (As := []) (rest := [.int ((kImage (ik, hr, ld) gc uc vc uk vk).1)]) (wr := cw x A a r (kImage (ik, hr, ld) gc uc vc uk vk).2 z') (uX6_image l x q u v g pw kp o a3) kX6_image vL_84 0 rfl rfl rfl dL_law_521 (by decide) (Nat.le_of_eq (Nat.zero_add _)) (Nat.le_of_eq (Nat.zero_add _)) rfl rfl (Nat.le_of_ble_eq_true rfl) List.perm_append_comm (fun v9 w9 hv9 => ?_)
  obtain ⟨rfl, rfl⟩ := hv9
  have hE : (kImage (ik, hr, ld) gc uc vc uk vk).1 = if nN u = 0 then -103 else nH u := (R_image hR).1
  refine j_eq (lv' := [(0, .ref b), (1, .ref (A 0 0)), (2, .ref (q 0)), (3, .int (nI i))]) (st' := [.int (if nN u = 0 then -103 else nH u), .int ((kImage (ik, hr, ld) gc uc vc uk vk).1)]) (ws' := mb x q u v g pw (if nN u = 0 then kp else imK u v kp o.1) (if nN u = 0 then o else imO u o) ++ cw x A a r (kImage (ik, hr, ld) gc uc vc uk vk).2 z') rfl rfl rfl ?_
  refine j_perm _ List.perm_append_comm ?_
  refine j_icmp_eq (tgt := 579) dL_law_524 (by decide) (fun _ => ?_) (fun h9 => absurd hE h9)
  exact kk _ ⟨(kImage (ik, hr, ld) gc uc vc uk vk).2, z', u, v, g, pw, (if nN u = 0 then kp else imK u v kp o.1), (if nN u = 0 then o else imO u o), rfl, hz', (R_image hR).2, by rw [imO_n]; omega⟩
set_option maxHeartbeats 4000000 in
set_option maxRecDepth 100000 in
theorem lc_restore {M : Mx} {l : Launch} {x : Cx} {b L : Nat} {xs : Nat → Int32} (hX : jX M b L xs) {A a : Nat → Nat → Nat} {r q : Nat → Nat} {i : Nat} (hi : i + 4 ≤ L) (hL : L ≤ 256) {ws : va_W} (h : LI x A a r q i ws) (kk : ∀ ws', LI x A a r q (i + 1) ws' → J M l x cL_law 4 yL_law 12 pL1 0 0 579 [(0, .ref b), (1, .ref (A 0 0)), (2, .ref (q 0)), (3, .int (nI i))] [] ws') : J M l x cL_law 4 yL_law 12 pL1 0 0 529 [(0, .ref b), (1, .ref (A 0 0)), (2, .ref (q 0)), (3, .int (nI i))] [] ws := by
  obtain ⟨⟨⟨ik, hr, ld⟩, gc, uc, vc, uk, vk⟩, z, u, v, g, pw, kp, o, rfl, hz, hR, ho⟩ := h
  obtain ⟨⟨k1, k2, k3, k4, k5, k6⟩, a2, a3, a4, a5, a6, a7, a8, a9, a10⟩ := id hR
  have hg : g.2 ≤ 18 := by have e : gc.2 = g.2 := a6.1; rw [← e]; exact k2
  have h40 : o.2.1 ≤ 40 := by have e : ld = o.2.1 := a8; rw [← e]; exact k1
  refine j_aload_n 1 dL_law_529 rfl rfl ?_
  refine j_callV (As := []) (rest := []) (wr := mb x q u v g pw kp o) (tX5_restore l x A a r ik hr ld gc uc vc uk vk k1 k2 k3 k4 k5 k6 z hz) kX5_restore vL_85 0 rfl rfl rfl dL_law_530 (by decide) (Nat.le_of_eq (Nat.zero_add _)) (Nat.le_of_eq (Nat.zero_add _)) rfl rfl (Nat.le_of_ble_eq_true rfl) (List.Perm.refl _) (fun v9 w9 hv9 => ?_)
  obtain ⟨rfl, z', hz', rfl⟩ := hv9
  refine j_eq (lv' := [(0, .ref b), (1, .ref (A 0 0)), (2, .ref (q 0)), (3, .int (nI i))]) (st' := [.int ((kRestore (ik, hr, ld) gc uc vc uk vk).1)]) (ws' := cw x A a r (kRestore (ik, hr, ld) gc uc vc uk vk).2 z' ++ mb x q u v g pw kp o) rfl rfl rfl ?_
  refine j_aload_n 2 dL_law_533 rfl rfl ?_
  refine j_callV (As := []) (rest := [.int ((kRestore (ik, hr, ld) gc uc vc uk vk).1)]) (wr := cw x A a r (kRestore (ik, hr, ld) gc uc vc uk vk).2 z') (uX6_restore l x q u v g pw kp o a3 (by omega) (by omega)) kX6_restore vL_88 0 rfl rfl rfl dL_law_534 (by decide) (Nat.le_of_eq (Nat.zero_add _)) (Nat.le_of_eq (Nat.zero_add _)) rfl rfl (Nat.le_of_ble_eq_true rfl) List.perm_append_comm (fun v9 w9 hv9 => ?_)
  obtain ⟨rfl, rfl⟩ := hv9
  have hE : (kRestore (ik, hr, ld) gc uc vc uk vk).1 = if kp.1 = true ∧ kp.2.1 = o.1 then nH (reU u kp o) else -103 := (R_restore hR).1
  refine j_eq (lv' := [(0, .ref b), (1, .ref (A 0 0)), (2, .ref (q 0)), (3, .int (nI i))]) (st' := [.int (if kp.1 = true ∧ kp.2.1 = o.1 then nH (reU u kp o) else -103), .int ((kRestore (ik, hr, ld) gc uc vc uk vk).1)]) (ws' := mb x q (if kp.1 = true ∧ kp.2.1 = o.1 then reU u kp o else u) (if kp.1 = true ∧ kp.2.1 = o.1 then reV v kp else v) g pw kp o ++ cw x A a r (kRestore (ik, hr, ld) gc uc vc uk vk).2 z') rfl rfl rfl ?_
  refine j_perm _ List.perm_append_comm ?_
  refine j_icmp_eq (tgt := 579) dL_law_537 (by decide) (fun _ => ?_) (fun h9 => absurd hE h9)
  exact kk _ ⟨(kRestore (ik, hr, ld) gc uc vc uk vk).2, z', (if kp.1 = true ∧ kp.2.1 = o.1 then reU u kp o else u), (if kp.1 = true ∧ kp.2.1 = o.1 then reV v kp else v), g, pw, kp, o, rfl, hz', (R_restore hR).2, Nat.le_succ_of_le ho⟩
set_option maxHeartbeats 4000000 in
set_option maxRecDepth 100000 in
theorem lc_count {M : Mx} {l : Launch} {x : Cx} {b L : Nat} {xs : Nat → Int32} (hX : jX M b L xs) {A a : Nat → Nat → Nat} {r q : Nat → Nat} {i : Nat} (hi : i + 4 ≤ L) (hL : L ≤ 256) {ws : va_W} (h : LI x A a r q i ws) (kk : ∀ ws', LI x A a r q (i + 1) ws' → J M l x cL_law 4 yL_law 12 pL1 0 0 579 [(0, .ref b), (1, .ref (A 0 0)), (2, .ref (q 0)), (3, .int (nI i))] [] ws') : J M l x cL_law 4 yL_law 12 pL1 0 0 542 [(0, .ref b), (1, .ref (A 0 0)), (2, .ref (q 0)), (3, .int (nI i))] [] ws := by
  obtain ⟨⟨⟨ik, hr, ld⟩, gc, uc, vc, uk, vk⟩, z, u, v, g, pw, kp, o, rfl, hz, hR, ho⟩ := h
  obtain ⟨⟨k1, k2, k3, k4, k5, k6⟩, a2, a3, a4, a5, a6, a7, a8, a9, a10⟩ := id hR
  have hg : g.2 ≤ 18 := by have e : gc.2 = g.2 := a6.1; rw [← e]; exact k2
  have h40 : o.2.1 ≤ 40 := by have e : ld = o.2.1 := a8; rw [← e]; exact k1
  refine j_aload_n 1 dL_law_542 rfl rfl ?_
  refine j_aload_n 0 dL_law_543 rfl rfl ?_
  refine j_iload_n 3 dL_law_544 rfl rfl ?_
  refine j_iconst (v := nI 1) dL_law_545 (by decide) ?_
  refine j_iadd dL_law_546 ?_
  refine j_topi (nI_add i 1) ?_
  refine j_sld hX (by omega) hL dL_law_547 ?_
  refine j_callV (As := [.int (xs (i + 1))]) (rest := []) (wr := mb x q u v g pw kp o) (tX5_count l x A a r ik hr ld gc uc vc uk vk k1 k2 k3 k4 k5 k6 (xs (i + 1)) z hz) kX5_count vL_89 0 rfl rfl rfl dL_law_548 (by decide) (Nat.le_of_eq (Nat.zero_add _)) (Nat.le_of_eq (Nat.zero_add _)) rfl rfl (Nat.le_of_ble_eq_true rfl) (List.Perm.refl _) (fun v9 w9 hv9 => ?_)
  obtain ⟨rfl, z', hz', rfl⟩ := hv9
  refine j_eq (lv' := [(0, .ref b), (1, .ref (A 0 0)), (2, .ref (q 0)), (3, .int (nI i))]) (st' := [.int (kCount (ik, hr, ld) gc uc vc (xs (i + 1)))]) (ws' := cw x A a r ((ik, hr, ld), gc, uc, vc, uk, vk) z' ++ mb x q u v g pw kp o) rfl rfl rfl ?_
  refine j_aload_n 2 dL_law_551 rfl rfl ?_
  refine j_aload_n 0 dL_law_552 rfl rfl ?_
  refine j_iload_n 3 dL_law_553 rfl rfl ?_
  refine j_iconst (v := nI 1) dL_law_554 (by decide) ?_
  refine j_iadd dL_law_555 ?_
  refine j_topi (nI_add i 1) ?_
  refine j_sld hX (by omega) hL dL_law_556 ?_
  refine j_callV (As := [.int (xs (i + 1))]) (rest := [.int (kCount (ik, hr, ld) gc uc vc (xs (i + 1)))]) (wr := cw x A a r ((ik, hr, ld), gc, uc, vc, uk, vk) z') (tX6_count l x q u v g pw kp o a3 (xs (i + 1))) kX6_count vL_92 0 rfl rfl rfl dL_law_557 (by decide) (Nat.le_of_eq (Nat.zero_add _)) (Nat.le_of_eq (Nat.zero_add _)) rfl rfl (Nat.le_of_ble_eq_true rfl) List.perm_append_comm (fun v9 w9 hv9 => ?_)
  obtain ⟨rfl, rfl⟩ := hv9
  have hE : kCount (ik, hr, ld) gc uc vc (xs (i + 1)) = kCount (false, o.1, o.2.1) g u v (xs (i + 1)) := R_count hR (xs (i + 1))
  refine j_eq (lv' := [(0, .ref b), (1, .ref (A 0 0)), (2, .ref (q 0)), (3, .int (nI i))]) (st' := [.int (kCount (false, o.1, o.2.1) g u v (xs (i + 1))), .int (kCount (ik, hr, ld) gc uc vc (xs (i + 1)))]) (ws' := mb x q u v g pw kp o ++ cw x A a r ((ik, hr, ld), gc, uc, vc, uk, vk) z') rfl rfl rfl ?_
  refine j_perm _ List.perm_append_comm ?_
  refine j_icmp_eq (tgt := 579) dL_law_560 (by decide) (fun _ => ?_) (fun h9 => absurd hE h9)
  exact kk _ ⟨((ik, hr, ld), gc, uc, vc, uk, vk), z', u, v, g, pw, kp, o, rfl, hz', hR, Nat.le_succ_of_le ho⟩
set_option maxHeartbeats 4000000 in
set_option maxRecDepth 100000 in
theorem lc_digest {M : Mx} {l : Launch} {x : Cx} {b L : Nat} {xs : Nat → Int32} (hX : jX M b L xs) {A a : Nat → Nat → Nat} {r q : Nat → Nat} {i : Nat} (hi : i + 4 ≤ L) (hL : L ≤ 256) {ws : va_W} (h : LI x A a r q i ws) (kk : ∀ ws', LI x A a r q (i + 1) ws' → J M l x cL_law 4 yL_law 12 pL1 0 0 579 [(0, .ref b), (1, .ref (A 0 0)), (2, .ref (q 0)), (3, .int (nI i))] [] ws') : J M l x cL_law 4 yL_law 12 pL1 0 0 565 [(0, .ref b), (1, .ref (A 0 0)), (2, .ref (q 0)), (3, .int (nI i))] [] ws := by
  obtain ⟨⟨⟨ik, hr, ld⟩, gc, uc, vc, uk, vk⟩, z, u, v, g, pw, kp, o, rfl, hz, hR, ho⟩ := h
  obtain ⟨⟨k1, k2, k3, k4, k5, k6⟩, a2, a3, a4, a5, a6, a7, a8, a9, a10⟩ := id hR
  have hg : g.2 ≤ 18 := by have e : gc.2 = g.2 := a6.1; rw [← e]; exact k2
  have h40 : o.2.1 ≤ 40 := by have e : ld = o.2.1 := a8; rw [← e]; exact k1
  refine j_aload_n 1 dL_law_565 rfl rfl ?_
  refine j_callV (As := []) (rest := []) (wr := mb x q u v g pw kp o) (tX5_digest l x A a r ik hr ld gc uc vc uk vk k1 k2 k3 k4 k5 k6 z hz) kX5_digest vL_93 0 rfl rfl rfl dL_law_566 (by decide) (Nat.le_of_eq (Nat.zero_add _)) (Nat.le_of_eq (Nat.zero_add _)) rfl rfl (Nat.le_of_ble_eq_true rfl) (List.Perm.refl _) (fun v9 w9 hv9 => ?_)
  obtain ⟨rfl, z', hz', rfl⟩ := hv9
  refine j_eq (lv' := [(0, .ref b), (1, .ref (A 0 0)), (2, .ref (q 0)), (3, .int (nI i))]) (st' := [.long (kDigest (ik, hr, ld) gc uc vc)]) (ws' := cw x A a r ((ik, hr, ld), gc, uc, vc, uk, vk) z' ++ mb x q u v g pw kp o) rfl rfl rfl ?_
  refine j_aload_n 2 dL_law_569 rfl rfl ?_
  refine j_callV (As := []) (rest := [.long (kDigest (ik, hr, ld) gc uc vc)]) (wr := cw x A a r ((ik, hr, ld), gc, uc, vc, uk, vk) z') (tX6_digest l x q u v g pw kp o a3 a5 hg) kX6_digest vL_97 0 rfl rfl rfl dL_law_570 (by decide) (Nat.le_of_eq (Nat.zero_add _)) (Nat.le_of_eq (Nat.zero_add _)) rfl rfl (Nat.le_of_ble_eq_true rfl) List.perm_append_comm (fun v9 w9 hv9 => ?_)
  obtain ⟨rfl, z9, u', o', hs, rfl⟩ := hv9
  have hE : kDigest (ik, hr, ld) gc uc vc = kDigest (false, o.1, o.2.1) g u v := R_digest hR
  refine j_eq (lv' := [(0, .ref b), (1, .ref (A 0 0)), (2, .ref (q 0)), (3, .int (nI i))]) (st' := [.long (kDigest (false, o.1, o.2.1) g u v), .long (kDigest (ik, hr, ld) gc uc vc)]) (ws' := mb x q u' v g pw kp o' ++ cw x A a r ((ik, hr, ld), gc, uc, vc, uk, vk) z') rfl rfl rfl ?_
  refine j_perm _ List.perm_append_comm ?_
  refine j_lcmp dL_law_573 ?_
  refine j_if_eq (tgt := 579) dL_law_574 (by decide) (fun _ => ?_) (fun h9 => absurd ((lg_cmp_eq _ _).mpr hE) h9)
  exact kk _ ⟨((ik, hr, ld), gc, uc, vc, uk, vk), z', u', v, g, pw, kp, o', rfl, hz', (hR.hh z9).sim hs, by rw [hs.2.1]; exact Nat.le_succ_of_le ho⟩
