set_option maxHeartbeats 4000000 in
set_option maxRecDepth 100000 in
theorem lp_nights {M : Mx} (l : Launch) (x : Cx) (A a : Nat → Nat → Nat) (r : Nat → Nat) (ik : Bool) (hr ld : Nat) (g : PG) (u : NS) (v : SS) (uk : NS) (vk : SS) (hu : nN u ≤ 5) (h0 : 0 < nN u) (z : ZS) (hz : zok z) (hh : Nat) (hhi : hh ≤ 60) (s0 f : Int32) (R : Int32 × NS × Int32) {k0 n0 : Nat}  : ∀ (m : Nat) (p : Nat) (s c : Int32) (E : NS), p ≤ hh → ngI (hh - p) (s, E, c) = R → nN E = nN u → hh - p < m → J M l x cX5_nights 7 yX5_nights 10 (pS5 x A a r (if f = 2 then R.1 else if f = 0 then R.2.2 else nI (cntS R.2.1.2.2.1 (nN R.2.1))) ((ik, hr, ld), g, u, v, uk, vk)) k0 n0 56 [(0, .ref ((A 0) 0)), (1, .int (nI hh)), (3, .int f), (4, .int s), (5, .int c), (6, .int (nI p))] [] (fl [ob A (ik, hr, ld), pb x (A 1) g, nb x (A 2) u, sb x (A 3) v, nb x (A 4) uk, sb x (A 5) vk, nb x (A 6) E, lb x (A 7) a z.2.1, nb x (a 0) z.2.2.1, nb x (a 1) z.2.2.2.1, nb x (a 2) z.2.2.2.2.1, gb x (A 11) (A 13) r z.2.2.2.2.2.1, rowsB x r z.2.2.2.2.2.2.1, nb x (A 13) z.2.2.2.2.2.2.2]) := by
  intro m; induction m with
  | zero => intro p s c E hc0 hc1 hc2 hm; exact absurd hm (Nat.not_lt_zero _)
  | succ m ih =>
    intro p s c E hc0 hc1 hc2 hm
    have hw : nN z.1 ≤ 5 := hz.1
    have hw0 : nN z.2.2.1 ≤ 5 := hz.2.1
    have hw1 : nN z.2.2.2.1 ≤ 5 := hz.2.2.1
    have hw2 : nN z.2.2.2.2.1 ≤ 5 := hz.2.2.2.1
    have hw3 : nN z.2.2.2.2.2.2.2 ≤ 5 := hz.2.2.2.2
    refine j_iload 5 dX5_nights_56 rfl ?_
    refine j_iload_n 1 dX5_nights_58 rfl rfl ?_
    refine j_icmpN_ge (a := p) (b := hh) (by omega) (by omega) (tgt := 147) dX5_nights_59 (by decide) (fun h59 => ?_) (fun h59 => ?_)
    · skip
      refine j_iload_n 2 dX5_nights_147 rfl rfl ?_
      refine j_iconst (v := 2) dX5_nights_148 (by decide) ?_
      refine j_icmp_ne (tgt := 155) dX5_nights_149 (by decide) (fun h149 => ?_) (fun h149 => ?_)
      · skip
        refine j_iload_n 2 dX5_nights_155 rfl rfl ?_
        refine j_if_ne (tgt := 164) dX5_nights_156 (by decide) (fun h156 => ?_) (fun h156 => ?_)
        · skip
          refine j_aload_n 0 dX5_nights_164 rfl rfl ?_
          refine j_get (v := .ref ((A 6) 0)) 0 dX5_nights_165 fX5_40 rfl rfl ?_
          refine j_cVi (As := []) (rest := []) (wr := fl [ob A (ik, hr, ld), pb x (A 1) g, nb x (A 2) u, sb x (A 3) v, nb x (A 4) uk, sb x (A 5) vk, lb x (A 7) a z.2.1, nb x (a 0) z.2.2.1, nb x (a 1) z.2.2.2.1, nb x (a 2) z.2.2.2.2.1, gb x (A 11) (A 13) r z.2.2.2.2.2.1, rowsB x r z.2.2.2.2.2.2.1, nb x (A 13) z.2.2.2.2.2.2.2]) (ws' := fl [nb x (A 6) E, ob A (ik, hr, ld), pb x (A 1) g, nb x (A 2) u, sb x (A 3) v, nb x (A 4) uk, sb x (A 5) vk, lb x (A 7) a z.2.1, nb x (a 0) z.2.2.1, nb x (a 1) z.2.2.2.1, nb x (a 2) z.2.2.2.2.1, gb x (A 11) (A 13) r z.2.2.2.2.2.1, rowsB x r z.2.2.2.2.2.2.1, nb x (A 13) z.2.2.2.2.2.2.2]) (uX2_sleepers l x (A 6) E (by (try simp only [nN_ph, nN_lec, nN_cpy, nN_cof, nN_wak, nN_hrs]); omega)) kX2_sleepers 0 rfl rfl rfl vX5_140 dX5_nights_168 (by decide) rfl rfl (Nat.le_of_ble_eq_true rfl) (qm_1 14 6 [0, 1, 2, 3, 4, 5, 7, 8, 9, 10, 11, 12, 13] (by decide +kernel) rfl rfl rfl) rfl ?_
          refine j_perm (fl [ob A (ik, hr, ld), pb x (A 1) g, nb x (A 2) u, sb x (A 3) v, nb x (A 4) uk, sb x (A 5) vk, nb x (A 6) E, lb x (A 7) a z.2.1, nb x (a 0) z.2.2.1, nb x (a 1) z.2.2.2.1, nb x (a 2) z.2.2.2.2.1, gb x (A 11) (A 13) r z.2.2.2.2.2.1, rowsB x r z.2.2.2.2.2.2.1, nb x (A 13) z.2.2.2.2.2.2.2]) (qm_b 14 [1, 2, 3, 4, 5, 6, 0, 7, 8, 9, 10, 11, 12, 13] (by decide +kernel) rfl rfl) ?_
          rw [show hh - p = 0 by omega] at hc1
          have hR : R = (s, E, c) := hc1.symm
          exact j_iret _ dX5_nights_171 (List.Perm.refl _) ⟨by first | (simp [hR, h149, h156]; done) | (rw [hR, if_neg (by rw [h156]; decide), if_pos h156]; done), (E, z.2.1, z.2.2.1, z.2.2.2.1, z.2.2.2.2.1, z.2.2.2.2.2.1, z.2.2.2.2.2.2.1, z.2.2.2.2.2.2.2), ⟨(by (try simp only [nN_ph, nN_lec, nN_cpy, nN_cof, nN_wak, nN_hrs]); omega), (by (try simp only [nN_ph, nN_lec, nN_cpy, nN_cof, nN_wak, nN_hrs]); omega), (by (try simp only [nN_ph, nN_lec, nN_cpy, nN_cof, nN_wak, nN_hrs]); omega), (by (try simp only [nN_ph, nN_lec, nN_cpy, nN_cof, nN_wak, nN_hrs]); omega), (by (try simp only [nN_ph, nN_lec, nN_cpy, nN_cof, nN_wak, nN_hrs]); omega)⟩, rfl⟩
        · skip
          refine j_iload 4 dX5_nights_159 rfl ?_
          refine j_goto (tgt := 171) dX5_nights_161 (by decide) ?_
          rw [show hh - p = 0 by omega] at hc1
          have hR : R = (s, E, c) := hc1.symm
          exact j_iret _ dX5_nights_171 (List.Perm.refl _) ⟨by first | (simp [hR, h149, h156]; done) | (rw [hR, if_neg (by rw [h156]; decide), if_pos h156]; done), (E, z.2.1, z.2.2.1, z.2.2.2.1, z.2.2.2.2.1, z.2.2.2.2.2.1, z.2.2.2.2.2.2.1, z.2.2.2.2.2.2.2), ⟨(by (try simp only [nN_ph, nN_lec, nN_cpy, nN_cof, nN_wak, nN_hrs]); omega), (by (try simp only [nN_ph, nN_lec, nN_cpy, nN_cof, nN_wak, nN_hrs]); omega), (by (try simp only [nN_ph, nN_lec, nN_cpy, nN_cof, nN_wak, nN_hrs]); omega), (by (try simp only [nN_ph, nN_lec, nN_cpy, nN_cof, nN_wak, nN_hrs]); omega), (by (try simp only [nN_ph, nN_lec, nN_cpy, nN_cof, nN_wak, nN_hrs]); omega)⟩, rfl⟩
      · skip
        refine j_iload 3 dX5_nights_152 rfl ?_
        rw [show hh - p = 0 by omega] at hc1
        have hR : R = (s, E, c) := hc1.symm
        exact j_iret _ dX5_nights_154 (List.Perm.refl _) ⟨by simp [hR, h149], (E, z.2.1, z.2.2.1, z.2.2.2.1, z.2.2.2.2.1, z.2.2.2.2.2.1, z.2.2.2.2.2.2.1, z.2.2.2.2.2.2.2), ⟨(by (try simp only [nN_ph, nN_lec, nN_cpy, nN_cof, nN_wak, nN_hrs]); omega), (by (try simp only [nN_ph, nN_lec, nN_cpy, nN_cof, nN_wak, nN_hrs]); omega), (by (try simp only [nN_ph, nN_lec, nN_cpy, nN_cof, nN_wak, nN_hrs]); omega), (by (try simp only [nN_ph, nN_lec, nN_cpy, nN_cof, nN_wak, nN_hrs]); omega), (by (try simp only [nN_ph, nN_lec, nN_cpy, nN_cof, nN_wak, nN_hrs]); omega)⟩, rfl⟩
    · skip
      refine j_iload 3 dX5_nights_62 rfl ?_
      refine j_cSi (As := [.int s]) (rest := []) (wr := fl [ob A (ik, hr, ld), pb x (A 1) g, nb x (A 2) u, sb x (A 3) v, nb x (A 4) uk, sb x (A 5) vk, nb x (A 6) E, lb x (A 7) a z.2.1, nb x (a 0) z.2.2.1, nb x (a 1) z.2.2.2.1, nb x (a 2) z.2.2.2.2.1, gb x (A 11) (A 13) r z.2.2.2.2.2.1, rowsB x r z.2.2.2.2.2.2.1, nb x (A 13) z.2.2.2.2.2.2.2]) (ws' := fl [ob A (ik, hr, ld), pb x (A 1) g, nb x (A 2) u, sb x (A 3) v, nb x (A 4) uk, sb x (A 5) vk, nb x (A 6) E, lb x (A 7) a z.2.1, nb x (a 0) z.2.2.1, nb x (a 1) z.2.2.2.1, nb x (a 2) z.2.2.2.2.1, gb x (A 11) (A 13) r z.2.2.2.2.2.1, rowsB x r z.2.2.2.2.2.2.1, nb x (A 13) z.2.2.2.2.2.2.2]) (tX5_nextSeed l x s) kX5_nextSeed sX5_171 dX5_nights_64 (by decide) rfl rfl (Nat.le_of_ble_eq_true rfl) (List.Perm.refl _) rfl ?_
      refine j_istore (lv' := [(4, .int (nxS s)), (0, .ref ((A 0) 0)), (1, .int (nI hh)), (3, .int f), (5, .int c), (6, .int (nI p))]) dX5_nights_67 (by decide) rfl ?_
      refine j_aload_n 1 dX5_nights_69 rfl rfl ?_
      refine j_get (v := .ref ((A 6) 0)) 0 dX5_nights_70 fX5_40 rfl rfl ?_
      refine j_iload 0 dX5_nights_73 rfl ?_
      refine j_aload_n 1 dX5_nights_75 rfl rfl ?_
      refine j_get (v := .ref ((A 6) 0)) 0 dX5_nights_76 fX5_40 rfl rfl ?_
      refine j_cVi (As := []) (rest := [.int (nxS s), .ref ((A 6) 0)]) (wr := fl [ob A (ik, hr, ld), pb x (A 1) g, nb x (A 2) u, sb x (A 3) v, nb x (A 4) uk, sb x (A 5) vk, lb x (A 7) a z.2.1, nb x (a 0) z.2.2.1, nb x (a 1) z.2.2.2.1, nb x (a 2) z.2.2.2.2.1, gb x (A 11) (A 13) r z.2.2.2.2.2.1, rowsB x r z.2.2.2.2.2.2.1, nb x (A 13) z.2.2.2.2.2.2.2]) (ws' := fl [nb x (A 6) E, ob A (ik, hr, ld), pb x (A 1) g, nb x (A 2) u, sb x (A 3) v, nb x (A 4) uk, sb x (A 5) vk, lb x (A 7) a z.2.1, nb x (a 0) z.2.2.1, nb x (a 1) z.2.2.2.1, nb x (a 2) z.2.2.2.2.1, gb x (A 11) (A 13) r z.2.2.2.2.2.1, rowsB x r z.2.2.2.2.2.2.1, nb x (A 13) z.2.2.2.2.2.2.2]) (uX2_lodgers l x (A 6) E ) kX2_lodgers 0 rfl rfl rfl vX5_91 dX5_nights_79 (by decide) rfl rfl (Nat.le_of_ble_eq_true rfl) (qm_1 14 6 [0, 1, 2, 3, 4, 5, 7, 8, 9, 10, 11, 12, 13] (by decide +kernel) rfl rfl rfl) rfl ?_
      refine j_cSi (As := [.int (nxS s), .int (nI (nN E))]) (rest := [.ref ((A 6) 0)]) (wr := fl [nb x (A 6) E, ob A (ik, hr, ld), pb x (A 1) g, nb x (A 2) u, sb x (A 3) v, nb x (A 4) uk, sb x (A 5) vk, lb x (A 7) a z.2.1, nb x (a 0) z.2.2.1, nb x (a 1) z.2.2.2.1, nb x (a 2) z.2.2.2.2.1, gb x (A 11) (A 13) r z.2.2.2.2.2.1, rowsB x r z.2.2.2.2.2.2.1, nb x (A 13) z.2.2.2.2.2.2.2]) (ws' := fl [nb x (A 6) E, ob A (ik, hr, ld), pb x (A 1) g, nb x (A 2) u, sb x (A 3) v, nb x (A 4) uk, sb x (A 5) vk, lb x (A 7) a z.2.1, nb x (a 0) z.2.2.1, nb x (a 1) z.2.2.2.1, nb x (a 2) z.2.2.2.2.1, gb x (A 11) (A 13) r z.2.2.2.2.2.1, rowsB x r z.2.2.2.2.2.2.1, nb x (A 13) z.2.2.2.2.2.2.2]) (tX5_drawOf l x (nxS s) (nI (nN E))) kX5_drawOf sX5_174 dX5_nights_82 (by decide) rfl rfl (Nat.le_of_ble_eq_true rfl) (List.Perm.refl _) rfl ?_
      refine j_topi (b := nI (drN (nxS s) (nN E))) (drO_eq (nxS_nn s) (by omega) (by omega)) ?_
      refine j_cVv (As := [.int (nI (drN (nxS s) (nN E)))]) (rest := []) (wr := fl [ob A (ik, hr, ld), pb x (A 1) g, nb x (A 2) u, sb x (A 3) v, nb x (A 4) uk, sb x (A 5) vk, lb x (A 7) a z.2.1, nb x (a 0) z.2.2.1, nb x (a 1) z.2.2.2.1, nb x (a 2) z.2.2.2.2.1, gb x (A 11) (A 13) r z.2.2.2.2.2.1, rowsB x r z.2.2.2.2.2.2.1, nb x (A 13) z.2.2.2.2.2.2.2]) (ws' := fl [nb x (A 6) (cof E (drN (nxS s) (nN E))), ob A (ik, hr, ld), pb x (A 1) g, nb x (A 2) u, sb x (A 3) v, nb x (A 4) uk, sb x (A 5) vk, lb x (A 7) a z.2.1, nb x (a 0) z.2.2.1, nb x (a 1) z.2.2.2.1, nb x (a 2) z.2.2.2.2.1, gb x (A 11) (A 13) r z.2.2.2.2.2.1, rowsB x r z.2.2.2.2.2.2.1, nb x (A 13) z.2.2.2.2.2.2.2]) (uX2_giveCoffee l x (A 6) E (by (try simp only [nN_ph, nN_lec, nN_cpy, nN_cof, nN_wak, nN_hrs]); omega) (drN (nxS s) (nN E)) (by have := drN_lt (nxS s) (n := nN E) (by omega); omega)) kX2_giveCoffee 0 rfl rfl rfl vX5_130 dX5_nights_85 (by decide) rfl rfl (Nat.le_of_ble_eq_true rfl) (qm_1 14 0 [1, 2, 3, 4, 5, 6, 7, 8, 9, 10, 11, 12, 13] (by decide +kernel) rfl rfl rfl) rfl ?_
      refine j_iload 0 dX5_nights_88 rfl ?_
      refine j_cSi (As := [.int (nxS s)]) (rest := []) (wr := fl [nb x (A 6) (cof E (drN (nxS s) (nN E))), ob A (ik, hr, ld), pb x (A 1) g, nb x (A 2) u, sb x (A 3) v, nb x (A 4) uk, sb x (A 5) vk, lb x (A 7) a z.2.1, nb x (a 0) z.2.2.1, nb x (a 1) z.2.2.2.1, nb x (a 2) z.2.2.2.2.1, gb x (A 11) (A 13) r z.2.2.2.2.2.1, rowsB x r z.2.2.2.2.2.2.1, nb x (A 13) z.2.2.2.2.2.2.2]) (ws' := fl [nb x (A 6) (cof E (drN (nxS s) (nN E))), ob A (ik, hr, ld), pb x (A 1) g, nb x (A 2) u, sb x (A 3) v, nb x (A 4) uk, sb x (A 5) vk, lb x (A 7) a z.2.1, nb x (a 0) z.2.2.1, nb x (a 1) z.2.2.2.1, nb x (a 2) z.2.2.2.2.1, gb x (A 11) (A 13) r z.2.2.2.2.2.1, rowsB x r z.2.2.2.2.2.2.1, nb x (A 13) z.2.2.2.2.2.2.2]) (tX5_nextSeed l x (nxS s)) kX5_nextSeed sX5_171 dX5_nights_90 (by decide) rfl rfl (Nat.le_of_ble_eq_true rfl) (List.Perm.refl _) rfl ?_
      refine j_istore (lv' := [(4, .int (nxS (nxS s))), (0, .ref ((A 0) 0)), (1, .int (nI hh)), (3, .int f), (5, .int c), (6, .int (nI p))]) dX5_nights_93 (by decide) rfl ?_
      refine j_aload_n 1 dX5_nights_95 rfl rfl ?_
      refine j_get (v := .ref ((A 6) 0)) 5 dX5_nights_96 fX5_40 rfl rfl ?_
      refine j_iload 0 dX5_nights_99 rfl ?_
      refine j_aload_n 1 dX5_nights_101 rfl rfl ?_
      refine j_get (v := .ref ((A 6) 0)) 5 dX5_nights_102 fX5_40 rfl rfl ?_
      refine j_cVi (As := []) (rest := [.int (nxS (nxS s)), .ref ((A 6) 0)]) (wr := fl [ob A (ik, hr, ld), pb x (A 1) g, nb x (A 2) u, sb x (A 3) v, nb x (A 4) uk, sb x (A 5) vk, lb x (A 7) a z.2.1, nb x (a 0) z.2.2.1, nb x (a 1) z.2.2.2.1, nb x (a 2) z.2.2.2.2.1, gb x (A 11) (A 13) r z.2.2.2.2.2.1, rowsB x r z.2.2.2.2.2.2.1, nb x (A 13) z.2.2.2.2.2.2.2]) (ws' := fl [nb x (A 6) (cof E (drN (nxS s) (nN E))), ob A (ik, hr, ld), pb x (A 1) g, nb x (A 2) u, sb x (A 3) v, nb x (A 4) uk, sb x (A 5) vk, lb x (A 7) a z.2.1, nb x (a 0) z.2.2.1, nb x (a 1) z.2.2.2.1, nb x (a 2) z.2.2.2.2.1, gb x (A 11) (A 13) r z.2.2.2.2.2.1, rowsB x r z.2.2.2.2.2.2.1, nb x (A 13) z.2.2.2.2.2.2.2]) (uX2_lodgers l x (A 6) (cof E (drN (nxS s) (nN E))) ) kX2_lodgers 0 rfl rfl rfl vX5_91 dX5_nights_105 (by decide) rfl rfl (Nat.le_of_ble_eq_true rfl) (qm_1 14 0 [1, 2, 3, 4, 5, 6, 7, 8, 9, 10, 11, 12, 13] (by decide +kernel) rfl rfl rfl) rfl ?_
      refine j_topi (b := nI (nN E)) (by rw [nN_cof]) ?_
      refine j_cSi (As := [.int (nxS (nxS s)), .int (nI (nN E))]) (rest := [.ref ((A 6) 0)]) (wr := fl [nb x (A 6) (cof E (drN (nxS s) (nN E))), ob A (ik, hr, ld), pb x (A 1) g, nb x (A 2) u, sb x (A 3) v, nb x (A 4) uk, sb x (A 5) vk, lb x (A 7) a z.2.1, nb x (a 0) z.2.2.1, nb x (a 1) z.2.2.2.1, nb x (a 2) z.2.2.2.2.1, gb x (A 11) (A 13) r z.2.2.2.2.2.1, rowsB x r z.2.2.2.2.2.2.1, nb x (A 13) z.2.2.2.2.2.2.2]) (ws' := fl [nb x (A 6) (cof E (drN (nxS s) (nN E))), ob A (ik, hr, ld), pb x (A 1) g, nb x (A 2) u, sb x (A 3) v, nb x (A 4) uk, sb x (A 5) vk, lb x (A 7) a z.2.1, nb x (a 0) z.2.2.1, nb x (a 1) z.2.2.2.1, nb x (a 2) z.2.2.2.2.1, gb x (A 11) (A 13) r z.2.2.2.2.2.1, rowsB x r z.2.2.2.2.2.2.1, nb x (A 13) z.2.2.2.2.2.2.2]) (tX5_drawOf l x (nxS (nxS s)) (nI (nN E))) kX5_drawOf sX5_174 dX5_nights_108 (by decide) rfl rfl (Nat.le_of_ble_eq_true rfl) (List.Perm.refl _) rfl ?_
      refine j_topi (b := nI (drN (nxS (nxS s)) (nN E))) (drO_eq (nxS_nn (nxS s)) (by omega) (by omega)) ?_
      refine j_cVv (As := [.int (nI (drN (nxS (nxS s)) (nN E)))]) (rest := []) (wr := fl [ob A (ik, hr, ld), pb x (A 1) g, nb x (A 2) u, sb x (A 3) v, nb x (A 4) uk, sb x (A 5) vk, lb x (A 7) a z.2.1, nb x (a 0) z.2.2.1, nb x (a 1) z.2.2.2.1, nb x (a 2) z.2.2.2.2.1, gb x (A 11) (A 13) r z.2.2.2.2.2.1, rowsB x r z.2.2.2.2.2.2.1, nb x (A 13) z.2.2.2.2.2.2.2]) (ws' := fl [nb x (A 6) (lec (cof E (drN (nxS s) (nN E))) (some (drN (nxS (nxS s)) (nN E)))), ob A (ik, hr, ld), pb x (A 1) g, nb x (A 2) u, sb x (A 3) v, nb x (A 4) uk, sb x (A 5) vk, lb x (A 7) a z.2.1, nb x (a 0) z.2.2.1, nb x (a 1) z.2.2.2.1, nb x (a 2) z.2.2.2.2.1, gb x (A 11) (A 13) r z.2.2.2.2.2.1, rowsB x r z.2.2.2.2.2.2.1, nb x (A 13) z.2.2.2.2.2.2.2]) (uX2_giveLecture l x (A 6) (cof E (drN (nxS s) (nN E))) (by (try simp only [nN_ph, nN_lec, nN_cpy, nN_cof, nN_wak, nN_hrs]); omega) (some (drN (nxS (nxS s)) (nN E))) (fun j e => by cases e; rw [nN_cof]; exact drN_lt (nxS (nxS s)) (by omega))) kX2_giveLecture 0 rfl rfl rfl vX5_134 dX5_nights_111 (by decide) rfl rfl (Nat.le_of_ble_eq_true rfl) (qm_1 14 0 [1, 2, 3, 4, 5, 6, 7, 8, 9, 10, 11, 12, 13] (by decide +kernel) rfl rfl rfl) rfl ?_
      refine j_iload 4 dX5_nights_114 rfl ?_
      refine j_aload_n 1 dX5_nights_116 rfl rfl ?_
      refine j_get (v := .ref ((A 6) 0)) 5 dX5_nights_117 fX5_40 rfl rfl ?_
      refine j_cVi (As := []) (rest := [.int c]) (wr := fl [ob A (ik, hr, ld), pb x (A 1) g, nb x (A 2) u, sb x (A 3) v, nb x (A 4) uk, sb x (A 5) vk, lb x (A 7) a z.2.1, nb x (a 0) z.2.2.1, nb x (a 1) z.2.2.2.1, nb x (a 2) z.2.2.2.2.1, gb x (A 11) (A 13) r z.2.2.2.2.2.1, rowsB x r z.2.2.2.2.2.2.1, nb x (A 13) z.2.2.2.2.2.2.2]) (ws' := fl [nb x (A 6) (lec (cof E (drN (nxS s) (nN E))) (some (drN (nxS (nxS s)) (nN E)))), ob A (ik, hr, ld), pb x (A 1) g, nb x (A 2) u, sb x (A 3) v, nb x (A 4) uk, sb x (A 5) vk, lb x (A 7) a z.2.1, nb x (a 0) z.2.2.1, nb x (a 1) z.2.2.2.1, nb x (a 2) z.2.2.2.2.1, gb x (A 11) (A 13) r z.2.2.2.2.2.1, rowsB x r z.2.2.2.2.2.2.1, nb x (A 13) z.2.2.2.2.2.2.2]) (uX2_whoseBed l x (A 6) (lec (cof E (drN (nxS s) (nN E))) (some (drN (nxS (nxS s)) (nN E)))) (by (try simp only [nN_ph, nN_lec, nN_cpy, nN_cof, nN_wak, nN_hrs]); omega)) kX2_whoseBed 0 rfl rfl rfl vX5_107 dX5_nights_120 (by decide) rfl rfl (Nat.le_of_ble_eq_true rfl) (qm_1 14 0 [1, 2, 3, 4, 5, 6, 7, 8, 9, 10, 11, 12, 13] (by decide +kernel) rfl rfl rfl) rfl ?_
      refine j_if_ne (tgt := 130) dX5_nights_123 (by decide) (fun h123 => ?_) (fun h123 => ?_)
      · skip
        have hx : nN (lec (cof E (drN (nxS s) (nN E))) (some (drN (nxS (nxS s)) (nN E)))) = nN E := by rw [nN_lec, nN_cof]
        have eb0 : ¬ wbU (lec (cof E (drN (nxS s) (nN E))) (some (drN (nxS (nxS s)) (nN E)))) = some 0 := fun e => h123 ((oI_0 (fun i e => by have := wbU_lt e; omega)).mpr e)
        have eb : (wbU (lec (cof E (drN (nxS s) (nN E))) (some (drN (nxS (nxS s)) (nN E)))) == some 0) = false := by simp [eb0]
        refine j_iconst (v := 0) dX5_nights_130 (by decide) ?_
        refine j_iadd dX5_nights_131 ?_
        refine j_topi (b := c + bI (wbU (lec (cof E (drN (nxS s) (nN E))) (some (drN (nxS (nxS s)) (nN E)))) == some 0)) (by rw [eb]; rfl) ?_
        refine j_istore (lv' := [(5, .int (c + bI (wbU (lec (cof E (drN (nxS s) (nN E))) (some (drN (nxS (nxS s)) (nN E)))) == some 0))), (4, .int (nxS (nxS s))), (0, .ref ((A 0) 0)), (1, .int (nI hh)), (3, .int f), (6, .int (nI p))]) dX5_nights_132 (by decide) rfl ?_
        refine j_aload_n 2 dX5_nights_134 rfl rfl ?_
        refine j_get (v := .ref ((A 6) 0)) 5 dX5_nights_135 fX5_40 rfl rfl ?_
        refine j_cVv (As := []) (rest := []) (wr := fl [ob A (ik, hr, ld), pb x (A 1) g, nb x (A 2) u, sb x (A 3) v, nb x (A 4) uk, sb x (A 5) vk, lb x (A 7) a z.2.1, nb x (a 0) z.2.2.1, nb x (a 1) z.2.2.2.1, nb x (a 2) z.2.2.2.2.1, gb x (A 11) (A 13) r z.2.2.2.2.2.1, rowsB x r z.2.2.2.2.2.2.1, nb x (A 13) z.2.2.2.2.2.2.2]) (ws' := fl [nb x (A 6) (ph (lec (cof E (drN (nxS s) (nN E))) (some (drN (nxS (nxS s)) (nN E))))), ob A (ik, hr, ld), pb x (A 1) g, nb x (A 2) u, sb x (A 3) v, nb x (A 4) uk, sb x (A 5) vk, lb x (A 7) a z.2.1, nb x (a 0) z.2.2.1, nb x (a 1) z.2.2.2.1, nb x (a 2) z.2.2.2.2.1, gb x (A 11) (A 13) r z.2.2.2.2.2.1, rowsB x r z.2.2.2.2.2.2.1, nb x (A 13) z.2.2.2.2.2.2.2]) (uX2_passHour l x (A 6) (lec (cof E (drN (nxS s) (nN E))) (some (drN (nxS (nxS s)) (nN E)))) (by (try simp only [nN_ph, nN_lec, nN_cpy, nN_cof, nN_wak, nN_hrs]); omega)) kX2_passHour 0 rfl rfl rfl vX5_137 dX5_nights_138 (by decide) rfl rfl (Nat.le_of_ble_eq_true rfl) (qm_1 14 0 [1, 2, 3, 4, 5, 6, 7, 8, 9, 10, 11, 12, 13] (by decide +kernel) rfl rfl rfl) rfl ?_
        refine j_iinc (v := nI (p + 1)) (lv' := [(6, .int (nI (p + 1))), (5, .int (c + bI (wbU (lec (cof E (drN (nxS s) (nN E))) (some (drN (nxS (nxS s)) (nN E)))) == some 0))), (4, .int (nxS (nxS s))), (0, .ref ((A 0) 0)), (1, .int (nI hh)), (3, .int f)]) 5 dX5_nights_141 rfl (nI_1 p) (by decide) rfl ?_
        refine j_goto (tgt := 56) dX5_nights_144 (by decide) ?_
        refine j_lv [3, 4, 5, 2, 1, 0] (lv' := [(0, .ref ((A 0) 0)), (1, .int (nI hh)), (3, .int f), (4, .int (nxS (nxS s))), (5, .int (c + bI (wbU (lec (cof E (drN (nxS s) (nN E))) (some (drN (nxS (nxS s)) (nN E)))) == some 0))), (6, .int (nI (p + 1)))]) rfl ?_
        refine j_perm (fl [ob A (ik, hr, ld), pb x (A 1) g, nb x (A 2) u, sb x (A 3) v, nb x (A 4) uk, sb x (A 5) vk, nb x (A 6) (ph (lec (cof E (drN (nxS s) (nN E))) (some (drN (nxS (nxS s)) (nN E))))), lb x (A 7) a z.2.1, nb x (a 0) z.2.2.1, nb x (a 1) z.2.2.2.1, nb x (a 2) z.2.2.2.2.1, gb x (A 11) (A 13) r z.2.2.2.2.2.1, rowsB x r z.2.2.2.2.2.2.1, nb x (A 13) z.2.2.2.2.2.2.2]) (qm_b 14 [1, 2, 3, 4, 5, 6, 0, 7, 8, 9, 10, 11, 12, 13] (by decide +kernel) rfl rfl) ?_
        exact ih (p + 1) (nxS (nxS s)) (c + bI (wbU (lec (cof E (drN (nxS s) (nN E))) (some (drN (nxS (nxS s)) (nN E)))) == some 0)) (ph (lec (cof E (drN (nxS s) (nN E))) (some (drN (nxS (nxS s)) (nN E))))) (by omega) (by rw [← hc1, show hh - p = (hh - (p + 1)) + 1 by omega]; rfl) (by rw [nN_ph, nN_lec, nN_cof]; exact hc2) (by omega)
      · skip
        have hx : nN (lec (cof E (drN (nxS s) (nN E))) (some (drN (nxS (nxS s)) (nN E)))) = nN E := by rw [nN_lec, nN_cof]
        have eb0 : wbU (lec (cof E (drN (nxS s) (nN E))) (some (drN (nxS (nxS s)) (nN E)))) = some 0 := (oI_0 (fun i e => by have := wbU_lt e; omega)).mp h123
        have eb : (wbU (lec (cof E (drN (nxS s) (nN E))) (some (drN (nxS (nxS s)) (nN E)))) == some 0) = true := by simp [eb0]
        refine j_iconst (v := 1) dX5_nights_126 (by decide) ?_
        refine j_goto (tgt := 131) dX5_nights_127 (by decide) ?_
        refine j_iadd dX5_nights_131 ?_
        refine j_topi (b := c + bI (wbU (lec (cof E (drN (nxS s) (nN E))) (some (drN (nxS (nxS s)) (nN E)))) == some 0)) (by rw [eb]; rfl) ?_
        refine j_istore (lv' := [(5, .int (c + bI (wbU (lec (cof E (drN (nxS s) (nN E))) (some (drN (nxS (nxS s)) (nN E)))) == some 0))), (4, .int (nxS (nxS s))), (0, .ref ((A 0) 0)), (1, .int (nI hh)), (3, .int f), (6, .int (nI p))]) dX5_nights_132 (by decide) rfl ?_
        refine j_aload_n 2 dX5_nights_134 rfl rfl ?_
        refine j_get (v := .ref ((A 6) 0)) 5 dX5_nights_135 fX5_40 rfl rfl ?_
        refine j_cVv (As := []) (rest := []) (wr := fl [ob A (ik, hr, ld), pb x (A 1) g, nb x (A 2) u, sb x (A 3) v, nb x (A 4) uk, sb x (A 5) vk, lb x (A 7) a z.2.1, nb x (a 0) z.2.2.1, nb x (a 1) z.2.2.2.1, nb x (a 2) z.2.2.2.2.1, gb x (A 11) (A 13) r z.2.2.2.2.2.1, rowsB x r z.2.2.2.2.2.2.1, nb x (A 13) z.2.2.2.2.2.2.2]) (ws' := fl [nb x (A 6) (ph (lec (cof E (drN (nxS s) (nN E))) (some (drN (nxS (nxS s)) (nN E))))), ob A (ik, hr, ld), pb x (A 1) g, nb x (A 2) u, sb x (A 3) v, nb x (A 4) uk, sb x (A 5) vk, lb x (A 7) a z.2.1, nb x (a 0) z.2.2.1, nb x (a 1) z.2.2.2.1, nb x (a 2) z.2.2.2.2.1, gb x (A 11) (A 13) r z.2.2.2.2.2.1, rowsB x r z.2.2.2.2.2.2.1, nb x (A 13) z.2.2.2.2.2.2.2]) (uX2_passHour l x (A 6) (lec (cof E (drN (nxS s) (nN E))) (some (drN (nxS (nxS s)) (nN E)))) (by (try simp only [nN_ph, nN_lec, nN_cpy, nN_cof, nN_wak, nN_hrs]); omega)) kX2_passHour 0 rfl rfl rfl vX5_137 dX5_nights_138 (by decide) rfl rfl (Nat.le_of_ble_eq_true rfl) (qm_1 14 0 [1, 2, 3, 4, 5, 6, 7, 8, 9, 10, 11, 12, 13] (by decide +kernel) rfl rfl rfl) rfl ?_
        refine j_iinc (v := nI (p + 1)) (lv' := [(6, .int (nI (p + 1))), (5, .int (c + bI (wbU (lec (cof E (drN (nxS s) (nN E))) (some (drN (nxS (nxS s)) (nN E)))) == some 0))), (4, .int (nxS (nxS s))), (0, .ref ((A 0) 0)), (1, .int (nI hh)), (3, .int f)]) 5 dX5_nights_141 rfl (nI_1 p) (by decide) rfl ?_
        refine j_goto (tgt := 56) dX5_nights_144 (by decide) ?_
        refine j_lv [3, 4, 5, 2, 1, 0] (lv' := [(0, .ref ((A 0) 0)), (1, .int (nI hh)), (3, .int f), (4, .int (nxS (nxS s))), (5, .int (c + bI (wbU (lec (cof E (drN (nxS s) (nN E))) (some (drN (nxS (nxS s)) (nN E)))) == some 0))), (6, .int (nI (p + 1)))]) rfl ?_
        refine j_perm (fl [ob A (ik, hr, ld), pb x (A 1) g, nb x (A 2) u, sb x (A 3) v, nb x (A 4) uk, sb x (A 5) vk, nb x (A 6) (ph (lec (cof E (drN (nxS s) (nN E))) (some (drN (nxS (nxS s)) (nN E))))), lb x (A 7) a z.2.1, nb x (a 0) z.2.2.1, nb x (a 1) z.2.2.2.1, nb x (a 2) z.2.2.2.2.1, gb x (A 11) (A 13) r z.2.2.2.2.2.1, rowsB x r z.2.2.2.2.2.2.1, nb x (A 13) z.2.2.2.2.2.2.2]) (qm_b 14 [1, 2, 3, 4, 5, 6, 0, 7, 8, 9, 10, 11, 12, 13] (by decide +kernel) rfl rfl) ?_
        exact ih (p + 1) (nxS (nxS s)) (c + bI (wbU (lec (cof E (drN (nxS s) (nN E))) (some (drN (nxS (nxS s)) (nN E)))) == some 0)) (ph (lec (cof E (drN (nxS s) (nN E))) (some (drN (nxS (nxS s)) (nN E))))) (by omega) (by rw [← hc1, show hh - p = (hh - (p + 1)) + 1 by omega]; rfl) (by rw [nN_ph, nN_lec, nN_cof]; exact hc2) (by omega)
set_option maxHeartbeats 4000000 in
set_option maxRecDepth 100000 in
theorem tX5_nights (l : Launch) (x : Cx) (A a : Nat → Nat → Nat) (r : Nat → Nat) (ik : Bool) (hr ld : Nat) (g : PG) (u : NS) (v : SS) (uk : NS) (vk : SS) (hld : ld ≤ 40) (hg : g.2 ≤ 18) (hu : nN u ≤ 5) (hv : v.2.2 ≤ 6) (huk : nN uk ≤ 5) (hvk : vk.2.2 ≤ 6) (e s9 f : Int32) (z : ZS) (hz : zok z) : MC l x 10 0 0 yX5_nights cX5_nights 7 (some .int) [.ref ((A 0) 0), .int e, .int s9, .int f] (cw x A a r ((ik, hr, ld), g, u, v, uk, vk) z) (pS5 x A a r (kNightsR u e s9 f) (((ik, hr, ld), g, u, v, uk, vk))) := by
  have hw : nN z.1 ≤ 5 := hz.1
  have hw0 : nN z.2.2.1 ≤ 5 := hz.2.1
  have hw1 : nN z.2.2.2.1 ≤ 5 := hz.2.2.1
  have hw2 : nN z.2.2.2.2.1 ≤ 5 := hz.2.2.2.1
  have hw3 : nN z.2.2.2.2.2.2.2 ≤ 5 := hz.2.2.2.2
  refine MC.of (by decide) (Nat.le_of_ble_eq_true rfl) eXI_fit (fun M => ?_)
  show J M l x cX5_nights 7 yX5_nights 10 (pS5 x A a r (kNightsR u e s9 f) (((ik, hr, ld), g, u, v, uk, vk))) 0 0 0 [(0, .ref ((A 0) 0)), (1, .int e), (2, .int s9), (3, .int f)] [] (fl [ob A (ik, hr, ld), pb x (A 1) g, nb x (A 2) u, sb x (A 3) v, nb x (A 4) uk, sb x (A 5) vk, nb x (A 6) z.1, lb x (A 7) a z.2.1, nb x (a 0) z.2.2.1, nb x (a 1) z.2.2.2.1, nb x (a 2) z.2.2.2.2.1, gb x (A 11) (A 13) r z.2.2.2.2.2.1, rowsB x r z.2.2.2.2.2.2.1, nb x (A 13) z.2.2.2.2.2.2.2])
  refine j_iload_n 1 dX5_nights_0 rfl rfl ?_
  refine j_iconst (v := 1) dX5_nights_1 (by decide) ?_
  refine j_bipush (v := 60) dX5_nights_2 (by decide) ?_
  refine j_cSi (As := [.int e, .int 1, .int 60]) (rest := []) (wr := fl [ob A (ik, hr, ld), pb x (A 1) g, nb x (A 2) u, sb x (A 3) v, nb x (A 4) uk, sb x (A 5) vk, nb x (A 6) z.1, lb x (A 7) a z.2.1, nb x (a 0) z.2.2.1, nb x (a 1) z.2.2.2.1, nb x (a 2) z.2.2.2.2.1, gb x (A 11) (A 13) r z.2.2.2.2.2.1, rowsB x r z.2.2.2.2.2.2.1, nb x (A 13) z.2.2.2.2.2.2.2]) (ws' := fl [ob A (ik, hr, ld), pb x (A 1) g, nb x (A 2) u, sb x (A 3) v, nb x (A 4) uk, sb x (A 5) vk, nb x (A 6) z.1, lb x (A 7) a z.2.1, nb x (a 0) z.2.2.1, nb x (a 1) z.2.2.2.1, nb x (a 2) z.2.2.2.2.1, gb x (A 11) (A 13) r z.2.2.2.2.2.1, rowsB x r z.2.2.2.2.2.2.1, nb x (A 13) z.2.2.2.2.2.2.2]) (tX5_isWithin l x e 1 60) kX5_isWithin sX5_64 dX5_nights_4 (by decide) rfl rfl (Nat.le_of_ble_eq_true rfl) (List.Perm.refl _) rfl ?_
  refine j_ifb_eq (b := isW e 1 60) (tgt := 23) dX5_nights_7 (by decide) (fun h7 => ?_) (fun h7 => ?_)
  · skip
    refine j_bipush (v := (-102)) dX5_nights_23 (by decide) ?_
    rw [show kNightsR u e s9 f = (-102) from by simp [kNightsR, h7]]
    exact j_iret _ dX5_nights_25 (List.Perm.refl _) ⟨rfl, (z.1, z.2.1, z.2.2.1, z.2.2.2.1, z.2.2.2.2.1, z.2.2.2.2.2.1, z.2.2.2.2.2.2.1, z.2.2.2.2.2.2.2), ⟨(by (try simp only [nN_ph, nN_lec, nN_cpy, nN_cof, nN_wak, nN_hrs]); omega), (by (try simp only [nN_ph, nN_lec, nN_cpy, nN_cof, nN_wak, nN_hrs]); omega), (by (try simp only [nN_ph, nN_lec, nN_cpy, nN_cof, nN_wak, nN_hrs]); omega), (by (try simp only [nN_ph, nN_lec, nN_cpy, nN_cof, nN_wak, nN_hrs]); omega), (by (try simp only [nN_ph, nN_lec, nN_cpy, nN_cof, nN_wak, nN_hrs]); omega)⟩, rfl⟩
  · skip
    obtain ⟨hh, hlo, hhi, rfl⟩ := isW_nat (lo := 1) (hi := 60) (by decide) (by decide) h7
    have hhc : (nI hh).toNatClampNeg = hh := nI_clamp (by omega)
    refine j_iload_n 2 dX5_nights_10 rfl rfl ?_
    refine j_if_lt (tgt := 23) dX5_nights_11 (by decide) (fun h11 => ?_) (fun h11 => ?_)
    · skip
      refine j_bipush (v := (-102)) dX5_nights_23 (by decide) ?_
      rw [show kNightsR u (nI hh) s9 f = (-102) from by simp [kNightsR, h7, hhc, h11]]
      exact j_iret _ dX5_nights_25 (List.Perm.refl _) ⟨rfl, (z.1, z.2.1, z.2.2.1, z.2.2.2.1, z.2.2.2.2.1, z.2.2.2.2.2.1, z.2.2.2.2.2.2.1, z.2.2.2.2.2.2.2), ⟨(by (try simp only [nN_ph, nN_lec, nN_cpy, nN_cof, nN_wak, nN_hrs]); omega), (by (try simp only [nN_ph, nN_lec, nN_cpy, nN_cof, nN_wak, nN_hrs]); omega), (by (try simp only [nN_ph, nN_lec, nN_cpy, nN_cof, nN_wak, nN_hrs]); omega), (by (try simp only [nN_ph, nN_lec, nN_cpy, nN_cof, nN_wak, nN_hrs]); omega), (by (try simp only [nN_ph, nN_lec, nN_cpy, nN_cof, nN_wak, nN_hrs]); omega)⟩, rfl⟩
    · skip
      refine j_iload_n 3 dX5_nights_14 rfl rfl ?_
      refine j_iconst (v := 0) dX5_nights_15 (by decide) ?_
      refine j_iconst (v := 2) dX5_nights_16 (by decide) ?_
      refine j_cSi (As := [.int f, .int 0, .int 2]) (rest := []) (wr := fl [ob A (ik, hr, ld), pb x (A 1) g, nb x (A 2) u, sb x (A 3) v, nb x (A 4) uk, sb x (A 5) vk, nb x (A 6) z.1, lb x (A 7) a z.2.1, nb x (a 0) z.2.2.1, nb x (a 1) z.2.2.2.1, nb x (a 2) z.2.2.2.2.1, gb x (A 11) (A 13) r z.2.2.2.2.2.1, rowsB x r z.2.2.2.2.2.2.1, nb x (A 13) z.2.2.2.2.2.2.2]) (ws' := fl [ob A (ik, hr, ld), pb x (A 1) g, nb x (A 2) u, sb x (A 3) v, nb x (A 4) uk, sb x (A 5) vk, nb x (A 6) z.1, lb x (A 7) a z.2.1, nb x (a 0) z.2.2.1, nb x (a 1) z.2.2.2.1, nb x (a 2) z.2.2.2.2.1, gb x (A 11) (A 13) r z.2.2.2.2.2.1, rowsB x r z.2.2.2.2.2.2.1, nb x (A 13) z.2.2.2.2.2.2.2]) (tX5_isWithin l x f 0 2) kX5_isWithin sX5_64 dX5_nights_17 (by decide) rfl rfl (Nat.le_of_ble_eq_true rfl) (List.Perm.refl _) rfl ?_
      refine j_ifb_ne (b := isW f 0 2) (tgt := 26) dX5_nights_20 (by decide) (fun h20 => ?_) (fun h20 => ?_)
      · skip
        refine j_aload_n 0 dX5_nights_26 rfl rfl ?_
        refine j_cVi (As := []) (rest := []) (wr := fl [pb x (A 1) g, sb x (A 3) v, nb x (A 4) uk, sb x (A 5) vk, nb x (A 6) z.1, lb x (A 7) a z.2.1, nb x (a 0) z.2.2.1, nb x (a 1) z.2.2.2.1, nb x (a 2) z.2.2.2.2.1, gb x (A 11) (A 13) r z.2.2.2.2.2.1, rowsB x r z.2.2.2.2.2.2.1, nb x (A 13) z.2.2.2.2.2.2.2]) (ws' := fl [ob A (ik, hr, ld), nb x (A 2) u, pb x (A 1) g, sb x (A 3) v, nb x (A 4) uk, sb x (A 5) vk, nb x (A 6) z.1, lb x (A 7) a z.2.1, nb x (a 0) z.2.2.1, nb x (a 1) z.2.2.2.1, nb x (a 2) z.2.2.2.2.1, gb x (A 11) (A 13) r z.2.2.2.2.2.1, rowsB x r z.2.2.2.2.2.2.1, nb x (A 13) z.2.2.2.2.2.2.2]) (tX5_hasHouse l x A ik hr ld u hu) kX5_hasHouse 0 rfl rfl rfl vX5_127 dX5_nights_27 (by decide) rfl rfl (Nat.le_of_ble_eq_true rfl) (qm_c 14 [0, 2] [1, 3, 4, 5, 6, 7, 8, 9, 10, 11, 12, 13] (by decide +kernel) rfl rfl rfl) (fl_app _ _) ?_
        refine j_ifb_ne (b := decide (0 < nN u)) (tgt := 36) dX5_nights_30 (by decide) (fun h30 => ?_) (fun h30 => ?_)
        · skip
          have h0 : ¬ nN u = 0 := by have := of_decide_eq_true h30; omega
          refine j_aload_n 0 dX5_nights_36 rfl rfl ?_
          refine j_get (v := .ref ((A 6) 0)) 0 dX5_nights_37 fX5_40 rfl rfl ?_
          refine j_aload_n 0 dX5_nights_40 rfl rfl ?_
          refine j_get (v := .ref ((A 2) 0)) 0 dX5_nights_41 fX5_19 rfl rfl ?_
          refine j_cVv (As := [.ref ((A 2) 0)]) (rest := []) (wr := fl [ob A (ik, hr, ld), pb x (A 1) g, sb x (A 3) v, nb x (A 4) uk, sb x (A 5) vk, lb x (A 7) a z.2.1, nb x (a 0) z.2.2.1, nb x (a 1) z.2.2.2.1, nb x (a 2) z.2.2.2.2.1, gb x (A 11) (A 13) r z.2.2.2.2.2.1, rowsB x r z.2.2.2.2.2.2.1, nb x (A 13) z.2.2.2.2.2.2.2]) (ws' := fl [nb x (A 6) (cpy u z.1), nb x (A 2) u, ob A (ik, hr, ld), pb x (A 1) g, sb x (A 3) v, nb x (A 4) uk, sb x (A 5) vk, lb x (A 7) a z.2.1, nb x (a 0) z.2.2.1, nb x (a 1) z.2.2.2.1, nb x (a 2) z.2.2.2.2.1, gb x (A 11) (A 13) r z.2.2.2.2.2.1, rowsB x r z.2.2.2.2.2.2.1, nb x (A 13) z.2.2.2.2.2.2.2]) (uX2_copyFrom l x (A 6) z.1 (A 2) u (by (try simp only [nN_ph, nN_lec, nN_cpy, nN_cof, nN_wak, nN_hrs]); omega)) kX2_copyFrom 0 rfl rfl rfl vX5_167 dX5_nights_44 (by decide) rfl rfl (Nat.le_of_ble_eq_true rfl) (qm_2 14 6 1 [0, 2, 3, 4, 5, 7, 8, 9, 10, 11, 12, 13] (by decide +kernel) rfl rfl rfl rfl) (List.append_assoc _ _ _) ?_
          refine j_iload_n 2 dX5_nights_47 rfl rfl ?_
          refine j_istore (lv' := [(4, .int s9), (0, .ref ((A 0) 0)), (1, .int (nI hh)), (2, .int s9), (3, .int f)]) dX5_nights_48 (by decide) rfl ?_
          refine j_iconst (v := 0) dX5_nights_50 (by decide) ?_
          refine j_istore (lv' := [(5, .int 0), (4, .int s9), (0, .ref ((A 0) 0)), (1, .int (nI hh)), (2, .int s9), (3, .int f)]) dX5_nights_51 (by decide) rfl ?_
          refine j_iconst (v := nI 0) dX5_nights_53 (by decide) ?_
          refine j_istore (lv' := [(6, .int (nI 0)), (5, .int 0), (4, .int s9), (0, .ref ((A 0) 0)), (1, .int (nI hh)), (2, .int s9), (3, .int f)]) dX5_nights_54 (by decide) rfl ?_
          refine j_lv [3, 4, 6, 2, 1, 0] (lv' := [(0, .ref ((A 0) 0)), (1, .int (nI hh)), (3, .int f), (4, .int s9), (5, .int 0), (6, .int (nI 0))]) rfl ?_
          refine j_perm (fl [ob A (ik, hr, ld), pb x (A 1) g, nb x (A 2) u, sb x (A 3) v, nb x (A 4) uk, sb x (A 5) vk, nb x (A 6) (cpy u z.1), lb x (A 7) a z.2.1, nb x (a 0) z.2.2.1, nb x (a 1) z.2.2.2.1, nb x (a 2) z.2.2.2.2.1, gb x (A 11) (A 13) r z.2.2.2.2.2.1, rowsB x r z.2.2.2.2.2.2.1, nb x (A 13) z.2.2.2.2.2.2.2]) (qm_b 14 [2, 3, 1, 4, 5, 6, 0, 7, 8, 9, 10, 11, 12, 13] (by decide +kernel) rfl rfl) ?_
          have hcg := ngI_cong hh s9 0 (cpy u z.1) u (eqN_cpy u z.1) (by rw [nN_cpy]; omega)
          have hl := lp_nights (M := M) (k0 := 0) (n0 := 0) l x A a r ik hr ld g u v uk vk hu (by omega) z hz hh (by omega) s9 f _ (hh + 1) 0 s9 0 (cpy u z.1) (by omega) rfl (nN_cpy u z.1) (by omega)
          rw [show kNightsR u (nI hh) s9 f = (if f = 2 then (ngI (hh - 0) (s9, cpy u z.1, 0)).1 else if f = 0 then (ngI (hh - 0) (s9, cpy u z.1, 0)).2.2 else nI (cntS (ngI (hh - 0) (s9, cpy u z.1, 0)).2.1.2.2.1 (nN (ngI (hh - 0) (s9, cpy u z.1, 0)).2.1))) from by
            rw [kNightsR, if_pos h7, if_neg h11, if_pos h20, if_neg h0, hhc, kNights, Nat.sub_zero, hcg.1, hcg.2.2, hcg.2.1.sE]]
          exact hl
        · skip
          have h0 : nN u = 0 := by simpa using h30
          refine j_bipush (v := (-103)) dX5_nights_33 (by decide) ?_
          refine j_perm (fl [ob A (ik, hr, ld), pb x (A 1) g, nb x (A 2) u, sb x (A 3) v, nb x (A 4) uk, sb x (A 5) vk, nb x (A 6) z.1, lb x (A 7) a z.2.1, nb x (a 0) z.2.2.1, nb x (a 1) z.2.2.2.1, nb x (a 2) z.2.2.2.2.1, gb x (A 11) (A 13) r z.2.2.2.2.2.1, rowsB x r z.2.2.2.2.2.2.1, nb x (A 13) z.2.2.2.2.2.2.2]) (qm_b 14 [0, 2, 1, 3, 4, 5, 6, 7, 8, 9, 10, 11, 12, 13] (by decide +kernel) rfl rfl) ?_
          rw [show kNightsR u (nI hh) s9 f = (-103) from by simp [kNightsR, h7, hhc, h11, h20, h0]]
          exact j_iret _ dX5_nights_35 (List.Perm.refl _) ⟨rfl, (z.1, z.2.1, z.2.2.1, z.2.2.2.1, z.2.2.2.2.1, z.2.2.2.2.2.1, z.2.2.2.2.2.2.1, z.2.2.2.2.2.2.2), ⟨(by (try simp only [nN_ph, nN_lec, nN_cpy, nN_cof, nN_wak, nN_hrs]); omega), (by (try simp only [nN_ph, nN_lec, nN_cpy, nN_cof, nN_wak, nN_hrs]); omega), (by (try simp only [nN_ph, nN_lec, nN_cpy, nN_cof, nN_wak, nN_hrs]); omega), (by (try simp only [nN_ph, nN_lec, nN_cpy, nN_cof, nN_wak, nN_hrs]); omega), (by (try simp only [nN_ph, nN_lec, nN_cpy, nN_cof, nN_wak, nN_hrs]); omega)⟩, rfl⟩
      · skip
        refine j_bipush (v := (-102)) dX5_nights_23 (by decide) ?_
        rw [show kNightsR u (nI hh) s9 f = (-102) from by simp [kNightsR, h7, hhc, h11, h20]]
        exact j_iret _ dX5_nights_25 (List.Perm.refl _) ⟨rfl, (z.1, z.2.1, z.2.2.1, z.2.2.2.1, z.2.2.2.2.1, z.2.2.2.2.2.1, z.2.2.2.2.2.2.1, z.2.2.2.2.2.2.2), ⟨(by (try simp only [nN_ph, nN_lec, nN_cpy, nN_cof, nN_wak, nN_hrs]); omega), (by (try simp only [nN_ph, nN_lec, nN_cpy, nN_cof, nN_wak, nN_hrs]); omega), (by (try simp only [nN_ph, nN_lec, nN_cpy, nN_cof, nN_wak, nN_hrs]); omega), (by (try simp only [nN_ph, nN_lec, nN_cpy, nN_cof, nN_wak, nN_hrs]); omega), (by (try simp only [nN_ph, nN_lec, nN_cpy, nN_cof, nN_wak, nN_hrs]); omega)⟩, rfl⟩
set_option maxHeartbeats 4000000 in
set_option maxRecDepth 100000 in
theorem lp_dgC {M : Mx} (l : Launch) (x : Cx) (A a : Nat → Nat → Nat) (r : Nat → Nat) (ik : Bool) (hr ld : Nat) (g : PG) (u : NS) (v : SS) (uk : NS) (vk : SS) (hld : ld ≤ 40) (hg : g.2 ≤ 18) (hu : nN u ≤ 5) (hv : v.2.2 ≤ 6) (huk : nN uk ≤ 5) (hvk : vk.2.2 ≤ 6) {k0 n0 : Nat}  : ∀ (m : Nat) (b : Nat) (h : Int64) (z : ZS), b ≤ 9 → itr (fun a h => mx h (kCount (ik, hr, ld) g u v (nI a))) (9 - b) b h = kDigest (ik, hr, ld) g u v → zok z → 9 - b < m → J M l x cX5_digest 5 yX5_digest 11 (pL5 x A a r (kDigest (ik, hr, ld) g u v) ((ik, hr, ld), g, u, v, uk, vk)) k0 n0 153 [(0, .ref ((A 0) 0)), (1, .long h), (3, .int (nI b))] [] (fl [ob A (ik, hr, ld), pb x (A 1) g, nb x (A 2) u, sb x (A 3) v, nb x (A 4) uk, sb x (A 5) vk, nb x (A 6) z.1, lb x (A 7) a z.2.1, nb x (a 0) z.2.2.1, nb x (a 1) z.2.2.2.1, nb x (a 2) z.2.2.2.2.1, gb x (A 11) (A 13) r z.2.2.2.2.2.1, rowsB x r z.2.2.2.2.2.2.1, nb x (A 13) z.2.2.2.2.2.2.2]) := by
  intro m; induction m with
  | zero => intro b h z hc0 hc1 hc2 hm; exact absurd hm (Nat.not_lt_zero _)
  | succ m ih =>
    intro b h z hc0 hc1 hc2 hm
    have hz := hc2
    have hw : nN z.1 ≤ 5 := hz.1
    have hw0 : nN z.2.2.1 ≤ 5 := hz.2.1
    have hw1 : nN z.2.2.2.1 ≤ 5 := hz.2.2.1
    have hw2 : nN z.2.2.2.2.1 ≤ 5 := hz.2.2.2.1
    have hw3 : nN z.2.2.2.2.2.2.2 ≤ 5 := hz.2.2.2.2
    refine j_iload_n 2 dX5_digest_153 rfl rfl ?_
    refine j_bipush (v := 8) dX5_digest_154 (by decide) ?_
    refine j_icmpN_gt (a := b) (b := 8) (by omega) (by omega) (tgt := 176) dX5_digest_156 (by decide) (fun h156 => ?_) (fun h156 => ?_)
    · skip
      refine j_lload_n 1 dX5_digest_176 rfl rfl ?_
      exact j_lret _ dX5_digest_177 (List.Perm.refl _) ⟨by rw [← hc1, itr_end (n := 9) (b := b) (by omega)], (z.1, z.2.1, z.2.2.1, z.2.2.2.1, z.2.2.2.2.1, z.2.2.2.2.2.1, z.2.2.2.2.2.2.1, z.2.2.2.2.2.2.2), ⟨(by (try simp only [nN_ph, nN_lec, nN_cpy, nN_cof, nN_wak, nN_hrs]); omega), (by (try simp only [nN_ph, nN_lec, nN_cpy, nN_cof, nN_wak, nN_hrs]); omega), (by (try simp only [nN_ph, nN_lec, nN_cpy, nN_cof, nN_wak, nN_hrs]); omega), (by (try simp only [nN_ph, nN_lec, nN_cpy, nN_cof, nN_wak, nN_hrs]); omega), (by (try simp only [nN_ph, nN_lec, nN_cpy, nN_cof, nN_wak, nN_hrs]); omega)⟩, rfl⟩
    · skip
      refine j_lload_n 1 dX5_digest_159 rfl rfl ?_
      refine j_aload_n 0 dX5_digest_160 rfl rfl ?_
      refine j_iload_n 2 dX5_digest_161 rfl rfl ?_
      refine j_callV (As := [.int (nI b)]) (rest := [.long h]) (wr := []) (tX5_count l x A a r ik hr ld g u v uk vk hld hg hu hv huk hvk (nI b) (z.1, z.2.1, z.2.2.1, z.2.2.2.1, z.2.2.2.2.1, z.2.2.2.2.2.1, z.2.2.2.2.2.2.1, z.2.2.2.2.2.2.2) ⟨(by (try simp only [nN_ph, nN_lec, nN_cpy, nN_cof, nN_wak, nN_hrs]); omega), (by (try simp only [nN_ph, nN_lec, nN_cpy, nN_cof, nN_wak, nN_hrs]); omega), (by (try simp only [nN_ph, nN_lec, nN_cpy, nN_cof, nN_wak, nN_hrs]); omega), (by (try simp only [nN_ph, nN_lec, nN_cpy, nN_cof, nN_wak, nN_hrs]); omega), (by (try simp only [nN_ph, nN_lec, nN_cpy, nN_cof, nN_wak, nN_hrs]); omega)⟩) kX5_count vX5_207 0 rfl rfl rfl dX5_digest_162 (by decide) (Nat.le_of_eq (Nat.zero_add _)) (Nat.le_of_eq (Nat.zero_add _)) rfl rfl (Nat.le_of_ble_eq_true rfl) (pm_0 _) (fun v9 w9 hv9 => ?_)
      obtain ⟨rfl, z1, hz1, rfl⟩ := hv9
      refine j_eq (lv' := [(0, .ref ((A 0) 0)), (1, .long h), (3, .int (nI b))]) (st' := [.int (kCount (ik, hr, ld) g u v (nI b)), .long h]) (ws' := fl [ob A (ik, hr, ld), pb x (A 1) g, nb x (A 2) u, sb x (A 3) v, nb x (A 4) uk, sb x (A 5) vk, nb x (A 6) z1.1, lb x (A 7) a z1.2.1, nb x (a 0) z1.2.2.1, nb x (a 1) z1.2.2.2.1, nb x (a 2) z1.2.2.2.2.1, gb x (A 11) (A 13) r z1.2.2.2.2.2.1, rowsB x r z1.2.2.2.2.2.2.1, nb x (A 13) z1.2.2.2.2.2.2.2]) rfl rfl (List.append_nil _) ?_
      have hw : nN z1.1 ≤ 5 := hz1.1
      have hw0 : nN z1.2.2.1 ≤ 5 := hz1.2.1
      have hw1 : nN z1.2.2.2.1 ≤ 5 := hz1.2.2.1
      have hw2 : nN z1.2.2.2.2.1 ≤ 5 := hz1.2.2.2.1
      have hw3 : nN z1.2.2.2.2.2.2.2 ≤ 5 := hz1.2.2.2.2
      refine j_i2l dX5_digest_165 ?_
      refine j_cSl (As := [.long h, .long ((kCount (ik, hr, ld) g u v (nI b)).toInt64)]) (rest := []) (wr := fl [ob A (ik, hr, ld), pb x (A 1) g, nb x (A 2) u, sb x (A 3) v, nb x (A 4) uk, sb x (A 5) vk, nb x (A 6) z1.1, lb x (A 7) a z1.2.1, nb x (a 0) z1.2.2.1, nb x (a 1) z1.2.2.2.1, nb x (a 2) z1.2.2.2.2.1, gb x (A 11) (A 13) r z1.2.2.2.2.2.1, rowsB x r z1.2.2.2.2.2.2.1, nb x (A 13) z1.2.2.2.2.2.2.2]) (ws' := fl [ob A (ik, hr, ld), pb x (A 1) g, nb x (A 2) u, sb x (A 3) v, nb x (A 4) uk, sb x (A 5) vk, nb x (A 6) z1.1, lb x (A 7) a z1.2.1, nb x (a 0) z1.2.2.1, nb x (a 1) z1.2.2.2.1, nb x (a 2) z1.2.2.2.2.1, gb x (A 11) (A 13) r z1.2.2.2.2.2.1, rowsB x r z1.2.2.2.2.2.2.1, nb x (A 13) z1.2.2.2.2.2.2.2]) (tX5_mixed l x h ((kCount (ik, hr, ld) g u v (nI b)).toInt64)) kX5_mixed sX5_194 dX5_digest_166 (by decide) rfl rfl (Nat.le_of_ble_eq_true rfl) (List.Perm.refl _) rfl ?_
      refine j_lstore_n (lv' := [(1, .long (31 * h + ((kCount (ik, hr, ld) g u v (nI b)).toInt64))), (0, .ref ((A 0) 0)), (3, .int (nI b))]) dX5_digest_169 rfl (by decide) rfl ?_
      refine j_iinc (v := nI (b + 1)) (lv' := [(3, .int (nI (b + 1))), (1, .long (31 * h + ((kCount (ik, hr, ld) g u v (nI b)).toInt64))), (0, .ref ((A 0) 0))]) 2 dX5_digest_170 rfl (nI_1 b) (by decide) rfl ?_
      refine j_goto (tgt := 153) dX5_digest_173 (by decide) ?_
      refine j_lv [2, 1, 0] (lv' := [(0, .ref ((A 0) 0)), (1, .long (31 * h + ((kCount (ik, hr, ld) g u v (nI b)).toInt64))), (3, .int (nI (b + 1)))]) rfl ?_
      exact ih (b + 1) _ (z1.1, z1.2.1, z1.2.2.1, z1.2.2.2.1, z1.2.2.2.2.1, z1.2.2.2.2.2.1, z1.2.2.2.2.2.2.1, z1.2.2.2.2.2.2.2) (by omega) (by rw [← hc1, itr_go (n := 9) (b := b) (by omega)]; rfl) ⟨(by (try simp only [nN_ph, nN_lec, nN_cpy, nN_cof, nN_wak, nN_hrs]); omega), (by (try simp only [nN_ph, nN_lec, nN_cpy, nN_cof, nN_wak, nN_hrs]); omega), (by (try simp only [nN_ph, nN_lec, nN_cpy, nN_cof, nN_wak, nN_hrs]); omega), (by (try simp only [nN_ph, nN_lec, nN_cpy, nN_cof, nN_wak, nN_hrs]); omega), (by (try simp only [nN_ph, nN_lec, nN_cpy, nN_cof, nN_wak, nN_hrs]); omega)⟩ (by omega)
set_option maxHeartbeats 4000000 in
set_option maxRecDepth 100000 in
theorem lp_dgP {M : Mx} (l : Launch) (x : Cx) (A a : Nat → Nat → Nat) (r : Nat → Nat) (ik : Bool) (hr ld : Nat) (g : PG) (u : NS) (v : SS) (uk : NS) (vk : SS) (hld : ld ≤ 40) (hg : g.2 ≤ 18) (hu : nN u ≤ 5) (hv : v.2.2 ≤ 6) (huk : nN uk ≤ 5) (hvk : vk.2.2 ≤ 6) {k0 n0 : Nat}  : ∀ (m : Nat) (p : Nat) (h : Int64) (z : ZS), p ≤ g.2 → itr (fun p h => mx h (g.1 p)) (g.2 - p) p h = dgP g (dgB u (itr (dgL u v) (nN u) 0 953)) → zok z → g.2 - p < m → J M l x cX5_digest 5 yX5_digest 11 (pL5 x A a r (kDigest (ik, hr, ld) g u v) ((ik, hr, ld), g, u, v, uk, vk)) k0 n0 120 [(0, .ref ((A 0) 0)), (1, .long h), (3, .int (nI p))] [] (fl [ob A (ik, hr, ld), pb x (A 1) g, nb x (A 2) u, sb x (A 3) v, nb x (A 4) uk, sb x (A 5) vk, nb x (A 6) z.1, lb x (A 7) a z.2.1, nb x (a 0) z.2.2.1, nb x (a 1) z.2.2.2.1, nb x (a 2) z.2.2.2.2.1, gb x (A 11) (A 13) r z.2.2.2.2.2.1, rowsB x r z.2.2.2.2.2.2.1, nb x (A 13) z.2.2.2.2.2.2.2]) := by
  intro m; induction m with
  | zero => intro p h z hc0 hc1 hc2 hm; exact absurd hm (Nat.not_lt_zero _)
  | succ m ih =>
    intro p h z hc0 hc1 hc2 hm
    have hz := hc2
    have hw : nN z.1 ≤ 5 := hz.1
    have hw0 : nN z.2.2.1 ≤ 5 := hz.2.1
    have hw1 : nN z.2.2.2.1 ≤ 5 := hz.2.2.1
    have hw2 : nN z.2.2.2.2.1 ≤ 5 := hz.2.2.2.1
    have hw3 : nN z.2.2.2.2.2.2.2 ≤ 5 := hz.2.2.2.2
    refine j_iload_n 2 dX5_digest_120 rfl rfl ?_
    refine j_aload_n 0 dX5_digest_121 rfl rfl ?_
    refine j_get (v := .ref ((A 1) 0)) 0 dX5_digest_122 fX5_10 rfl rfl ?_
    refine j_cVi (As := []) (rest := [.int (nI p)]) (wr := fl [ob A (ik, hr, ld), nb x (A 2) u, sb x (A 3) v, nb x (A 4) uk, sb x (A 5) vk, nb x (A 6) z.1, lb x (A 7) a z.2.1, nb x (a 0) z.2.2.1, nb x (a 1) z.2.2.2.1, nb x (a 2) z.2.2.2.2.1, gb x (A 11) (A 13) r z.2.2.2.2.2.1, rowsB x r z.2.2.2.2.2.2.1, nb x (A 13) z.2.2.2.2.2.2.2]) (ws' := fl [pb x (A 1) g, ob A (ik, hr, ld), nb x (A 2) u, sb x (A 3) v, nb x (A 4) uk, sb x (A 5) vk, nb x (A 6) z.1, lb x (A 7) a z.2.1, nb x (a 0) z.2.2.1, nb x (a 1) z.2.2.2.1, nb x (a 2) z.2.2.2.2.1, gb x (A 11) (A 13) r z.2.2.2.2.2.1, rowsB x r z.2.2.2.2.2.2.1, nb x (A 13) z.2.2.2.2.2.2.2]) (uX3_length l x (A 1) g (by omega)) kX3_length 0 rfl rfl rfl vX5_68 dX5_digest_125 (by decide) rfl rfl (Nat.le_of_ble_eq_true rfl) (qm_1 14 1 [0, 2, 3, 4, 5, 6, 7, 8, 9, 10, 11, 12, 13] (by decide +kernel) rfl rfl rfl) rfl ?_
    refine j_icmpN_ge (a := p) (b := g.2) (by omega) (by omega) (tgt := 151) dX5_digest_128 (by decide) (fun h128 => ?_) (fun h128 => ?_)
    · skip
      refine j_iconst (v := nI 0) dX5_digest_151 (by decide) ?_
      refine j_istore_n (lv' := [(3, .int (nI 0)), (0, .ref ((A 0) 0)), (1, .long h)]) dX5_digest_152 rfl (by decide) rfl ?_
      refine j_lv [1, 2, 0] (lv' := [(0, .ref ((A 0) 0)), (1, .long h), (3, .int (nI 0))]) rfl ?_
      refine j_perm (fl [ob A (ik, hr, ld), pb x (A 1) g, nb x (A 2) u, sb x (A 3) v, nb x (A 4) uk, sb x (A 5) vk, nb x (A 6) z.1, lb x (A 7) a z.2.1, nb x (a 0) z.2.2.1, nb x (a 1) z.2.2.2.1, nb x (a 2) z.2.2.2.2.1, gb x (A 11) (A 13) r z.2.2.2.2.2.1, rowsB x r z.2.2.2.2.2.2.1, nb x (A 13) z.2.2.2.2.2.2.2]) (qm_b 14 [1, 0, 2, 3, 4, 5, 6, 7, 8, 9, 10, 11, 12, 13] (by decide +kernel) rfl rfl) ?_
      exact lp_dgC l x A a r ik hr ld g u v uk vk hld hg hu hv huk hvk 10 0 h (z.1, z.2.1, z.2.2.1, z.2.2.2.1, z.2.2.2.2.1, z.2.2.2.2.2.1, z.2.2.2.2.2.2.1, z.2.2.2.2.2.2.2) (by omega) (by rw [itr_end (n := g.2) (b := p) (by omega)] at hc1; rw [hc1]; rfl) ⟨(by (try simp only [nN_ph, nN_lec, nN_cpy, nN_cof, nN_wak, nN_hrs]); omega), (by (try simp only [nN_ph, nN_lec, nN_cpy, nN_cof, nN_wak, nN_hrs]); omega), (by (try simp only [nN_ph, nN_lec, nN_cpy, nN_cof, nN_wak, nN_hrs]); omega), (by (try simp only [nN_ph, nN_lec, nN_cpy, nN_cof, nN_wak, nN_hrs]); omega), (by (try simp only [nN_ph, nN_lec, nN_cpy, nN_cof, nN_wak, nN_hrs]); omega)⟩ (by omega)
    · skip
      refine j_lload_n 1 dX5_digest_131 rfl rfl ?_
      refine j_aload_n 0 dX5_digest_132 rfl rfl ?_
      refine j_get (v := .ref ((A 1) 0)) 2 dX5_digest_133 fX5_10 rfl rfl ?_
      refine j_iload_n 2 dX5_digest_136 rfl rfl ?_
      refine j_cVi (As := [.int (nI p)]) (rest := [.long h]) (wr := fl [ob A (ik, hr, ld), nb x (A 2) u, sb x (A 3) v, nb x (A 4) uk, sb x (A 5) vk, nb x (A 6) z.1, lb x (A 7) a z.2.1, nb x (a 0) z.2.2.1, nb x (a 1) z.2.2.2.1, nb x (a 2) z.2.2.2.2.1, gb x (A 11) (A 13) r z.2.2.2.2.2.1, rowsB x r z.2.2.2.2.2.2.1, nb x (A 13) z.2.2.2.2.2.2.2]) (ws' := fl [pb x (A 1) g, ob A (ik, hr, ld), nb x (A 2) u, sb x (A 3) v, nb x (A 4) uk, sb x (A 5) vk, nb x (A 6) z.1, lb x (A 7) a z.2.1, nb x (a 0) z.2.2.1, nb x (a 1) z.2.2.2.1, nb x (a 2) z.2.2.2.2.1, gb x (A 11) (A 13) r z.2.2.2.2.2.1, rowsB x r z.2.2.2.2.2.2.1, nb x (A 13) z.2.2.2.2.2.2.2]) (uX3_codeAt l x (A 1) g (by omega) (nI p)) kX3_codeAt 0 rfl rfl rfl vX5_204 dX5_digest_137 (by decide) rfl rfl (Nat.le_of_ble_eq_true rfl) (qm_1 14 0 [1, 2, 3, 4, 5, 6, 7, 8, 9, 10, 11, 12, 13] (by decide +kernel) rfl rfl rfl) rfl ?_
      refine j_topi (b := g.1 p) (cAt_in (by omega) (by omega)) ?_
      refine j_i2l dX5_digest_140 ?_
      refine j_cSl (As := [.long h, .long ((g.1 p).toInt64)]) (rest := []) (wr := fl [pb x (A 1) g, ob A (ik, hr, ld), nb x (A 2) u, sb x (A 3) v, nb x (A 4) uk, sb x (A 5) vk, nb x (A 6) z.1, lb x (A 7) a z.2.1, nb x (a 0) z.2.2.1, nb x (a 1) z.2.2.2.1, nb x (a 2) z.2.2.2.2.1, gb x (A 11) (A 13) r z.2.2.2.2.2.1, rowsB x r z.2.2.2.2.2.2.1, nb x (A 13) z.2.2.2.2.2.2.2]) (ws' := fl [pb x (A 1) g, ob A (ik, hr, ld), nb x (A 2) u, sb x (A 3) v, nb x (A 4) uk, sb x (A 5) vk, nb x (A 6) z.1, lb x (A 7) a z.2.1, nb x (a 0) z.2.2.1, nb x (a 1) z.2.2.2.1, nb x (a 2) z.2.2.2.2.1, gb x (A 11) (A 13) r z.2.2.2.2.2.1, rowsB x r z.2.2.2.2.2.2.1, nb x (A 13) z.2.2.2.2.2.2.2]) (tX5_mixed l x h ((g.1 p).toInt64)) kX5_mixed sX5_194 dX5_digest_141 (by decide) rfl rfl (Nat.le_of_ble_eq_true rfl) (List.Perm.refl _) rfl ?_
      refine j_lstore_n (lv' := [(1, .long (31 * h + ((g.1 p).toInt64))), (0, .ref ((A 0) 0)), (3, .int (nI p))]) dX5_digest_144 rfl (by decide) rfl ?_
      refine j_iinc (v := nI (p + 1)) (lv' := [(3, .int (nI (p + 1))), (1, .long (31 * h + ((g.1 p).toInt64))), (0, .ref ((A 0) 0))]) 2 dX5_digest_145 rfl (nI_1 p) (by decide) rfl ?_
      refine j_goto (tgt := 120) dX5_digest_148 (by decide) ?_
      refine j_lv [2, 1, 0] (lv' := [(0, .ref ((A 0) 0)), (1, .long (31 * h + ((g.1 p).toInt64))), (3, .int (nI (p + 1)))]) rfl ?_
      refine j_perm (fl [ob A (ik, hr, ld), pb x (A 1) g, nb x (A 2) u, sb x (A 3) v, nb x (A 4) uk, sb x (A 5) vk, nb x (A 6) z.1, lb x (A 7) a z.2.1, nb x (a 0) z.2.2.1, nb x (a 1) z.2.2.2.1, nb x (a 2) z.2.2.2.2.1, gb x (A 11) (A 13) r z.2.2.2.2.2.1, rowsB x r z.2.2.2.2.2.2.1, nb x (A 13) z.2.2.2.2.2.2.2]) (qm_b 14 [1, 0, 2, 3, 4, 5, 6, 7, 8, 9, 10, 11, 12, 13] (by decide +kernel) rfl rfl) ?_
      exact ih (p + 1) _ (z.1, z.2.1, z.2.2.1, z.2.2.2.1, z.2.2.2.2.1, z.2.2.2.2.2.1, z.2.2.2.2.2.2.1, z.2.2.2.2.2.2.2) (by omega) (by rw [← hc1, itr_go (n := g.2) (b := p) (by omega)]; rfl) ⟨(by (try simp only [nN_ph, nN_lec, nN_cpy, nN_cof, nN_wak, nN_hrs]); omega), (by (try simp only [nN_ph, nN_lec, nN_cpy, nN_cof, nN_wak, nN_hrs]); omega), (by (try simp only [nN_ph, nN_lec, nN_cpy, nN_cof, nN_wak, nN_hrs]); omega), (by (try simp only [nN_ph, nN_lec, nN_cpy, nN_cof, nN_wak, nN_hrs]); omega), (by (try simp only [nN_ph, nN_lec, nN_cpy, nN_cof, nN_wak, nN_hrs]); omega)⟩ (by omega)
set_option maxHeartbeats 4000000 in
set_option maxRecDepth 100000 in
theorem lp_dgA {M : Mx} (l : Launch) (x : Cx) (A a : Nat → Nat → Nat) (r : Nat → Nat) (ik : Bool) (hr ld : Nat) (g : PG) (u : NS) (v : SS) (uk : NS) (vk : SS) (hld : ld ≤ 40) (hg : g.2 ≤ 18) (hu : nN u ≤ 5) (hv : v.2.2 ≤ 6) (huk : nN uk ≤ 5) (hvk : vk.2.2 ≤ 6) (j : Nat) (hj : j < nN u) (rr : Int64) {k0 n0 : Nat} (hk : ∀ z' : ZS, zok z' → J M l x cX5_digest 5 yX5_digest 11 (pL5 x A a r (kDigest (ik, hr, ld) g u v) ((ik, hr, ld), g, u, v, uk, vk)) k0 n0 46 [(0, .ref ((A 0) 0)), (1, .long rr), (3, .int (nI j))] [] (fl [ob A (ik, hr, ld), pb x (A 1) g, nb x (A 2) u, sb x (A 3) v, nb x (A 4) uk, sb x (A 5) vk, nb x (A 6) z'.1, lb x (A 7) a z'.2.1, nb x (a 0) z'.2.2.1, nb x (a 1) z'.2.2.2.1, nb x (a 2) z'.2.2.2.2.1, gb x (A 11) (A 13) r z'.2.2.2.2.2.1, rowsB x r z'.2.2.2.2.2.2.1, nb x (A 13) z'.2.2.2.2.2.2.2])) : ∀ (m : Nat) (b : Nat) (h : Int64) (z : ZS), b ≤ 7 → itr (fun a h => mx h (abU u v j (nI a))) (7 - b) b h = rr → zok z → 7 - b < m → J M l x cX5_digest 5 yX5_digest 11 (pL5 x A a r (kDigest (ik, hr, ld) g u v) ((ik, hr, ld), g, u, v, uk, vk)) k0 n0 20 [(0, .ref ((A 0) 0)), (1, .long h), (3, .int (nI j)), (4, .int (nI b))] [] (fl [ob A (ik, hr, ld), pb x (A 1) g, nb x (A 2) u, sb x (A 3) v, nb x (A 4) uk, sb x (A 5) vk, nb x (A 6) z.1, lb x (A 7) a z.2.1, nb x (a 0) z.2.2.1, nb x (a 1) z.2.2.2.1, nb x (a 2) z.2.2.2.2.1, gb x (A 11) (A 13) r z.2.2.2.2.2.1, rowsB x r z.2.2.2.2.2.2.1, nb x (A 13) z.2.2.2.2.2.2.2]) := by
  intro m; induction m with
  | zero => intro b h z hc0 hc1 hc2 hm; exact absurd hm (Nat.not_lt_zero _)
  | succ m ih =>
    intro b h z hc0 hc1 hc2 hm
    have hz := hc2
    have hw : nN z.1 ≤ 5 := hz.1
    have hw0 : nN z.2.2.1 ≤ 5 := hz.2.1
    have hw1 : nN z.2.2.2.1 ≤ 5 := hz.2.2.1
    have hw2 : nN z.2.2.2.2.1 ≤ 5 := hz.2.2.2.1
    have hw3 : nN z.2.2.2.2.2.2.2 ≤ 5 := hz.2.2.2.2
    refine j_iload 3 dX5_digest_20 rfl ?_
    refine j_bipush (v := 6) dX5_digest_22 (by decide) ?_
    refine j_icmpN_gt (a := b) (b := 6) (by omega) (by omega) (tgt := 46) dX5_digest_24 (by decide) (fun h24 => ?_) (fun h24 => ?_)
    · skip
      refine j_lv [0, 1, 2] (lv' := [(0, .ref ((A 0) 0)), (1, .long h), (3, .int (nI j))]) rfl ?_
      rw [itr_end (n := 7) (b := b) (by omega)] at hc1
      subst hc1
      exact hk (z.1, z.2.1, z.2.2.1, z.2.2.2.1, z.2.2.2.2.1, z.2.2.2.2.2.1, z.2.2.2.2.2.2.1, z.2.2.2.2.2.2.2) ⟨(by (try simp only [nN_ph, nN_lec, nN_cpy, nN_cof, nN_wak, nN_hrs]); omega), (by (try simp only [nN_ph, nN_lec, nN_cpy, nN_cof, nN_wak, nN_hrs]); omega), (by (try simp only [nN_ph, nN_lec, nN_cpy, nN_cof, nN_wak, nN_hrs]); omega), (by (try simp only [nN_ph, nN_lec, nN_cpy, nN_cof, nN_wak, nN_hrs]); omega), (by (try simp only [nN_ph, nN_lec, nN_cpy, nN_cof, nN_wak, nN_hrs]); omega)⟩
    · skip
      refine j_lload_n 1 dX5_digest_27 rfl rfl ?_
      refine j_aload_n 0 dX5_digest_28 rfl rfl ?_
      refine j_iload_n 2 dX5_digest_29 rfl rfl ?_
      refine j_iload 3 dX5_digest_30 rfl ?_
      refine j_callV (As := [.int (nI j), .int (nI b)]) (rest := [.long h]) (wr := []) (tX5_about l x A a r ik hr ld g u v uk vk hld hg hu hv huk hvk (nI j) (nI b) (z.1, z.2.1, z.2.2.1, z.2.2.2.1, z.2.2.2.2.1, z.2.2.2.2.2.1, z.2.2.2.2.2.2.1, z.2.2.2.2.2.2.2) ⟨(by (try simp only [nN_ph, nN_lec, nN_cpy, nN_cof, nN_wak, nN_hrs]); omega), (by (try simp only [nN_ph, nN_lec, nN_cpy, nN_cof, nN_wak, nN_hrs]); omega), (by (try simp only [nN_ph, nN_lec, nN_cpy, nN_cof, nN_wak, nN_hrs]); omega), (by (try simp only [nN_ph, nN_lec, nN_cpy, nN_cof, nN_wak, nN_hrs]); omega), (by (try simp only [nN_ph, nN_lec, nN_cpy, nN_cof, nN_wak, nN_hrs]); omega)⟩) kX5_about vX5_191 0 rfl rfl rfl dX5_digest_32 (by decide) (Nat.le_of_eq (Nat.zero_add _)) (Nat.le_of_eq (Nat.zero_add _)) rfl rfl (Nat.le_of_ble_eq_true rfl) (pm_0 _) (fun v9 w9 hv9 => ?_)
      obtain ⟨rfl, z1, hz1, rfl⟩ := hv9
      refine j_eq (lv' := [(0, .ref ((A 0) 0)), (1, .long h), (3, .int (nI j)), (4, .int (nI b))]) (st' := [.int (kAbout u v (nI j) (nI b)), .long h]) (ws' := fl [ob A (ik, hr, ld), pb x (A 1) g, nb x (A 2) u, sb x (A 3) v, nb x (A 4) uk, sb x (A 5) vk, nb x (A 6) z1.1, lb x (A 7) a z1.2.1, nb x (a 0) z1.2.2.1, nb x (a 1) z1.2.2.2.1, nb x (a 2) z1.2.2.2.2.1, gb x (A 11) (A 13) r z1.2.2.2.2.2.1, rowsB x r z1.2.2.2.2.2.2.1, nb x (A 13) z1.2.2.2.2.2.2.2]) rfl rfl (List.append_nil _) ?_
      have hw : nN z1.1 ≤ 5 := hz1.1
      have hw0 : nN z1.2.2.1 ≤ 5 := hz1.2.1
      have hw1 : nN z1.2.2.2.1 ≤ 5 := hz1.2.2.1
      have hw2 : nN z1.2.2.2.2.1 ≤ 5 := hz1.2.2.2.1
      have hw3 : nN z1.2.2.2.2.2.2.2 ≤ 5 := hz1.2.2.2.2
      refine j_topi (b := abU u v j (nI b)) (kAbout_j hj hu) ?_
      refine j_i2l dX5_digest_35 ?_
      refine j_cSl (As := [.long h, .long ((abU u v j (nI b)).toInt64)]) (rest := []) (wr := fl [ob A (ik, hr, ld), pb x (A 1) g, nb x (A 2) u, sb x (A 3) v, nb x (A 4) uk, sb x (A 5) vk, nb x (A 6) z1.1, lb x (A 7) a z1.2.1, nb x (a 0) z1.2.2.1, nb x (a 1) z1.2.2.2.1, nb x (a 2) z1.2.2.2.2.1, gb x (A 11) (A 13) r z1.2.2.2.2.2.1, rowsB x r z1.2.2.2.2.2.2.1, nb x (A 13) z1.2.2.2.2.2.2.2]) (ws' := fl [ob A (ik, hr, ld), pb x (A 1) g, nb x (A 2) u, sb x (A 3) v, nb x (A 4) uk, sb x (A 5) vk, nb x (A 6) z1.1, lb x (A 7) a z1.2.1, nb x (a 0) z1.2.2.1, nb x (a 1) z1.2.2.2.1, nb x (a 2) z1.2.2.2.2.1, gb x (A 11) (A 13) r z1.2.2.2.2.2.1, rowsB x r z1.2.2.2.2.2.2.1, nb x (A 13) z1.2.2.2.2.2.2.2]) (tX5_mixed l x h ((abU u v j (nI b)).toInt64)) kX5_mixed sX5_194 dX5_digest_36 (by decide) rfl rfl (Nat.le_of_ble_eq_true rfl) (List.Perm.refl _) rfl ?_
      refine j_lstore_n (lv' := [(1, .long (31 * h + ((abU u v j (nI b)).toInt64))), (0, .ref ((A 0) 0)), (3, .int (nI j)), (4, .int (nI b))]) dX5_digest_39 rfl (by decide) rfl ?_
      refine j_iinc (v := nI (b + 1)) (lv' := [(4, .int (nI (b + 1))), (1, .long (31 * h + ((abU u v j (nI b)).toInt64))), (0, .ref ((A 0) 0)), (3, .int (nI j))]) 3 dX5_digest_40 rfl (nI_1 b) (by decide) rfl ?_
      refine j_goto (tgt := 20) dX5_digest_43 (by decide) ?_
      refine j_lv [2, 1, 3, 0] (lv' := [(0, .ref ((A 0) 0)), (1, .long (31 * h + ((abU u v j (nI b)).toInt64))), (3, .int (nI j)), (4, .int (nI (b + 1)))]) rfl ?_
      exact ih (b + 1) _ (z1.1, z1.2.1, z1.2.2.1, z1.2.2.2.1, z1.2.2.2.2.1, z1.2.2.2.2.2.1, z1.2.2.2.2.2.2.1, z1.2.2.2.2.2.2.2) (by omega) (by rw [← hc1, itr_go (n := 7) (b := b) (by omega)]; rfl) ⟨(by (try simp only [nN_ph, nN_lec, nN_cpy, nN_cof, nN_wak, nN_hrs]); omega), (by (try simp only [nN_ph, nN_lec, nN_cpy, nN_cof, nN_wak, nN_hrs]); omega), (by (try simp only [nN_ph, nN_lec, nN_cpy, nN_cof, nN_wak, nN_hrs]); omega), (by (try simp only [nN_ph, nN_lec, nN_cpy, nN_cof, nN_wak, nN_hrs]); omega), (by (try simp only [nN_ph, nN_lec, nN_cpy, nN_cof, nN_wak, nN_hrs]); omega)⟩ (by omega)
set_option maxHeartbeats 4000000 in
set_option maxRecDepth 100000 in
theorem lp_dgL {M : Mx} (l : Launch) (x : Cx) (A a : Nat → Nat → Nat) (r : Nat → Nat) (ik : Bool) (hr ld : Nat) (g : PG) (u : NS) (v : SS) (uk : NS) (vk : SS) (hld : ld ≤ 40) (hg : g.2 ≤ 18) (hu : nN u ≤ 5) (hv : v.2.2 ≤ 6) (huk : nN uk ≤ 5) (hvk : vk.2.2 ≤ 6) {k0 n0 : Nat}  : ∀ (m : Nat) (j : Nat) (h : Int64) (z : ZS), j ≤ nN u → itr (dgL u v) (nN u - j) j h = itr (dgL u v) (nN u) 0 953 → zok z → nN u - j < m → J M l x cX5_digest 5 yX5_digest 11 (pL5 x A a r (kDigest (ik, hr, ld) g u v) ((ik, hr, ld), g, u, v, uk, vk)) k0 n0 6 [(0, .ref ((A 0) 0)), (1, .long h), (3, .int (nI j))] [] (fl [ob A (ik, hr, ld), pb x (A 1) g, nb x (A 2) u, sb x (A 3) v, nb x (A 4) uk, sb x (A 5) vk, nb x (A 6) z.1, lb x (A 7) a z.2.1, nb x (a 0) z.2.2.1, nb x (a 1) z.2.2.2.1, nb x (a 2) z.2.2.2.2.1, gb x (A 11) (A 13) r z.2.2.2.2.2.1, rowsB x r z.2.2.2.2.2.2.1, nb x (A 13) z.2.2.2.2.2.2.2]) := by
  intro m; induction m with
  | zero => intro j h z hc0 hc1 hc2 hm; exact absurd hm (Nat.not_lt_zero _)
  | succ m ih =>
    intro j h z hc0 hc1 hc2 hm
    have hz := hc2
    have hw : nN z.1 ≤ 5 := hz.1
    have hw0 : nN z.2.2.1 ≤ 5 := hz.2.1
    have hw1 : nN z.2.2.2.1 ≤ 5 := hz.2.2.1
    have hw2 : nN z.2.2.2.2.1 ≤ 5 := hz.2.2.2.1
    have hw3 : nN z.2.2.2.2.2.2.2 ≤ 5 := hz.2.2.2.2
    refine j_iload_n 2 dX5_digest_6 rfl rfl ?_
    refine j_aload_n 0 dX5_digest_7 rfl rfl ?_
    refine j_get (v := .ref ((A 2) 0)) 0 dX5_digest_8 fX5_19 rfl rfl ?_
    refine j_cVi (As := []) (rest := [.int (nI j)]) (wr := fl [ob A (ik, hr, ld), pb x (A 1) g, sb x (A 3) v, nb x (A 4) uk, sb x (A 5) vk, nb x (A 6) z.1, lb x (A 7) a z.2.1, nb x (a 0) z.2.2.1, nb x (a 1) z.2.2.2.1, nb x (a 2) z.2.2.2.2.1, gb x (A 11) (A 13) r z.2.2.2.2.2.1, rowsB x r z.2.2.2.2.2.2.1, nb x (A 13) z.2.2.2.2.2.2.2]) (ws' := fl [nb x (A 2) u, ob A (ik, hr, ld), pb x (A 1) g, sb x (A 3) v, nb x (A 4) uk, sb x (A 5) vk, nb x (A 6) z.1, lb x (A 7) a z.2.1, nb x (a 0) z.2.2.1, nb x (a 1) z.2.2.2.1, nb x (a 2) z.2.2.2.2.1, gb x (A 11) (A 13) r z.2.2.2.2.2.1, rowsB x r z.2.2.2.2.2.2.1, nb x (A 13) z.2.2.2.2.2.2.2]) (uX2_lodgers l x (A 2) u ) kX2_lodgers 0 rfl rfl rfl vX5_91 dX5_digest_11 (by decide) rfl rfl (Nat.le_of_ble_eq_true rfl) (qm_1 14 2 [0, 1, 3, 4, 5, 6, 7, 8, 9, 10, 11, 12, 13] (by decide +kernel) rfl rfl rfl) rfl ?_
    refine j_icmpN_ge (a := j) (b := nN u) (by omega) (by omega) (tgt := 79) dX5_digest_14 (by decide) (fun h14 => ?_) (fun h14 => ?_)
    · skip
      refine j_aload_n 0 dX5_digest_79 rfl rfl ?_
      refine j_cVi (As := []) (rest := []) (wr := fl [pb x (A 1) g, sb x (A 3) v, nb x (A 4) uk, sb x (A 5) vk, nb x (A 6) z.1, lb x (A 7) a z.2.1, nb x (a 0) z.2.2.1, nb x (a 1) z.2.2.2.1, nb x (a 2) z.2.2.2.2.1, gb x (A 11) (A 13) r z.2.2.2.2.2.1, rowsB x r z.2.2.2.2.2.2.1, nb x (A 13) z.2.2.2.2.2.2.2]) (ws' := fl [ob A (ik, hr, ld), nb x (A 2) u, pb x (A 1) g, sb x (A 3) v, nb x (A 4) uk, sb x (A 5) vk, nb x (A 6) z.1, lb x (A 7) a z.2.1, nb x (a 0) z.2.2.1, nb x (a 1) z.2.2.2.1, nb x (a 2) z.2.2.2.2.1, gb x (A 11) (A 13) r z.2.2.2.2.2.1, rowsB x r z.2.2.2.2.2.2.1, nb x (A 13) z.2.2.2.2.2.2.2]) (tX5_hasHouse l x A ik hr ld u hu) kX5_hasHouse 0 rfl rfl rfl vX5_127 dX5_digest_80 (by decide) rfl rfl (Nat.le_of_ble_eq_true rfl) (qm_c 14 [1, 0] [2, 3, 4, 5, 6, 7, 8, 9, 10, 11, 12, 13] (by decide +kernel) rfl rfl rfl) (fl_app _ _) ?_
      refine j_ifb_eq (b := decide (0 < nN u)) (tgt := 118) dX5_digest_83 (by decide) (fun h83 => ?_) (fun h83 => ?_)
      · skip
        have h0 : nN u = 0 := by simpa using h83
        refine j_iconst (v := nI 0) dX5_digest_118 (by decide) ?_
        refine j_istore_n (lv' := [(3, .int (nI 0)), (0, .ref ((A 0) 0)), (1, .long h)]) dX5_digest_119 rfl (by decide) rfl ?_
        refine j_lv [1, 2, 0] (lv' := [(0, .ref ((A 0) 0)), (1, .long h), (3, .int (nI 0))]) rfl ?_
        refine j_perm (fl [ob A (ik, hr, ld), pb x (A 1) g, nb x (A 2) u, sb x (A 3) v, nb x (A 4) uk, sb x (A 5) vk, nb x (A 6) z.1, lb x (A 7) a z.2.1, nb x (a 0) z.2.2.1, nb x (a 1) z.2.2.2.1, nb x (a 2) z.2.2.2.2.1, gb x (A 11) (A 13) r z.2.2.2.2.2.1, rowsB x r z.2.2.2.2.2.2.1, nb x (A 13) z.2.2.2.2.2.2.2]) (qm_b 14 [0, 2, 1, 3, 4, 5, 6, 7, 8, 9, 10, 11, 12, 13] (by decide +kernel) rfl rfl) ?_
        exact lp_dgP l x A a r ik hr ld g u v uk vk hld hg hu hv huk hvk (g.2 + 1) 0 _ (z.1, z.2.1, z.2.2.1, z.2.2.2.1, z.2.2.2.2.1, z.2.2.2.2.2.1, z.2.2.2.2.2.2.1, z.2.2.2.2.2.2.2) (by omega) (by rw [dgP, Nat.sub_zero]; exact congrArg (itr (fun p h => mx h (g.1 p)) g.2 0) (by rw [← hc1, itr_end (n := nN u) (b := j) (by omega)]; first | (rw [dgB, if_neg h0]; rfl) | (rw [dgB, if_pos h0]; done))) ⟨(by (try simp only [nN_ph, nN_lec, nN_cpy, nN_cof, nN_wak, nN_hrs]); omega), (by (try simp only [nN_ph, nN_lec, nN_cpy, nN_cof, nN_wak, nN_hrs]); omega), (by (try simp only [nN_ph, nN_lec, nN_cpy, nN_cof, nN_wak, nN_hrs]); omega), (by (try simp only [nN_ph, nN_lec, nN_cpy, nN_cof, nN_wak, nN_hrs]); omega), (by (try simp only [nN_ph, nN_lec, nN_cpy, nN_cof, nN_wak, nN_hrs]); omega)⟩ (by omega)
      · skip
        have h0 : ¬ nN u = 0 := by have := of_decide_eq_true h83; omega
        refine j_lload_n 1 dX5_digest_86 rfl rfl ?_
        refine j_aload_n 0 dX5_digest_87 rfl rfl ?_
        refine j_perm (fl [ob A (ik, hr, ld), pb x (A 1) g, nb x (A 2) u, sb x (A 3) v, nb x (A 4) uk, sb x (A 5) vk, nb x (A 6) z.1, lb x (A 7) a z.2.1, nb x (a 0) z.2.2.1, nb x (a 1) z.2.2.2.1, nb x (a 2) z.2.2.2.2.1, gb x (A 11) (A 13) r z.2.2.2.2.2.1, rowsB x r z.2.2.2.2.2.2.1, nb x (A 13) z.2.2.2.2.2.2.2]) (qm_b 14 [0, 2, 1, 3, 4, 5, 6, 7, 8, 9, 10, 11, 12, 13] (by decide +kernel) rfl rfl) ?_
        refine j_callV (As := []) (rest := [.long h]) (wr := []) (tX5_bed l x A a r ik hr ld g u v uk vk hld hg hu hv huk hvk  (z.1, z.2.1, z.2.2.1, z.2.2.2.1, z.2.2.2.2.1, z.2.2.2.2.2.1, z.2.2.2.2.2.2.1, z.2.2.2.2.2.2.2) ⟨(by (try simp only [nN_ph, nN_lec, nN_cpy, nN_cof, nN_wak, nN_hrs]); omega), (by (try simp only [nN_ph, nN_lec, nN_cpy, nN_cof, nN_wak, nN_hrs]); omega), (by (try simp only [nN_ph, nN_lec, nN_cpy, nN_cof, nN_wak, nN_hrs]); omega), (by (try simp only [nN_ph, nN_lec, nN_cpy, nN_cof, nN_wak, nN_hrs]); omega), (by (try simp only [nN_ph, nN_lec, nN_cpy, nN_cof, nN_wak, nN_hrs]); omega)⟩) kX5_bed vX5_198 0 rfl rfl rfl dX5_digest_88 (by decide) (Nat.le_of_eq (Nat.zero_add _)) (Nat.le_of_eq (Nat.zero_add _)) rfl rfl (Nat.le_of_ble_eq_true rfl) (pm_0 _) (fun v9 w9 hv9 => ?_)
        obtain ⟨rfl, z1, hz1, rfl⟩ := hv9
        refine j_eq (lv' := [(0, .ref ((A 0) 0)), (1, .long h), (3, .int (nI j))]) (st' := [.int (kBed u), .long h]) (ws' := fl [ob A (ik, hr, ld), pb x (A 1) g, nb x (A 2) u, sb x (A 3) v, nb x (A 4) uk, sb x (A 5) vk, nb x (A 6) z1.1, lb x (A 7) a z1.2.1, nb x (a 0) z1.2.2.1, nb x (a 1) z1.2.2.2.1, nb x (a 2) z1.2.2.2.2.1, gb x (A 11) (A 13) r z1.2.2.2.2.2.1, rowsB x r z1.2.2.2.2.2.2.1, nb x (A 13) z1.2.2.2.2.2.2.2]) rfl rfl (List.append_nil _) ?_
        have hw : nN z1.1 ≤ 5 := hz1.1
        have hw0 : nN z1.2.2.1 ≤ 5 := hz1.2.1
        have hw1 : nN z1.2.2.2.1 ≤ 5 := hz1.2.2.1
        have hw2 : nN z1.2.2.2.2.1 ≤ 5 := hz1.2.2.2.1
        have hw3 : nN z1.2.2.2.2.2.2.2 ≤ 5 := hz1.2.2.2.2
        refine j_topi (b := oI (wbU u)) (by rw [kBed, if_neg h0]) ?_
        refine j_i2l dX5_digest_91 ?_
        refine j_cSl (As := [.long h, .long ((oI (wbU u)).toInt64)]) (rest := []) (wr := fl [ob A (ik, hr, ld), pb x (A 1) g, nb x (A 2) u, sb x (A 3) v, nb x (A 4) uk, sb x (A 5) vk, nb x (A 6) z1.1, lb x (A 7) a z1.2.1, nb x (a 0) z1.2.2.1, nb x (a 1) z1.2.2.2.1, nb x (a 2) z1.2.2.2.2.1, gb x (A 11) (A 13) r z1.2.2.2.2.2.1, rowsB x r z1.2.2.2.2.2.2.1, nb x (A 13) z1.2.2.2.2.2.2.2]) (ws' := fl [ob A (ik, hr, ld), pb x (A 1) g, nb x (A 2) u, sb x (A 3) v, nb x (A 4) uk, sb x (A 5) vk, nb x (A 6) z1.1, lb x (A 7) a z1.2.1, nb x (a 0) z1.2.2.1, nb x (a 1) z1.2.2.2.1, nb x (a 2) z1.2.2.2.2.1, gb x (A 11) (A 13) r z1.2.2.2.2.2.1, rowsB x r z1.2.2.2.2.2.2.1, nb x (A 13) z1.2.2.2.2.2.2.2]) (tX5_mixed l x h ((oI (wbU u)).toInt64)) kX5_mixed sX5_194 dX5_digest_92 (by decide) rfl rfl (Nat.le_of_ble_eq_true rfl) (List.Perm.refl _) rfl ?_
        refine j_lstore_n (lv' := [(1, .long (31 * h + ((oI (wbU u)).toInt64))), (0, .ref ((A 0) 0)), (3, .int (nI j))]) dX5_digest_95 rfl (by decide) rfl ?_
        refine j_lload_n 0 dX5_digest_96 rfl rfl ?_
        refine j_aload_n 1 dX5_digest_97 rfl rfl ?_
        refine j_iconst (v := 0) dX5_digest_98 (by decide) ?_
        refine j_callV (As := [.int 0]) (rest := [.long (31 * h + ((oI (wbU u)).toInt64))]) (wr := []) (tX5_sunday l x A a r ik hr ld g u v uk vk hld hg hu hv huk hvk 0 (z1.1, z1.2.1, z1.2.2.1, z1.2.2.2.1, z1.2.2.2.2.1, z1.2.2.2.2.2.1, z1.2.2.2.2.2.2.1, z1.2.2.2.2.2.2.2) ⟨(by (try simp only [nN_ph, nN_lec, nN_cpy, nN_cof, nN_wak, nN_hrs]); omega), (by (try simp only [nN_ph, nN_lec, nN_cpy, nN_cof, nN_wak, nN_hrs]); omega), (by (try simp only [nN_ph, nN_lec, nN_cpy, nN_cof, nN_wak, nN_hrs]); omega), (by (try simp only [nN_ph, nN_lec, nN_cpy, nN_cof, nN_wak, nN_hrs]); omega), (by (try simp only [nN_ph, nN_lec, nN_cpy, nN_cof, nN_wak, nN_hrs]); omega)⟩) kX5_sunday vX5_201 0 rfl rfl rfl dX5_digest_99 (by decide) (Nat.le_of_eq (Nat.zero_add _)) (Nat.le_of_eq (Nat.zero_add _)) rfl rfl (Nat.le_of_ble_eq_true rfl) (pm_0 _) (fun v9 w9 hv9 => ?_)
        obtain ⟨rfl, z2, hz2, rfl⟩ := hv9
        refine j_eq (lv' := [(1, .long (31 * h + ((oI (wbU u)).toInt64))), (0, .ref ((A 0) 0)), (3, .int (nI j))]) (st' := [.int (kSunday u 0), .long (31 * h + ((oI (wbU u)).toInt64))]) (ws' := fl [ob A (ik, hr, ld), pb x (A 1) g, nb x (A 2) u, sb x (A 3) v, nb x (A 4) uk, sb x (A 5) vk, nb x (A 6) z2.1, lb x (A 7) a z2.2.1, nb x (a 0) z2.2.2.1, nb x (a 1) z2.2.2.2.1, nb x (a 2) z2.2.2.2.2.1, gb x (A 11) (A 13) r z2.2.2.2.2.2.1, rowsB x r z2.2.2.2.2.2.2.1, nb x (A 13) z2.2.2.2.2.2.2.2]) rfl rfl (List.append_nil _) ?_
        have hw : nN z2.1 ≤ 5 := hz2.1
        have hw0 : nN z2.2.2.1 ≤ 5 := hz2.2.1
        have hw1 : nN z2.2.2.2.1 ≤ 5 := hz2.2.2.1
        have hw2 : nN z2.2.2.2.2.1 ≤ 5 := hz2.2.2.2.1
        have hw3 : nN z2.2.2.2.2.2.2.2 ≤ 5 := hz2.2.2.2.2
        refine j_topi (b := (prU u).1) (kSun_0 h0) ?_
        refine j_i2l dX5_digest_102 ?_
        refine j_cSl (As := [.long (31 * h + ((oI (wbU u)).toInt64)), .long (((prU u).1).toInt64)]) (rest := []) (wr := fl [ob A (ik, hr, ld), pb x (A 1) g, nb x (A 2) u, sb x (A 3) v, nb x (A 4) uk, sb x (A 5) vk, nb x (A 6) z2.1, lb x (A 7) a z2.2.1, nb x (a 0) z2.2.2.1, nb x (a 1) z2.2.2.2.1, nb x (a 2) z2.2.2.2.2.1, gb x (A 11) (A 13) r z2.2.2.2.2.2.1, rowsB x r z2.2.2.2.2.2.2.1, nb x (A 13) z2.2.2.2.2.2.2.2]) (ws' := fl [ob A (ik, hr, ld), pb x (A 1) g, nb x (A 2) u, sb x (A 3) v, nb x (A 4) uk, sb x (A 5) vk, nb x (A 6) z2.1, lb x (A 7) a z2.2.1, nb x (a 0) z2.2.2.1, nb x (a 1) z2.2.2.2.1, nb x (a 2) z2.2.2.2.2.1, gb x (A 11) (A 13) r z2.2.2.2.2.2.1, rowsB x r z2.2.2.2.2.2.2.1, nb x (A 13) z2.2.2.2.2.2.2.2]) (tX5_mixed l x (31 * h + ((oI (wbU u)).toInt64)) (((prU u).1).toInt64)) kX5_mixed sX5_194 dX5_digest_103 (by decide) rfl rfl (Nat.le_of_ble_eq_true rfl) (List.Perm.refl _) rfl ?_
        refine j_lstore_n (lv' := [(1, .long (31 * (31 * h + ((oI (wbU u)).toInt64)) + (((prU u).1).toInt64))), (0, .ref ((A 0) 0)), (3, .int (nI j))]) dX5_digest_106 rfl (by decide) rfl ?_
        refine j_lload_n 0 dX5_digest_107 rfl rfl ?_
        refine j_aload_n 1 dX5_digest_108 rfl rfl ?_
        refine j_iconst (v := 1) dX5_digest_109 (by decide) ?_
        refine j_callV (As := [.int 1]) (rest := [.long (31 * (31 * h + ((oI (wbU u)).toInt64)) + (((prU u).1).toInt64))]) (wr := []) (tX5_sunday l x A a r ik hr ld g u v uk vk hld hg hu hv huk hvk 1 (z2.1, z2.2.1, z2.2.2.1, z2.2.2.2.1, z2.2.2.2.2.1, z2.2.2.2.2.2.1, z2.2.2.2.2.2.2.1, z2.2.2.2.2.2.2.2) ⟨(by (try simp only [nN_ph, nN_lec, nN_cpy, nN_cof, nN_wak, nN_hrs]); omega), (by (try simp only [nN_ph, nN_lec, nN_cpy, nN_cof, nN_wak, nN_hrs]); omega), (by (try simp only [nN_ph, nN_lec, nN_cpy, nN_cof, nN_wak, nN_hrs]); omega), (by (try simp only [nN_ph, nN_lec, nN_cpy, nN_cof, nN_wak, nN_hrs]); omega), (by (try simp only [nN_ph, nN_lec, nN_cpy, nN_cof, nN_wak, nN_hrs]); omega)⟩) kX5_sunday vX5_201 0 rfl rfl rfl dX5_digest_110 (by decide) (Nat.le_of_eq (Nat.zero_add _)) (Nat.le_of_eq (Nat.zero_add _)) rfl rfl (Nat.le_of_ble_eq_true rfl) (pm_0 _) (fun v9 w9 hv9 => ?_)
        obtain ⟨rfl, z3, hz3, rfl⟩ := hv9
        refine j_eq (lv' := [(1, .long (31 * (31 * h + ((oI (wbU u)).toInt64)) + (((prU u).1).toInt64))), (0, .ref ((A 0) 0)), (3, .int (nI j))]) (st' := [.int (kSunday u 1), .long (31 * (31 * h + ((oI (wbU u)).toInt64)) + (((prU u).1).toInt64))]) (ws' := fl [ob A (ik, hr, ld), pb x (A 1) g, nb x (A 2) u, sb x (A 3) v, nb x (A 4) uk, sb x (A 5) vk, nb x (A 6) z3.1, lb x (A 7) a z3.2.1, nb x (a 0) z3.2.2.1, nb x (a 1) z3.2.2.2.1, nb x (a 2) z3.2.2.2.2.1, gb x (A 11) (A 13) r z3.2.2.2.2.2.1, rowsB x r z3.2.2.2.2.2.2.1, nb x (A 13) z3.2.2.2.2.2.2.2]) rfl rfl (List.append_nil _) ?_
        have hw : nN z3.1 ≤ 5 := hz3.1
        have hw0 : nN z3.2.2.1 ≤ 5 := hz3.2.1
        have hw1 : nN z3.2.2.2.1 ≤ 5 := hz3.2.2.1
        have hw2 : nN z3.2.2.2.2.1 ≤ 5 := hz3.2.2.2.1
        have hw3 : nN z3.2.2.2.2.2.2.2 ≤ 5 := hz3.2.2.2.2
        refine j_topi (b := (prU u).2) (kSun_1 h0) ?_
        refine j_i2l dX5_digest_113 ?_
        refine j_cSl (As := [.long (31 * (31 * h + ((oI (wbU u)).toInt64)) + (((prU u).1).toInt64)), .long (((prU u).2).toInt64)]) (rest := []) (wr := fl [ob A (ik, hr, ld), pb x (A 1) g, nb x (A 2) u, sb x (A 3) v, nb x (A 4) uk, sb x (A 5) vk, nb x (A 6) z3.1, lb x (A 7) a z3.2.1, nb x (a 0) z3.2.2.1, nb x (a 1) z3.2.2.2.1, nb x (a 2) z3.2.2.2.2.1, gb x (A 11) (A 13) r z3.2.2.2.2.2.1, rowsB x r z3.2.2.2.2.2.2.1, nb x (A 13) z3.2.2.2.2.2.2.2]) (ws' := fl [ob A (ik, hr, ld), pb x (A 1) g, nb x (A 2) u, sb x (A 3) v, nb x (A 4) uk, sb x (A 5) vk, nb x (A 6) z3.1, lb x (A 7) a z3.2.1, nb x (a 0) z3.2.2.1, nb x (a 1) z3.2.2.2.1, nb x (a 2) z3.2.2.2.2.1, gb x (A 11) (A 13) r z3.2.2.2.2.2.1, rowsB x r z3.2.2.2.2.2.2.1, nb x (A 13) z3.2.2.2.2.2.2.2]) (tX5_mixed l x (31 * (31 * h + ((oI (wbU u)).toInt64)) + (((prU u).1).toInt64)) (((prU u).2).toInt64)) kX5_mixed sX5_194 dX5_digest_114 (by decide) rfl rfl (Nat.le_of_ble_eq_true rfl) (List.Perm.refl _) rfl ?_
        refine j_lstore_n (lv' := [(1, .long (31 * (31 * (31 * h + ((oI (wbU u)).toInt64)) + (((prU u).1).toInt64)) + (((prU u).2).toInt64))), (0, .ref ((A 0) 0)), (3, .int (nI j))]) dX5_digest_117 rfl (by decide) rfl ?_
        refine j_iconst (v := nI 0) dX5_digest_118 (by decide) ?_
        refine j_istore_n (lv' := [(3, .int (nI 0)), (1, .long (31 * (31 * (31 * h + ((oI (wbU u)).toInt64)) + (((prU u).1).toInt64)) + (((prU u).2).toInt64))), (0, .ref ((A 0) 0))]) dX5_digest_119 rfl (by decide) rfl ?_
        refine j_lv [2, 1, 0] (lv' := [(0, .ref ((A 0) 0)), (1, .long (31 * (31 * (31 * h + ((oI (wbU u)).toInt64)) + (((prU u).1).toInt64)) + (((prU u).2).toInt64))), (3, .int (nI 0))]) rfl ?_
        exact lp_dgP l x A a r ik hr ld g u v uk vk hld hg hu hv huk hvk (g.2 + 1) 0 _ (z3.1, z3.2.1, z3.2.2.1, z3.2.2.2.1, z3.2.2.2.2.1, z3.2.2.2.2.2.1, z3.2.2.2.2.2.2.1, z3.2.2.2.2.2.2.2) (by omega) (by rw [dgP, Nat.sub_zero]; exact congrArg (itr (fun p h => mx h (g.1 p)) g.2 0) (by rw [← hc1, itr_end (n := nN u) (b := j) (by omega)]; first | (rw [dgB, if_neg h0]; rfl) | (rw [dgB, if_pos h0]; done))) ⟨(by (try simp only [nN_ph, nN_lec, nN_cpy, nN_cof, nN_wak, nN_hrs]); omega), (by (try simp only [nN_ph, nN_lec, nN_cpy, nN_cof, nN_wak, nN_hrs]); omega), (by (try simp only [nN_ph, nN_lec, nN_cpy, nN_cof, nN_wak, nN_hrs]); omega), (by (try simp only [nN_ph, nN_lec, nN_cpy, nN_cof, nN_wak, nN_hrs]); omega), (by (try simp only [nN_ph, nN_lec, nN_cpy, nN_cof, nN_wak, nN_hrs]); omega)⟩ (by omega)
    · skip
      refine j_iconst (v := nI 0) dX5_digest_17 (by decide) ?_
      refine j_istore (lv' := [(4, .int (nI 0)), (0, .ref ((A 0) 0)), (1, .long h), (3, .int (nI j))]) dX5_digest_18 (by decide) rfl ?_
      refine j_lv [1, 2, 3, 0] (lv' := [(0, .ref ((A 0) 0)), (1, .long h), (3, .int (nI j)), (4, .int (nI 0))]) rfl ?_
      refine j_perm (fl [ob A (ik, hr, ld), pb x (A 1) g, nb x (A 2) u, sb x (A 3) v, nb x (A 4) uk, sb x (A 5) vk, nb x (A 6) z.1, lb x (A 7) a z.2.1, nb x (a 0) z.2.2.1, nb x (a 1) z.2.2.2.1, nb x (a 2) z.2.2.2.2.1, gb x (A 11) (A 13) r z.2.2.2.2.2.1, rowsB x r z.2.2.2.2.2.2.1, nb x (A 13) z.2.2.2.2.2.2.2]) (qm_b 14 [1, 2, 0, 3, 4, 5, 6, 7, 8, 9, 10, 11, 12, 13] (by decide +kernel) rfl rfl) ?_
      refine lp_dgA l x A a r ik hr ld g u v uk vk hld hg hu hv huk hvk j (by omega) (dgA u v j h) (fun z' hz' => ?_) 8 0 h (z.1, z.2.1, z.2.2.1, z.2.2.2.1, z.2.2.2.2.1, z.2.2.2.2.2.1, z.2.2.2.2.2.2.1, z.2.2.2.2.2.2.2) (by omega) rfl ⟨(by (try simp only [nN_ph, nN_lec, nN_cpy, nN_cof, nN_wak, nN_hrs]); omega), (by (try simp only [nN_ph, nN_lec, nN_cpy, nN_cof, nN_wak, nN_hrs]); omega), (by (try simp only [nN_ph, nN_lec, nN_cpy, nN_cof, nN_wak, nN_hrs]); omega), (by (try simp only [nN_ph, nN_lec, nN_cpy, nN_cof, nN_wak, nN_hrs]); omega), (by (try simp only [nN_ph, nN_lec, nN_cpy, nN_cof, nN_wak, nN_hrs]); omega)⟩ (by omega)
      have hw : nN z'.1 ≤ 5 := hz'.1
      have hw0 : nN z'.2.2.1 ≤ 5 := hz'.2.1
      have hw1 : nN z'.2.2.2.1 ≤ 5 := hz'.2.2.1
      have hw2 : nN z'.2.2.2.2.1 ≤ 5 := hz'.2.2.2.1
      have hw3 : nN z'.2.2.2.2.2.2.2 ≤ 5 := hz'.2.2.2.2
      refine j_lload_n 1 dX5_digest_46 rfl rfl ?_
      refine j_aload_n 0 dX5_digest_47 rfl rfl ?_
      refine j_get (v := .ref ((A 2) 0)) 0 dX5_digest_48 fX5_19 rfl rfl ?_
      refine j_iload_n 2 dX5_digest_51 rfl rfl ?_
      refine j_cVi (As := [.int (nI j)]) (rest := [.long (dgA u v j h)]) (wr := fl [ob A (ik, hr, ld), pb x (A 1) g, sb x (A 3) v, nb x (A 4) uk, sb x (A 5) vk, nb x (A 6) z'.1, lb x (A 7) a z'.2.1, nb x (a 0) z'.2.2.1, nb x (a 1) z'.2.2.2.1, nb x (a 2) z'.2.2.2.2.1, gb x (A 11) (A 13) r z'.2.2.2.2.2.1, rowsB x r z'.2.2.2.2.2.2.1, nb x (A 13) z'.2.2.2.2.2.2.2]) (ws' := fl [nb x (A 2) u, ob A (ik, hr, ld), pb x (A 1) g, sb x (A 3) v, nb x (A 4) uk, sb x (A 5) vk, nb x (A 6) z'.1, lb x (A 7) a z'.2.1, nb x (a 0) z'.2.2.1, nb x (a 1) z'.2.2.2.1, nb x (a 2) z'.2.2.2.2.1, gb x (A 11) (A 13) r z'.2.2.2.2.2.1, rowsB x r z'.2.2.2.2.2.2.1, nb x (A 13) z'.2.2.2.2.2.2.2]) (uX2_sleeps l x (A 2) u (by (try simp only [nN_ph, nN_lec, nN_cpy, nN_cof, nN_wak, nN_hrs]); omega) j (by (try simp only [nN_ph, nN_lec, nN_cpy, nN_cof, nN_wak, nN_hrs]); omega)) kX2_sleeps 0 rfl rfl rfl vX5_104 dX5_digest_52 (by decide) rfl rfl (Nat.le_of_ble_eq_true rfl) (qm_1 14 2 [0, 1, 3, 4, 5, 6, 7, 8, 9, 10, 11, 12, 13] (by decide +kernel) rfl rfl rfl) rfl ?_
      refine j_ifb_eq (b := u.2.2.1 j) (tgt := 62) dX5_digest_55 (by decide) (fun h55 => ?_) (fun h55 => ?_)
      · skip
        refine j_aload_n 0 dX5_digest_62 rfl rfl ?_
        refine j_iload_n 2 dX5_digest_63 rfl rfl ?_
        refine j_iconst (v := nI 3) dX5_digest_64 (by decide) ?_
        refine j_callV (As := [.int (nI j), .int (nI 3)]) (rest := [.long (dgA u v j h)]) (wr := fl [pb x (A 1) g, sb x (A 3) v, nb x (A 4) uk, sb x (A 5) vk, lb x (A 7) a z'.2.1, nb x (a 0) z'.2.2.1, nb x (a 1) z'.2.2.2.1, nb x (a 2) z'.2.2.2.2.1, gb x (A 11) (A 13) r z'.2.2.2.2.2.1, rowsB x r z'.2.2.2.2.2.2.1, nb x (A 13) z'.2.2.2.2.2.2.2]) (tX5_fewestCups l x A ik hr ld u hu j (by omega) 3 (by omega) (by omega) z'.1 (by (try simp only [nN_ph, nN_lec, nN_cpy, nN_cof, nN_wak, nN_hrs]); omega)) kX5_fewestCups vX5_143 0 rfl rfl rfl dX5_digest_65 (by decide) (Nat.le_of_eq (Nat.zero_add _)) (Nat.le_of_eq (Nat.zero_add _)) rfl rfl (Nat.le_of_ble_eq_true rfl) (qm_c 14 [1, 0, 6] [2, 3, 4, 5, 7, 8, 9, 10, 11, 12, 13] (by decide +kernel) rfl rfl rfl) (fun v9 w9 hv9 => ?_)
        obtain ⟨rfl, w8, hw8, rfl⟩ := hv9
        refine j_eq (lv' := [(0, .ref ((A 0) 0)), (1, .long (dgA u v j h)), (3, .int (nI j))]) (st' := [.int (oI (fcU u j 3)), .long (dgA u v j h)]) (ws' := fl [ob A (ik, hr, ld), nb x (A 2) u, nb x (A 6) w8, pb x (A 1) g, sb x (A 3) v, nb x (A 4) uk, sb x (A 5) vk, lb x (A 7) a z'.2.1, nb x (a 0) z'.2.2.1, nb x (a 1) z'.2.2.2.1, nb x (a 2) z'.2.2.2.2.1, gb x (A 11) (A 13) r z'.2.2.2.2.2.1, rowsB x r z'.2.2.2.2.2.2.1, nb x (A 13) z'.2.2.2.2.2.2.2]) rfl rfl (fl_app _ _) ?_
        refine j_i2l dX5_digest_68 ?_
        refine j_cSl (As := [.long (dgA u v j h), .long ((oI (fcU u j 3)).toInt64)]) (rest := []) (wr := fl [ob A (ik, hr, ld), nb x (A 2) u, nb x (A 6) w8, pb x (A 1) g, sb x (A 3) v, nb x (A 4) uk, sb x (A 5) vk, lb x (A 7) a z'.2.1, nb x (a 0) z'.2.2.1, nb x (a 1) z'.2.2.2.1, nb x (a 2) z'.2.2.2.2.1, gb x (A 11) (A 13) r z'.2.2.2.2.2.1, rowsB x r z'.2.2.2.2.2.2.1, nb x (A 13) z'.2.2.2.2.2.2.2]) (ws' := fl [ob A (ik, hr, ld), nb x (A 2) u, nb x (A 6) w8, pb x (A 1) g, sb x (A 3) v, nb x (A 4) uk, sb x (A 5) vk, lb x (A 7) a z'.2.1, nb x (a 0) z'.2.2.1, nb x (a 1) z'.2.2.2.1, nb x (a 2) z'.2.2.2.2.1, gb x (A 11) (A 13) r z'.2.2.2.2.2.1, rowsB x r z'.2.2.2.2.2.2.1, nb x (A 13) z'.2.2.2.2.2.2.2]) (tX5_mixed l x (dgA u v j h) ((oI (fcU u j 3)).toInt64)) kX5_mixed sX5_194 dX5_digest_69 (by decide) rfl rfl (Nat.le_of_ble_eq_true rfl) (List.Perm.refl _) rfl ?_
        refine j_lstore_n (lv' := [(1, .long (31 * (dgA u v j h) + ((oI (fcU u j 3)).toInt64))), (0, .ref ((A 0) 0)), (3, .int (nI j))]) dX5_digest_72 rfl (by decide) rfl ?_
        refine j_iinc (v := nI (j + 1)) (lv' := [(3, .int (nI (j + 1))), (1, .long (31 * (dgA u v j h) + ((oI (fcU u j 3)).toInt64))), (0, .ref ((A 0) 0))]) 2 dX5_digest_73 rfl (nI_1 j) (by decide) rfl ?_
        refine j_goto (tgt := 6) dX5_digest_76 (by decide) ?_
        refine j_lv [2, 1, 0] (lv' := [(0, .ref ((A 0) 0)), (1, .long (31 * (dgA u v j h) + ((oI (fcU u j 3)).toInt64))), (3, .int (nI (j + 1)))]) rfl ?_
        refine j_perm (fl [ob A (ik, hr, ld), pb x (A 1) g, nb x (A 2) u, sb x (A 3) v, nb x (A 4) uk, sb x (A 5) vk, nb x (A 6) w8, lb x (A 7) a z'.2.1, nb x (a 0) z'.2.2.1, nb x (a 1) z'.2.2.2.1, nb x (a 2) z'.2.2.2.2.1, gb x (A 11) (A 13) r z'.2.2.2.2.2.1, rowsB x r z'.2.2.2.2.2.2.1, nb x (A 13) z'.2.2.2.2.2.2.2]) (qm_b 14 [0, 3, 1, 4, 5, 6, 2, 7, 8, 9, 10, 11, 12, 13] (by decide +kernel) rfl rfl) ?_
        exact ih (j + 1) _ (w8, z'.2.1, z'.2.2.1, z'.2.2.2.1, z'.2.2.2.2.1, z'.2.2.2.2.2.1, z'.2.2.2.2.2.2.1, z'.2.2.2.2.2.2.2) (by omega) (by rw [← hc1, itr_go (n := nN u) (b := j) (by omega)]; exact congrArg (itr (dgL u v) (nN u - (j + 1)) (j + 1)) (by first | (rw [dgL, if_pos h55, mx, toI64_0]; done) | (rw [dgL, if_neg (by rw [h55]; decide), mx]; done))) ⟨(by (try simp only [nN_ph, nN_lec, nN_cpy, nN_cof, nN_wak, nN_hrs]); omega), (by (try simp only [nN_ph, nN_lec, nN_cpy, nN_cof, nN_wak, nN_hrs]); omega), (by (try simp only [nN_ph, nN_lec, nN_cpy, nN_cof, nN_wak, nN_hrs]); omega), (by (try simp only [nN_ph, nN_lec, nN_cpy, nN_cof, nN_wak, nN_hrs]); omega), (by (try simp only [nN_ph, nN_lec, nN_cpy, nN_cof, nN_wak, nN_hrs]); omega)⟩ (by omega)
      · skip
        refine j_lconst (v := 0) dX5_digest_58 (by decide) ?_
        refine j_goto (tgt := 69) dX5_digest_59 (by decide) ?_
        refine j_cSl (As := [.long (dgA u v j h), .long 0]) (rest := []) (wr := fl [nb x (A 2) u, ob A (ik, hr, ld), pb x (A 1) g, sb x (A 3) v, nb x (A 4) uk, sb x (A 5) vk, nb x (A 6) z'.1, lb x (A 7) a z'.2.1, nb x (a 0) z'.2.2.1, nb x (a 1) z'.2.2.2.1, nb x (a 2) z'.2.2.2.2.1, gb x (A 11) (A 13) r z'.2.2.2.2.2.1, rowsB x r z'.2.2.2.2.2.2.1, nb x (A 13) z'.2.2.2.2.2.2.2]) (ws' := fl [nb x (A 2) u, ob A (ik, hr, ld), pb x (A 1) g, sb x (A 3) v, nb x (A 4) uk, sb x (A 5) vk, nb x (A 6) z'.1, lb x (A 7) a z'.2.1, nb x (a 0) z'.2.2.1, nb x (a 1) z'.2.2.2.1, nb x (a 2) z'.2.2.2.2.1, gb x (A 11) (A 13) r z'.2.2.2.2.2.1, rowsB x r z'.2.2.2.2.2.2.1, nb x (A 13) z'.2.2.2.2.2.2.2]) (tX5_mixed l x (dgA u v j h) 0) kX5_mixed sX5_194 dX5_digest_69 (by decide) rfl rfl (Nat.le_of_ble_eq_true rfl) (List.Perm.refl _) rfl ?_
        refine j_lstore_n (lv' := [(1, .long (31 * (dgA u v j h) + 0)), (0, .ref ((A 0) 0)), (3, .int (nI j))]) dX5_digest_72 rfl (by decide) rfl ?_
        refine j_iinc (v := nI (j + 1)) (lv' := [(3, .int (nI (j + 1))), (1, .long (31 * (dgA u v j h) + 0)), (0, .ref ((A 0) 0))]) 2 dX5_digest_73 rfl (nI_1 j) (by decide) rfl ?_
        refine j_goto (tgt := 6) dX5_digest_76 (by decide) ?_
        refine j_lv [2, 1, 0] (lv' := [(0, .ref ((A 0) 0)), (1, .long (31 * (dgA u v j h) + 0)), (3, .int (nI (j + 1)))]) rfl ?_
        refine j_perm (fl [ob A (ik, hr, ld), pb x (A 1) g, nb x (A 2) u, sb x (A 3) v, nb x (A 4) uk, sb x (A 5) vk, nb x (A 6) z'.1, lb x (A 7) a z'.2.1, nb x (a 0) z'.2.2.1, nb x (a 1) z'.2.2.2.1, nb x (a 2) z'.2.2.2.2.1, gb x (A 11) (A 13) r z'.2.2.2.2.2.1, rowsB x r z'.2.2.2.2.2.2.1, nb x (A 13) z'.2.2.2.2.2.2.2]) (qm_b 14 [1, 2, 0, 3, 4, 5, 6, 7, 8, 9, 10, 11, 12, 13] (by decide +kernel) rfl rfl) ?_
        exact ih (j + 1) _ (z'.1, z'.2.1, z'.2.2.1, z'.2.2.2.1, z'.2.2.2.2.1, z'.2.2.2.2.2.1, z'.2.2.2.2.2.2.1, z'.2.2.2.2.2.2.2) (by omega) (by rw [← hc1, itr_go (n := nN u) (b := j) (by omega)]; exact congrArg (itr (dgL u v) (nN u - (j + 1)) (j + 1)) (by first | (rw [dgL, if_pos h55, mx, toI64_0]; done) | (rw [dgL, if_neg (by rw [h55]; decide), mx]; done))) ⟨(by (try simp only [nN_ph, nN_lec, nN_cpy, nN_cof, nN_wak, nN_hrs]); omega), (by (try simp only [nN_ph, nN_lec, nN_cpy, nN_cof, nN_wak, nN_hrs]); omega), (by (try simp only [nN_ph, nN_lec, nN_cpy, nN_cof, nN_wak, nN_hrs]); omega), (by (try simp only [nN_ph, nN_lec, nN_cpy, nN_cof, nN_wak, nN_hrs]); omega), (by (try simp only [nN_ph, nN_lec, nN_cpy, nN_cof, nN_wak, nN_hrs]); omega)⟩ (by omega)
set_option maxHeartbeats 4000000 in
set_option maxRecDepth 100000 in
theorem tX5_digest (l : Launch) (x : Cx) (A a : Nat → Nat → Nat) (r : Nat → Nat) (ik : Bool) (hr ld : Nat) (g : PG) (u : NS) (v : SS) (uk : NS) (vk : SS) (hld : ld ≤ 40) (hg : g.2 ≤ 18) (hu : nN u ≤ 5) (hv : v.2.2 ≤ 6) (huk : nN uk ≤ 5) (hvk : vk.2.2 ≤ 6)  (z : ZS) (hz : zok z) : MC l x 11 0 0 yX5_digest cX5_digest 5 (some .long) [.ref ((A 0) 0)] (cw x A a r ((ik, hr, ld), g, u, v, uk, vk) z) (pL5 x A a r (kDigest (ik, hr, ld) g u v) (((ik, hr, ld), g, u, v, uk, vk))) := by
  have hw : nN z.1 ≤ 5 := hz.1
  have hw0 : nN z.2.2.1 ≤ 5 := hz.2.1
  have hw1 : nN z.2.2.2.1 ≤ 5 := hz.2.2.1
  have hw2 : nN z.2.2.2.2.1 ≤ 5 := hz.2.2.2.1
  have hw3 : nN z.2.2.2.2.2.2.2 ≤ 5 := hz.2.2.2.2
  refine MC.of (by decide) (Nat.le_of_ble_eq_true rfl) pL5_fit (fun M => ?_)
  show J M l x cX5_digest 5 yX5_digest 11 (pL5 x A a r (kDigest (ik, hr, ld) g u v) (((ik, hr, ld), g, u, v, uk, vk))) 0 0 0 [(0, .ref ((A 0) 0))] [] (fl [ob A (ik, hr, ld), pb x (A 1) g, nb x (A 2) u, sb x (A 3) v, nb x (A 4) uk, sb x (A 5) vk, nb x (A 6) z.1, lb x (A 7) a z.2.1, nb x (a 0) z.2.2.1, nb x (a 1) z.2.2.2.1, nb x (a 2) z.2.2.2.2.1, gb x (A 11) (A 13) r z.2.2.2.2.2.1, rowsB x r z.2.2.2.2.2.2.1, nb x (A 13) z.2.2.2.2.2.2.2])
  refine j_ldc2 dX5_digest_0 pX5_189 ?_
  refine j_lstore_n (lv' := [(1, .long 953), (0, .ref ((A 0) 0))]) dX5_digest_3 rfl (by decide) rfl ?_
  refine j_iconst (v := nI 0) dX5_digest_4 (by decide) ?_
  refine j_istore_n (lv' := [(3, .int (nI 0)), (1, .long 953), (0, .ref ((A 0) 0))]) dX5_digest_5 rfl (by decide) rfl ?_
  refine j_lv [2, 1, 0] (lv' := [(0, .ref ((A 0) 0)), (1, .long 953), (3, .int (nI 0))]) rfl ?_
  exact lp_dgL l x A a r ik hr ld g u v uk vk hld hg hu hv huk hvk (nN u + 1) 0 953 z (by omega) rfl hz (by omega)
