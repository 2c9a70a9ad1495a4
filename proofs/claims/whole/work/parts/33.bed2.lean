set_option maxHeartbeats 4000000 in
set_option maxRecDepth 100000 in
theorem lp_fewI {M : Mx} (l : Launch) (x : Cx) (A : Nat → Nat → Nat) (ik : Bool) (hr ld : Nat) (u : NS) (hu : nN u ≤ 5) (j : Nat) (hj : j < nN u) (hh : Nat) (h1 : 1 ≤ hh) (h6 : hh ≤ 6) (r : Option Nat) (c : Nat) (hc : c ≤ 4) (w : NS) (hw : nN w ≤ 5) {k0 n0 : Nat} (hk : J M l x cX5_fewestCups 5 yX5_fewestCups 4 (eX (oI r) (fun ws => ∃ w' : NS, nN w' ≤ 5 ∧ ws = fl [ob A (ik, hr, ld), nb x (A 2) u, nb x (A 6) w'])) k0 n0 41 [(0, .ref ((A 0) 0)), (1, .int (nI j)), (2, .int (nI hh)), (3, .int (nI c))] [] (fl [ob A (ik, hr, ld), nb x (A 2) u, nb x (A 6) (cfs c (cpy u w) j)])) : ∀ (m : Nat) (e : Nat), e ≤ c → c - e < m → J M l x cX5_fewestCups 5 yX5_fewestCups 4 (eX (oI r) (fun ws => ∃ w' : NS, nN w' ≤ 5 ∧ ws = fl [ob A (ik, hr, ld), nb x (A 2) u, nb x (A 6) w'])) k0 n0 21 [(0, .ref ((A 0) 0)), (1, .int (nI j)), (2, .int (nI hh)), (3, .int (nI c)), (4, .int (nI e))] [] (fl [ob A (ik, hr, ld), nb x (A 2) u, nb x (A 6) (cfs e (cpy u w) j)]) := by
  intro m; induction m with
  | zero => intro e hc0 hm; exact absurd hm (Nat.not_lt_zero _)
  | succ m ih =>
    intro e hc0 hm
    refine j_iload 4 dX5_fewestCups_21 rfl ?_
    refine j_iload_n 3 dX5_fewestCups_23 rfl rfl ?_
    refine j_icmpN_ge (a := e) (b := c) (by omega) (by omega) (tgt := 41) dX5_fewestCups_24 (by decide) (fun h24 => ?_) (fun h24 => ?_)
    · skip
      refine j_lv [0, 1, 2, 3] (lv' := [(0, .ref ((A 0) 0)), (1, .int (nI j)), (2, .int (nI hh)), (3, .int (nI c))]) rfl ?_
      rw [show e = c by omega]
      exact hk
    · skip
      refine j_aload_n 0 dX5_fewestCups_27 rfl rfl ?_
      refine j_get (v := .ref ((A 6) 0)) 0 dX5_fewestCups_28 fX5_40 rfl rfl ?_
      refine j_iload_n 1 dX5_fewestCups_31 rfl rfl ?_
      refine j_cVv (As := [.int (nI j)]) (rest := []) (wr := fl [ob A (ik, hr, ld), nb x (A 2) u]) (ws' := fl [nb x (A 6) (cof (cfs e (cpy u w) j) j), ob A (ik, hr, ld), nb x (A 2) u]) (uX2_giveCoffee l x (A 6) (cfs e (cpy u w) j) (by rw [nN_cfs, nN_cpy]; omega) j (by rw [nN_cfs, nN_cpy]; omega)) kX2_giveCoffee 0 rfl rfl rfl vX5_130 dX5_fewestCups_32 (by decide) rfl rfl (Nat.le_of_ble_eq_true rfl) (pm_1 2 [0, 1] rfl rfl rfl) rfl ?_
      refine j_iinc (v := nI (e + 1)) (lv' := [(4, .int (nI (e + 1))), (0, .ref ((A 0) 0)), (1, .int (nI j)), (2, .int (nI hh)), (3, .int (nI c))]) 4 dX5_fewestCups_35 rfl (nI_1 e) (by decide) rfl ?_
      refine j_goto (tgt := 21) dX5_fewestCups_38 (by decide) ?_
      refine j_lv [1, 2, 3, 4, 0] (lv' := [(0, .ref ((A 0) 0)), (1, .int (nI j)), (2, .int (nI hh)), (3, .int (nI c)), (4, .int (nI (e + 1)))]) rfl ?_
      refine j_perm (fl [ob A (ik, hr, ld), nb x (A 2) u, nb x (A 6) (cof (cfs e (cpy u w) j) j)]) (pm_b [1, 2, 0] rfl rfl) ?_
      exact ih (e + 1) (by omega) (by omega)
set_option maxHeartbeats 4000000 in
set_option maxRecDepth 100000 in
theorem lp_fewO {M : Mx} (l : Launch) (x : Cx) (A : Nat → Nat → Nat) (ik : Bool) (hr ld : Nat) (u : NS) (hu : nN u ≤ 5) (j : Nat) (hj : j < nN u) (hh : Nat) (h1 : 1 ≤ hh) (h6 : hh ≤ 6) (r : Option Nat) {k0 n0 : Nat}  : ∀ (m : Nat) (c : Nat) (w : NS), c ≤ 5 → fcr u j hh (5 - c) c = r → nN w ≤ 5 → 5 - c < m → J M l x cX5_fewestCups 5 yX5_fewestCups 4 (eX (oI r) (fun ws => ∃ w' : NS, nN w' ≤ 5 ∧ ws = fl [ob A (ik, hr, ld), nb x (A 2) u, nb x (A 6) w'])) k0 n0 2 [(0, .ref ((A 0) 0)), (1, .int (nI j)), (2, .int (nI hh)), (3, .int (nI c))] [] (fl [ob A (ik, hr, ld), nb x (A 2) u, nb x (A 6) w]) := by
  intro m; induction m with
  | zero => intro c w hc0 hc1 hc2 hm; exact absurd hm (Nat.not_lt_zero _)
  | succ m ih =>
    intro c w hc0 hc1 hc2 hm
    refine j_iload_n 3 dX5_fewestCups_2 rfl rfl ?_
    refine j_iconst (v := 4) dX5_fewestCups_3 (by decide) ?_
    refine j_icmpN_gt (a := c) (b := 4) (by omega) (by omega) (tgt := 61) dX5_fewestCups_4 (by decide) (fun h4 => ?_) (fun h4 => ?_)
    · skip
      refine j_iconst (v := (-1)) dX5_fewestCups_61 (by decide) ?_
      exact j_iret _ dX5_fewestCups_62 (List.Perm.refl _) ⟨by rw [← hc1, show 5 - c = 0 by omega]; rfl, w, hc2, rfl⟩
    · skip
      refine j_aload_n 0 dX5_fewestCups_7 rfl rfl ?_
      refine j_get (v := .ref ((A 6) 0)) 0 dX5_fewestCups_8 fX5_40 rfl rfl ?_
      refine j_aload_n 0 dX5_fewestCups_11 rfl rfl ?_
      refine j_get (v := .ref ((A 2) 0)) 0 dX5_fewestCups_12 fX5_19 rfl rfl ?_
      refine j_cVv (As := [.ref ((A 2) 0)]) (rest := []) (wr := fl [ob A (ik, hr, ld)]) (ws' := fl [nb x (A 6) (cpy u w), nb x (A 2) u, ob A (ik, hr, ld)]) (uX2_copyFrom l x (A 6) w (A 2) u (by (try simp only [nN_ph, nN_lec, nN_cpy, nN_cof, nN_wak, nN_hrs]); omega)) kX2_copyFrom 0 rfl rfl rfl vX5_167 dX5_fewestCups_15 (by decide) rfl rfl (Nat.le_of_ble_eq_true rfl) (pm_2 2 1 [0] rfl rfl rfl rfl) (List.append_assoc _ _ _) ?_
      refine j_iconst (v := nI 0) dX5_fewestCups_18 (by decide) ?_
      refine j_istore (lv' := [(4, .int (nI 0)), (0, .ref ((A 0) 0)), (1, .int (nI j)), (2, .int (nI hh)), (3, .int (nI c))]) dX5_fewestCups_19 (by decide) rfl ?_
      refine j_lv [1, 2, 3, 4, 0] (lv' := [(0, .ref ((A 0) 0)), (1, .int (nI j)), (2, .int (nI hh)), (3, .int (nI c)), (4, .int (nI 0))]) rfl ?_
      refine j_perm (fl [ob A (ik, hr, ld), nb x (A 2) u, nb x (A 6) (cpy u w)]) (pm_b [2, 1, 0] rfl rfl) ?_
      refine lp_fewI l x A ik hr ld u hu j hj hh h1 h6 r c (by omega) w hc2 ?_ (c + 1) 0 (by omega) (by omega)
      refine j_aload_n 0 dX5_fewestCups_41 rfl rfl ?_
      refine j_get (v := .ref ((A 6) 0)) 0 dX5_fewestCups_42 fX5_40 rfl rfl ?_
      refine j_iload_n 1 dX5_fewestCups_45 rfl rfl ?_
      refine j_iload_n 2 dX5_fewestCups_46 rfl rfl ?_
      refine j_callV (As := [.int (nI j), .int (nI hh)]) (rest := []) (wr := fl [ob A (ik, hr, ld), nb x (A 2) u]) (uX2_keepsBed l x (A 6) (cfs c (cpy u w) j) (by rw [nN_cfs, nN_cpy]; omega) j (by omega) hh (by omega) (by omega)) kX2_keepsBed vX5_210 0 rfl rfl rfl dX5_fewestCups_47 (by decide) (Nat.le_of_eq (Nat.zero_add _)) (Nat.le_of_eq (Nat.zero_add _)) rfl rfl (Nat.le_of_ble_eq_true rfl) (pm_1 2 [0, 1] rfl rfl rfl) (fun v9 w9 hv9 => ?_)
      obtain ⟨rfl, w8, hw8, rfl⟩ := hv9
      refine j_eq (lv' := [(0, .ref ((A 0) 0)), (1, .int (nI j)), (2, .int (nI hh)), (3, .int (nI c))]) (st' := [.int (bI (kb (hh - 1) (cfs c (cpy u w) j) j))]) (ws' := fl [nb x (A 6) w8, ob A (ik, hr, ld), nb x (A 2) u]) rfl rfl rfl ?_
      refine j_topi (b := bI (kb (hh - 1) (cfs c u j) j)) (congrArg bI (((eqN_cpy u w).fE (by rw [nN_cpy]; exact hj) c).bE)) ?_
      refine j_ifb_eq (b := kb (hh - 1) (cfs c u j) j) (tgt := 55) dX5_fewestCups_50 (by decide) (fun h50 => ?_) (fun h50 => ?_)
      · skip
        refine j_iinc (v := nI (c + 1)) (lv' := [(3, .int (nI (c + 1))), (0, .ref ((A 0) 0)), (1, .int (nI j)), (2, .int (nI hh))]) 3 dX5_fewestCups_55 rfl (nI_1 c) (by decide) rfl ?_
        refine j_goto (tgt := 2) dX5_fewestCups_58 (by decide) ?_
        refine j_lv [1, 2, 3, 0] (lv' := [(0, .ref ((A 0) 0)), (1, .int (nI j)), (2, .int (nI hh)), (3, .int (nI (c + 1)))]) rfl ?_
        refine j_perm (fl [ob A (ik, hr, ld), nb x (A 2) u, nb x (A 6) w8]) (pm_b [1, 2, 0] rfl rfl) ?_
        exact ih (c + 1) w8 (by omega) (by rw [← hc1, show 5 - c = (5 - (c + 1)) + 1 by omega, fcr, if_neg (by rw [h50]; decide)]) hw8 (by omega)
      · skip
        refine j_iload_n 3 dX5_fewestCups_53 rfl rfl ?_
        refine j_perm (fl [ob A (ik, hr, ld), nb x (A 2) u, nb x (A 6) w8]) (pm_b [1, 2, 0] rfl rfl) ?_
        exact j_iret _ dX5_fewestCups_54 (List.Perm.refl _) ⟨by rw [← hc1, show 5 - c = (5 - (c + 1)) + 1 by omega, fcr, if_pos h50]; rfl, w8, hw8, rfl⟩
set_option maxHeartbeats 4000000 in
set_option maxRecDepth 100000 in
theorem tX5_fewestCups (l : Launch) (x : Cx) (A : Nat → Nat → Nat) (ik : Bool) (hr ld : Nat) (u : NS) (hu : nN u ≤ 5) (j : Nat) (hj : j < nN u) (hh : Nat) (h1 : 1 ≤ hh) (h6 : hh ≤ 6) (w : NS) (hw : nN w ≤ 5) : MC l x 4 0 0 yX5_fewestCups cX5_fewestCups 5 (some .int) [.ref ((A 0) 0), .int (nI j), .int (nI hh)] (fl [ob A (ik, hr, ld), nb x (A 2) u, nb x (A 6) w]) (eX (oI (fcU u j hh)) (fun ws => ∃ w' : NS, nN w' ≤ 5 ∧ ws = fl [ob A (ik, hr, ld), nb x (A 2) u, nb x (A 6) w'])) := by
  refine MC.of (by decide) (Nat.le_of_ble_eq_true rfl) eXI_fit (fun M => ?_)
  show J M l x cX5_fewestCups 5 yX5_fewestCups 4 (eX (oI (fcU u j hh)) (fun ws => ∃ w' : NS, nN w' ≤ 5 ∧ ws = fl [ob A (ik, hr, ld), nb x (A 2) u, nb x (A 6) w'])) 0 0 0 [(0, .ref ((A 0) 0)), (1, .int (nI j)), (2, .int (nI hh))] [] (fl [ob A (ik, hr, ld), nb x (A 2) u, nb x (A 6) w])
  refine j_iconst (v := nI 0) dX5_fewestCups_0 (by decide) ?_
  refine j_istore_n (lv' := [(3, .int (nI 0)), (0, .ref ((A 0) 0)), (1, .int (nI j)), (2, .int (nI hh))]) dX5_fewestCups_1 rfl (by decide) rfl ?_
  refine j_lv [1, 2, 3, 0] (lv' := [(0, .ref ((A 0) 0)), (1, .int (nI j)), (2, .int (nI hh)), (3, .int (nI 0))]) rfl ?_
  exact lp_fewO l x A ik hr ld u hu j hj hh h1 h6 _ 6 0 w (by omega) rfl hw (by omega)
set_option maxHeartbeats 4000000 in
set_option maxRecDepth 100000 in
theorem tX5_about (l : Launch) (x : Cx) (A a : Nat → Nat → Nat) (r : Nat → Nat) (ik : Bool) (hr ld : Nat) (g : PG) (u : NS) (v : SS) (uk : NS) (vk : SS) (hld : ld ≤ 40) (hg : g.2 ≤ 18) (hu : nN u ≤ 5) (hv : v.2.2 ≤ 6) (huk : nN uk ≤ 5) (hvk : vk.2.2 ≤ 6) (l9 : Int32) (e : Int32) (z : ZS) (hz : zok z) : MC l x 10 0 0 yX5_about cX5_about 3 (some .int) [.ref ((A 0) 0), .int l9, .int e] (cw x A a r ((ik, hr, ld), g, u, v, uk, vk) z) (pS5 x A a r (kAbout u v l9 e) (((ik, hr, ld), g, u, v, uk, vk))) := by
  have hw : nN z.1 ≤ 5 := hz.1
  have hw0 : nN z.2.2.1 ≤ 5 := hz.2.1
  have hw1 : nN z.2.2.2.1 ≤ 5 := hz.2.2.1
  have hw2 : nN z.2.2.2.2.1 ≤ 5 := hz.2.2.2.1
  have hw3 : nN z.2.2.2.2.2.2.2 ≤ 5 := hz.2.2.2.2
  refine MC.of (by decide) (Nat.le_of_ble_eq_true rfl) eXI_fit (fun M => ?_)
  show J M l x cX5_about 3 yX5_about 10 (pS5 x A a r (kAbout u v l9 e) (((ik, hr, ld), g, u, v, uk, vk))) 0 0 0 [(0, .ref ((A 0) 0)), (1, .int l9), (2, .int e)] [] (fl [ob A (ik, hr, ld), pb x (A 1) g, nb x (A 2) u, sb x (A 3) v, nb x (A 4) uk, sb x (A 5) vk, nb x (A 6) z.1, lb x (A 7) a z.2.1, nb x (a 0) z.2.2.1, nb x (a 1) z.2.2.2.1, nb x (a 2) z.2.2.2.2.1, gb x (A 11) (A 13) r z.2.2.2.2.2.1, rowsB x r z.2.2.2.2.2.2.1, nb x (A 13) z.2.2.2.2.2.2.2])
  refine j_aload_n 0 dX5_about_0 rfl rfl ?_
  refine j_get (v := .ref ((A 2) 0)) 0 dX5_about_1 fX5_19 rfl rfl ?_
  refine j_iload_n 1 dX5_about_4 rfl rfl ?_
  refine j_cVi (As := [.int l9]) (rest := []) (wr := fl [ob A (ik, hr, ld), pb x (A 1) g, sb x (A 3) v, nb x (A 4) uk, sb x (A 5) vk, nb x (A 6) z.1, lb x (A 7) a z.2.1, nb x (a 0) z.2.2.1, nb x (a 1) z.2.2.2.1, nb x (a 2) z.2.2.2.2.1, gb x (A 11) (A 13) r z.2.2.2.2.2.1, rowsB x r z.2.2.2.2.2.2.1, nb x (A 13) z.2.2.2.2.2.2.2]) (ws' := fl [nb x (A 2) u, ob A (ik, hr, ld), pb x (A 1) g, sb x (A 3) v, nb x (A 4) uk, sb x (A 5) vk, nb x (A 6) z.1, lb x (A 7) a z.2.1, nb x (a 0) z.2.2.1, nb x (a 1) z.2.2.2.1, nb x (a 2) z.2.2.2.2.1, gb x (A 11) (A 13) r z.2.2.2.2.2.1, rowsB x r z.2.2.2.2.2.2.1, nb x (A 13) z.2.2.2.2.2.2.2]) (uX2_knows l x (A 2) u l9) kX2_knows 0 rfl rfl rfl vX5_94 dX5_about_5 (by decide) rfl rfl (Nat.le_of_ble_eq_true rfl) (qm_1 14 2 [0, 1, 3, 4, 5, 6, 7, 8, 9, 10, 11, 12, 13] (by decide +kernel) rfl rfl rfl) rfl ?_
  refine j_ifb_ne (b := kn (nN u) l9) (tgt := 14) dX5_about_8 (by decide) (fun h8 => ?_) (fun h8 => ?_)
  · skip
    obtain ⟨j, hj, rfl, hjc⟩ := kn_j h8 (by omega)
    refine j_iload_n 2 dX5_about_14 rfl rfl ?_
    by_cases s15_0 : e = 0
    · refine j_tabC (0) 0 s15_0 (by decide) dX5_about_15 rfl (by decide : (15 : Int) + 41 = ((56 : Nat) : Int)) ?_
      refine j_aload_n 0 dX5_about_56 rfl rfl ?_
      refine j_get (v := .ref ((A 2) 0)) 5 dX5_about_57 fX5_19 rfl rfl ?_
      refine j_iload_n 1 dX5_about_60 rfl rfl ?_
      refine j_cVi (As := [.int (nI j)]) (rest := []) (wr := fl [ob A (ik, hr, ld), pb x (A 1) g, sb x (A 3) v, nb x (A 4) uk, sb x (A 5) vk, nb x (A 6) z.1, lb x (A 7) a z.2.1, nb x (a 0) z.2.2.1, nb x (a 1) z.2.2.2.1, nb x (a 2) z.2.2.2.2.1, gb x (A 11) (A 13) r z.2.2.2.2.2.1, rowsB x r z.2.2.2.2.2.2.1, nb x (A 13) z.2.2.2.2.2.2.2]) (ws' := fl [nb x (A 2) u, ob A (ik, hr, ld), pb x (A 1) g, sb x (A 3) v, nb x (A 4) uk, sb x (A 5) vk, nb x (A 6) z.1, lb x (A 7) a z.2.1, nb x (a 0) z.2.2.1, nb x (a 1) z.2.2.2.1, nb x (a 2) z.2.2.2.2.1, gb x (A 11) (A 13) r z.2.2.2.2.2.1, rowsB x r z.2.2.2.2.2.2.1, nb x (A 13) z.2.2.2.2.2.2.2]) (uX2_kindOf l x (A 2) u (by (try simp only [nN_ph, nN_lec, nN_cpy, nN_cof, nN_wak, nN_hrs]); omega) j (by (try simp only [nN_ph, nN_lec, nN_cpy, nN_cof, nN_wak, nN_hrs]); omega)) kX2_kindOf 0 rfl rfl rfl vX5_98 dX5_about_61 (by decide) rfl rfl (Nat.le_of_ble_eq_true rfl) (qm_1 14 0 [1, 2, 3, 4, 5, 6, 7, 8, 9, 10, 11, 12, 13] (by decide +kernel) rfl rfl rfl) rfl ?_
      refine j_perm (fl [ob A (ik, hr, ld), pb x (A 1) g, nb x (A 2) u, sb x (A 3) v, nb x (A 4) uk, sb x (A 5) vk, nb x (A 6) z.1, lb x (A 7) a z.2.1, nb x (a 0) z.2.2.1, nb x (a 1) z.2.2.2.1, nb x (a 2) z.2.2.2.2.1, gb x (A 11) (A 13) r z.2.2.2.2.2.1, rowsB x r z.2.2.2.2.2.2.1, nb x (A 13) z.2.2.2.2.2.2.2]) (qm_b 14 [1, 2, 0, 3, 4, 5, 6, 7, 8, 9, 10, 11, 12, 13] (by decide +kernel) rfl rfl) ?_
      rw [show kAbout u v (nI j) e = u.1 j from by simp [kAbout, abU, hjc, h8, s15_0]]
      exact j_iret _ dX5_about_64 (List.Perm.refl _) ⟨rfl, (z.1, z.2.1, z.2.2.1, z.2.2.2.1, z.2.2.2.2.1, z.2.2.2.2.2.1, z.2.2.2.2.2.2.1, z.2.2.2.2.2.2.2), ⟨(by (try simp only [nN_ph, nN_lec, nN_cpy, nN_cof, nN_wak, nN_hrs]); omega), (by (try simp only [nN_ph, nN_lec, nN_cpy, nN_cof, nN_wak, nN_hrs]); omega), (by (try simp only [nN_ph, nN_lec, nN_cpy, nN_cof, nN_wak, nN_hrs]); omega), (by (try simp only [nN_ph, nN_lec, nN_cpy, nN_cof, nN_wak, nN_hrs]); omega), (by (try simp only [nN_ph, nN_lec, nN_cpy, nN_cof, nN_wak, nN_hrs]); omega)⟩, rfl⟩
    by_cases s15_1 : e = 1
    · refine j_tabC (1) 1 s15_1 (by decide) dX5_about_15 rfl (by decide : (15 : Int) + 50 = ((65 : Nat) : Int)) ?_
      refine j_aload_n 0 dX5_about_65 rfl rfl ?_
      refine j_get (v := .ref ((A 2) 0)) 5 dX5_about_66 fX5_19 rfl rfl ?_
      refine j_iload_n 1 dX5_about_69 rfl rfl ?_
      refine j_cVi (As := [.int (nI j)]) (rest := []) (wr := fl [ob A (ik, hr, ld), pb x (A 1) g, sb x (A 3) v, nb x (A 4) uk, sb x (A 5) vk, nb x (A 6) z.1, lb x (A 7) a z.2.1, nb x (a 0) z.2.2.1, nb x (a 1) z.2.2.2.1, nb x (a 2) z.2.2.2.2.1, gb x (A 11) (A 13) r z.2.2.2.2.2.1, rowsB x r z.2.2.2.2.2.2.1, nb x (A 13) z.2.2.2.2.2.2.2]) (ws' := fl [nb x (A 2) u, ob A (ik, hr, ld), pb x (A 1) g, sb x (A 3) v, nb x (A 4) uk, sb x (A 5) vk, nb x (A 6) z.1, lb x (A 7) a z.2.1, nb x (a 0) z.2.2.1, nb x (a 1) z.2.2.2.1, nb x (a 2) z.2.2.2.2.1, gb x (A 11) (A 13) r z.2.2.2.2.2.1, rowsB x r z.2.2.2.2.2.2.1, nb x (A 13) z.2.2.2.2.2.2.2]) (uX2_tiredOf l x (A 2) u (by (try simp only [nN_ph, nN_lec, nN_cpy, nN_cof, nN_wak, nN_hrs]); omega) j (by (try simp only [nN_ph, nN_lec, nN_cpy, nN_cof, nN_wak, nN_hrs]); omega)) kX2_tiredOf 0 rfl rfl rfl vX5_101 dX5_about_70 (by decide) rfl rfl (Nat.le_of_ble_eq_true rfl) (qm_1 14 0 [1, 2, 3, 4, 5, 6, 7, 8, 9, 10, 11, 12, 13] (by decide +kernel) rfl rfl rfl) rfl ?_
      refine j_perm (fl [ob A (ik, hr, ld), pb x (A 1) g, nb x (A 2) u, sb x (A 3) v, nb x (A 4) uk, sb x (A 5) vk, nb x (A 6) z.1, lb x (A 7) a z.2.1, nb x (a 0) z.2.2.1, nb x (a 1) z.2.2.2.1, nb x (a 2) z.2.2.2.2.1, gb x (A 11) (A 13) r z.2.2.2.2.2.1, rowsB x r z.2.2.2.2.2.2.1, nb x (A 13) z.2.2.2.2.2.2.2]) (qm_b 14 [1, 2, 0, 3, 4, 5, 6, 7, 8, 9, 10, 11, 12, 13] (by decide +kernel) rfl rfl) ?_
      rw [show kAbout u v (nI j) e = u.2.1 j from by simp [kAbout, abU, hjc, h8, s15_0, s15_1]]
      exact j_iret _ dX5_about_73 (List.Perm.refl _) ⟨rfl, (z.1, z.2.1, z.2.2.1, z.2.2.2.1, z.2.2.2.2.1, z.2.2.2.2.2.1, z.2.2.2.2.2.2.1, z.2.2.2.2.2.2.2), ⟨(by (try simp only [nN_ph, nN_lec, nN_cpy, nN_cof, nN_wak, nN_hrs]); omega), (by (try simp only [nN_ph, nN_lec, nN_cpy, nN_cof, nN_wak, nN_hrs]); omega), (by (try simp only [nN_ph, nN_lec, nN_cpy, nN_cof, nN_wak, nN_hrs]); omega), (by (try simp only [nN_ph, nN_lec, nN_cpy, nN_cof, nN_wak, nN_hrs]); omega), (by (try simp only [nN_ph, nN_lec, nN_cpy, nN_cof, nN_wak, nN_hrs]); omega)⟩, rfl⟩
    by_cases s15_2 : e = 2
    · refine j_tabC (2) 2 s15_2 (by decide) dX5_about_15 rfl (by decide : (15 : Int) + 59 = ((74 : Nat) : Int)) ?_
      refine j_aload_n 0 dX5_about_74 rfl rfl ?_
      refine j_get (v := .ref ((A 2) 0)) 5 dX5_about_75 fX5_19 rfl rfl ?_
      refine j_iload_n 1 dX5_about_78 rfl rfl ?_
      refine j_cVi (As := [.int (nI j)]) (rest := []) (wr := fl [ob A (ik, hr, ld), pb x (A 1) g, sb x (A 3) v, nb x (A 4) uk, sb x (A 5) vk, nb x (A 6) z.1, lb x (A 7) a z.2.1, nb x (a 0) z.2.2.1, nb x (a 1) z.2.2.2.1, nb x (a 2) z.2.2.2.2.1, gb x (A 11) (A 13) r z.2.2.2.2.2.1, rowsB x r z.2.2.2.2.2.2.1, nb x (A 13) z.2.2.2.2.2.2.2]) (ws' := fl [nb x (A 2) u, ob A (ik, hr, ld), pb x (A 1) g, sb x (A 3) v, nb x (A 4) uk, sb x (A 5) vk, nb x (A 6) z.1, lb x (A 7) a z.2.1, nb x (a 0) z.2.2.1, nb x (a 1) z.2.2.2.1, nb x (a 2) z.2.2.2.2.1, gb x (A 11) (A 13) r z.2.2.2.2.2.1, rowsB x r z.2.2.2.2.2.2.1, nb x (A 13) z.2.2.2.2.2.2.2]) (uX2_sleeps l x (A 2) u (by (try simp only [nN_ph, nN_lec, nN_cpy, nN_cof, nN_wak, nN_hrs]); omega) j (by (try simp only [nN_ph, nN_lec, nN_cpy, nN_cof, nN_wak, nN_hrs]); omega)) kX2_sleeps 0 rfl rfl rfl vX5_104 dX5_about_79 (by decide) rfl rfl (Nat.le_of_ble_eq_true rfl) (qm_1 14 0 [1, 2, 3, 4, 5, 6, 7, 8, 9, 10, 11, 12, 13] (by decide +kernel) rfl rfl rfl) rfl ?_
      refine j_ifb_eq (b := u.2.2.1 j) (tgt := 89) dX5_about_82 (by decide) (fun h82 => ?_) (fun h82 => ?_)
      · skip
        refine j_iconst (v := bI false) dX5_about_89 (by decide) ?_
        refine j_perm (fl [ob A (ik, hr, ld), pb x (A 1) g, nb x (A 2) u, sb x (A 3) v, nb x (A 4) uk, sb x (A 5) vk, nb x (A 6) z.1, lb x (A 7) a z.2.1, nb x (a 0) z.2.2.1, nb x (a 1) z.2.2.2.1, nb x (a 2) z.2.2.2.2.1, gb x (A 11) (A 13) r z.2.2.2.2.2.1, rowsB x r z.2.2.2.2.2.2.1, nb x (A 13) z.2.2.2.2.2.2.2]) (qm_b 14 [1, 2, 0, 3, 4, 5, 6, 7, 8, 9, 10, 11, 12, 13] (by decide +kernel) rfl rfl) ?_
        rw [show kAbout u v (nI j) e = bI false from by simp [kAbout, abU, hjc, h8, s15_0, s15_1, s15_2, h82]]
        exact j_iret _ dX5_about_90 (List.Perm.refl _) ⟨rfl, (z.1, z.2.1, z.2.2.1, z.2.2.2.1, z.2.2.2.2.1, z.2.2.2.2.2.1, z.2.2.2.2.2.2.1, z.2.2.2.2.2.2.2), ⟨(by (try simp only [nN_ph, nN_lec, nN_cpy, nN_cof, nN_wak, nN_hrs]); omega), (by (try simp only [nN_ph, nN_lec, nN_cpy, nN_cof, nN_wak, nN_hrs]); omega), (by (try simp only [nN_ph, nN_lec, nN_cpy, nN_cof, nN_wak, nN_hrs]); omega), (by (try simp only [nN_ph, nN_lec, nN_cpy, nN_cof, nN_wak, nN_hrs]); omega), (by (try simp only [nN_ph, nN_lec, nN_cpy, nN_cof, nN_wak, nN_hrs]); omega)⟩, rfl⟩
      · skip
        refine j_iconst (v := bI true) dX5_about_85 (by decide) ?_
        refine j_goto (tgt := 90) dX5_about_86 (by decide) ?_
        refine j_perm (fl [ob A (ik, hr, ld), pb x (A 1) g, nb x (A 2) u, sb x (A 3) v, nb x (A 4) uk, sb x (A 5) vk, nb x (A 6) z.1, lb x (A 7) a z.2.1, nb x (a 0) z.2.2.1, nb x (a 1) z.2.2.2.1, nb x (a 2) z.2.2.2.2.1, gb x (A 11) (A 13) r z.2.2.2.2.2.1, rowsB x r z.2.2.2.2.2.2.1, nb x (A 13) z.2.2.2.2.2.2.2]) (qm_b 14 [1, 2, 0, 3, 4, 5, 6, 7, 8, 9, 10, 11, 12, 13] (by decide +kernel) rfl rfl) ?_
        rw [show kAbout u v (nI j) e = bI true from by simp [kAbout, abU, hjc, h8, s15_0, s15_1, s15_2, h82]]
        exact j_iret _ dX5_about_90 (List.Perm.refl _) ⟨rfl, (z.1, z.2.1, z.2.2.1, z.2.2.2.1, z.2.2.2.2.1, z.2.2.2.2.2.1, z.2.2.2.2.2.2.1, z.2.2.2.2.2.2.2), ⟨(by (try simp only [nN_ph, nN_lec, nN_cpy, nN_cof, nN_wak, nN_hrs]); omega), (by (try simp only [nN_ph, nN_lec, nN_cpy, nN_cof, nN_wak, nN_hrs]); omega), (by (try simp only [nN_ph, nN_lec, nN_cpy, nN_cof, nN_wak, nN_hrs]); omega), (by (try simp only [nN_ph, nN_lec, nN_cpy, nN_cof, nN_wak, nN_hrs]); omega), (by (try simp only [nN_ph, nN_lec, nN_cpy, nN_cof, nN_wak, nN_hrs]); omega)⟩, rfl⟩
    by_cases s15_3 : e = 3
    · refine j_tabC (3) 3 s15_3 (by decide) dX5_about_15 rfl (by decide : (15 : Int) + 76 = ((91 : Nat) : Int)) ?_
      refine j_aload_n 0 dX5_about_91 rfl rfl ?_
      refine j_get (v := .ref ((A 2) 0)) 5 dX5_about_92 fX5_19 rfl rfl ?_
      refine j_cVi (As := []) (rest := []) (wr := fl [ob A (ik, hr, ld), pb x (A 1) g, sb x (A 3) v, nb x (A 4) uk, sb x (A 5) vk, nb x (A 6) z.1, lb x (A 7) a z.2.1, nb x (a 0) z.2.2.1, nb x (a 1) z.2.2.2.1, nb x (a 2) z.2.2.2.2.1, gb x (A 11) (A 13) r z.2.2.2.2.2.1, rowsB x r z.2.2.2.2.2.2.1, nb x (A 13) z.2.2.2.2.2.2.2]) (ws' := fl [nb x (A 2) u, ob A (ik, hr, ld), pb x (A 1) g, sb x (A 3) v, nb x (A 4) uk, sb x (A 5) vk, nb x (A 6) z.1, lb x (A 7) a z.2.1, nb x (a 0) z.2.2.1, nb x (a 1) z.2.2.2.1, nb x (a 2) z.2.2.2.2.1, gb x (A 11) (A 13) r z.2.2.2.2.2.1, rowsB x r z.2.2.2.2.2.2.1, nb x (A 13) z.2.2.2.2.2.2.2]) (uX2_whoseBed l x (A 2) u (by (try simp only [nN_ph, nN_lec, nN_cpy, nN_cof, nN_wak, nN_hrs]); omega)) kX2_whoseBed 0 rfl rfl rfl vX5_107 dX5_about_95 (by decide) rfl rfl (Nat.le_of_ble_eq_true rfl) (qm_1 14 0 [1, 2, 3, 4, 5, 6, 7, 8, 9, 10, 11, 12, 13] (by decide +kernel) rfl rfl rfl) rfl ?_
      refine j_iload_n 1 dX5_about_98 rfl rfl ?_
      refine j_icmp_ne (tgt := 106) dX5_about_99 (by decide) (fun h99 => ?_) (fun h99 => ?_)
      · skip
        have eb0 : ¬ wbU u = some j := fun e => h99 ((oI_eq (by omega) (fun i e => by have := wbU_lt e; omega)).mpr e).symm
        have eb : (wbU u == some j) = false := by simp [eb0]
        refine j_iconst (v := bI false) dX5_about_106 (by decide) ?_
        refine j_perm (fl [ob A (ik, hr, ld), pb x (A 1) g, nb x (A 2) u, sb x (A 3) v, nb x (A 4) uk, sb x (A 5) vk, nb x (A 6) z.1, lb x (A 7) a z.2.1, nb x (a 0) z.2.2.1, nb x (a 1) z.2.2.2.1, nb x (a 2) z.2.2.2.2.1, gb x (A 11) (A 13) r z.2.2.2.2.2.1, rowsB x r z.2.2.2.2.2.2.1, nb x (A 13) z.2.2.2.2.2.2.2]) (qm_b 14 [1, 2, 0, 3, 4, 5, 6, 7, 8, 9, 10, 11, 12, 13] (by decide +kernel) rfl rfl) ?_
        rw [show kAbout u v (nI j) e = bI false from by simp [kAbout, abU, hjc, h8, s15_0, s15_1, s15_2, s15_3, eb]]
        exact j_iret _ dX5_about_107 (List.Perm.refl _) ⟨rfl, (z.1, z.2.1, z.2.2.1, z.2.2.2.1, z.2.2.2.2.1, z.2.2.2.2.2.1, z.2.2.2.2.2.2.1, z.2.2.2.2.2.2.2), ⟨(by (try simp only [nN_ph, nN_lec, nN_cpy, nN_cof, nN_wak, nN_hrs]); omega), (by (try simp only [nN_ph, nN_lec, nN_cpy, nN_cof, nN_wak, nN_hrs]); omega), (by (try simp only [nN_ph, nN_lec, nN_cpy, nN_cof, nN_wak, nN_hrs]); omega), (by (try simp only [nN_ph, nN_lec, nN_cpy, nN_cof, nN_wak, nN_hrs]); omega), (by (try simp only [nN_ph, nN_lec, nN_cpy, nN_cof, nN_wak, nN_hrs]); omega)⟩, rfl⟩
      · skip
        have eb0 : wbU u = some j := (oI_eq (by omega) (fun i e => by have := wbU_lt e; omega)).mp h99.symm
        have eb : (wbU u == some j) = true := by simp [eb0]
        refine j_iconst (v := bI true) dX5_about_102 (by decide) ?_
        refine j_goto (tgt := 107) dX5_about_103 (by decide) ?_
        refine j_perm (fl [ob A (ik, hr, ld), pb x (A 1) g, nb x (A 2) u, sb x (A 3) v, nb x (A 4) uk, sb x (A 5) vk, nb x (A 6) z.1, lb x (A 7) a z.2.1, nb x (a 0) z.2.2.1, nb x (a 1) z.2.2.2.1, nb x (a 2) z.2.2.2.2.1, gb x (A 11) (A 13) r z.2.2.2.2.2.1, rowsB x r z.2.2.2.2.2.2.1, nb x (A 13) z.2.2.2.2.2.2.2]) (qm_b 14 [1, 2, 0, 3, 4, 5, 6, 7, 8, 9, 10, 11, 12, 13] (by decide +kernel) rfl rfl) ?_
        rw [show kAbout u v (nI j) e = bI true from by simp [kAbout, abU, hjc, h8, s15_0, s15_1, s15_2, s15_3, eb]]
        exact j_iret _ dX5_about_107 (List.Perm.refl _) ⟨rfl, (z.1, z.2.1, z.2.2.1, z.2.2.2.1, z.2.2.2.2.1, z.2.2.2.2.2.1, z.2.2.2.2.2.2.1, z.2.2.2.2.2.2.2), ⟨(by (try simp only [nN_ph, nN_lec, nN_cpy, nN_cof, nN_wak, nN_hrs]); omega), (by (try simp only [nN_ph, nN_lec, nN_cpy, nN_cof, nN_wak, nN_hrs]); omega), (by (try simp only [nN_ph, nN_lec, nN_cpy, nN_cof, nN_wak, nN_hrs]); omega), (by (try simp only [nN_ph, nN_lec, nN_cpy, nN_cof, nN_wak, nN_hrs]); omega), (by (try simp only [nN_ph, nN_lec, nN_cpy, nN_cof, nN_wak, nN_hrs]); omega)⟩, rfl⟩
    by_cases s15_4 : e = 4
    · refine j_tabC (4) 4 s15_4 (by decide) dX5_about_15 rfl (by decide : (15 : Int) + 93 = ((108 : Nat) : Int)) ?_
      refine j_aload_n 0 dX5_about_108 rfl rfl ?_
      refine j_get (v := .ref ((A 2) 0)) 5 dX5_about_109 fX5_19 rfl rfl ?_
      refine j_iload_n 1 dX5_about_112 rfl rfl ?_
      refine j_cVi (As := [.int (nI j)]) (rest := []) (wr := fl [ob A (ik, hr, ld), pb x (A 1) g, sb x (A 3) v, nb x (A 4) uk, sb x (A 5) vk, nb x (A 6) z.1, lb x (A 7) a z.2.1, nb x (a 0) z.2.2.1, nb x (a 1) z.2.2.2.1, nb x (a 2) z.2.2.2.2.1, gb x (A 11) (A 13) r z.2.2.2.2.2.1, rowsB x r z.2.2.2.2.2.2.1, nb x (A 13) z.2.2.2.2.2.2.2]) (ws' := fl [nb x (A 2) u, ob A (ik, hr, ld), pb x (A 1) g, sb x (A 3) v, nb x (A 4) uk, sb x (A 5) vk, nb x (A 6) z.1, lb x (A 7) a z.2.1, nb x (a 0) z.2.2.1, nb x (a 1) z.2.2.2.1, nb x (a 2) z.2.2.2.2.1, gb x (A 11) (A 13) r z.2.2.2.2.2.1, rowsB x r z.2.2.2.2.2.2.1, nb x (A 13) z.2.2.2.2.2.2.2]) (uX2_bedHoursOf l x (A 2) u (by (try simp only [nN_ph, nN_lec, nN_cpy, nN_cof, nN_wak, nN_hrs]); omega) j (by (try simp only [nN_ph, nN_lec, nN_cpy, nN_cof, nN_wak, nN_hrs]); omega)) kX2_bedHoursOf 0 rfl rfl rfl vX5_110 dX5_about_113 (by decide) rfl rfl (Nat.le_of_ble_eq_true rfl) (qm_1 14 0 [1, 2, 3, 4, 5, 6, 7, 8, 9, 10, 11, 12, 13] (by decide +kernel) rfl rfl rfl) rfl ?_
      refine j_perm (fl [ob A (ik, hr, ld), pb x (A 1) g, nb x (A 2) u, sb x (A 3) v, nb x (A 4) uk, sb x (A 5) vk, nb x (A 6) z.1, lb x (A 7) a z.2.1, nb x (a 0) z.2.2.1, nb x (a 1) z.2.2.2.1, nb x (a 2) z.2.2.2.2.1, gb x (A 11) (A 13) r z.2.2.2.2.2.1, rowsB x r z.2.2.2.2.2.2.1, nb x (A 13) z.2.2.2.2.2.2.2]) (qm_b 14 [1, 2, 0, 3, 4, 5, 6, 7, 8, 9, 10, 11, 12, 13] (by decide +kernel) rfl rfl) ?_
      rw [show kAbout u v (nI j) e = u.2.2.2.1 j from by simp [kAbout, abU, hjc, h8, s15_0, s15_1, s15_2, s15_3, s15_4]]
      exact j_iret _ dX5_about_116 (List.Perm.refl _) ⟨rfl, (z.1, z.2.1, z.2.2.1, z.2.2.2.1, z.2.2.2.2.1, z.2.2.2.2.2.1, z.2.2.2.2.2.2.1, z.2.2.2.2.2.2.2), ⟨(by (try simp only [nN_ph, nN_lec, nN_cpy, nN_cof, nN_wak, nN_hrs]); omega), (by (try simp only [nN_ph, nN_lec, nN_cpy, nN_cof, nN_wak, nN_hrs]); omega), (by (try simp only [nN_ph, nN_lec, nN_cpy, nN_cof, nN_wak, nN_hrs]); omega), (by (try simp only [nN_ph, nN_lec, nN_cpy, nN_cof, nN_wak, nN_hrs]); omega), (by (try simp only [nN_ph, nN_lec, nN_cpy, nN_cof, nN_wak, nN_hrs]); omega)⟩, rfl⟩
    by_cases s15_5 : e = 5
    · refine j_tabC (5) 5 s15_5 (by decide) dX5_about_15 rfl (by decide : (15 : Int) + 102 = ((117 : Nat) : Int)) ?_
      refine j_aload_n 0 dX5_about_117 rfl rfl ?_
      refine j_get (v := .ref ((A 11) 0)) 5 dX5_about_118 fX5_53 rfl rfl ?_
      refine j_aload_n 0 dX5_about_121 rfl rfl ?_
      refine j_get (v := .ref ((A 2) 0)) 5 dX5_about_122 fX5_19 rfl rfl ?_
      refine j_aload_n 0 dX5_about_125 rfl rfl ?_
      refine j_get (v := .ref ((A 3) 0)) 5 dX5_about_126 fX5_26 rfl rfl ?_
      refine j_iload_n 1 dX5_about_129 rfl rfl ?_
      refine j_callV (As := [.ref ((A 2) 0), .ref ((A 3) 0), .int (nI j)]) (rest := []) (wr := fl [ob A (ik, hr, ld), pb x (A 1) g, nb x (A 4) uk, sb x (A 5) vk, nb x (A 6) z.1, lb x (A 7) a z.2.1, nb x (a 0) z.2.2.1, nb x (a 1) z.2.2.2.1, nb x (a 2) z.2.2.2.2.1]) (tX0_make l x (A 11) (A 13) r (A 3) (A 2) u hu v hv j hj z.2.2.2.2.2.1.1 z.2.2.2.2.2.1.2 z.2.2.2.2.2.2.1 z.2.2.2.2.2.2.2 hw3) kX0_make vX5_113 0 rfl rfl rfl dX5_about_130 (by decide) (Nat.le_of_eq (Nat.zero_add _)) (Nat.le_of_eq (Nat.zero_add _)) rfl rfl (Nat.le_of_ble_eq_true rfl) (qm_c 14 [11, 12, 13, 0, 3] [1, 2, 4, 5, 6, 7, 8, 9, 10] (by decide +kernel) rfl rfl rfl) (fun v9 w9 hv9 => ?_)
      obtain ⟨rfl, B8, w8, hB8, hw8, rfl⟩ := hv9
      refine j_eq (lv' := [(0, .ref ((A 0) 0)), (1, .int (nI j)), (2, .int e)]) (st' := []) (ws' := fl [gb x (A 11) (A 13) r (nN u, bitsU u v j), rowsB x r B8, nb x (A 13) w8, nb x (A 2) u, sb x (A 3) v, ob A (ik, hr, ld), pb x (A 1) g, nb x (A 4) uk, sb x (A 5) vk, nb x (A 6) z.1, lb x (A 7) a z.2.1, nb x (a 0) z.2.2.1, nb x (a 1) z.2.2.2.1, nb x (a 2) z.2.2.2.2.1]) rfl rfl (fl_app _ _) ?_
      refine j_aload_n 0 dX5_about_133 rfl rfl ?_
      refine j_get (v := .ref ((A 11) 0)) 25 dX5_about_134 fX5_53 rfl rfl ?_
      refine j_cVi (As := []) (rest := []) (wr := fl [rowsB x r B8, nb x (A 13) w8, nb x (A 2) u, sb x (A 3) v, ob A (ik, hr, ld), pb x (A 1) g, nb x (A 4) uk, sb x (A 5) vk, nb x (A 6) z.1, lb x (A 7) a z.2.1, nb x (a 0) z.2.2.1, nb x (a 1) z.2.2.2.1, nb x (a 2) z.2.2.2.2.1]) (ws' := fl [gb x (A 11) (A 13) r (nN u, bitsU u v j), rowsB x r B8, nb x (A 13) w8, nb x (A 2) u, sb x (A 3) v, ob A (ik, hr, ld), pb x (A 1) g, nb x (A 4) uk, sb x (A 5) vk, nb x (A 6) z.1, lb x (A 7) a z.2.1, nb x (a 0) z.2.2.1, nb x (a 1) z.2.2.2.1, nb x (a 2) z.2.2.2.2.1]) (tX0_possible l x (A 11) (A 13) r (nN u) (bitsU u v j)) kX0_possible 0 rfl rfl rfl vX5_117 dX5_about_137 (by decide) rfl rfl (Nat.le_of_ble_eq_true rfl) (qm_1 14 0 [1, 2, 3, 4, 5, 6, 7, 8, 9, 10, 11, 12, 13] (by decide +kernel) rfl rfl rfl) rfl ?_
      refine j_perm (fl [ob A (ik, hr, ld), pb x (A 1) g, nb x (A 2) u, sb x (A 3) v, nb x (A 4) uk, sb x (A 5) vk, nb x (A 6) z.1, lb x (A 7) a z.2.1, nb x (a 0) z.2.2.1, nb x (a 1) z.2.2.2.1, nb x (a 2) z.2.2.2.2.1, gb x (A 11) (A 13) r (nN u, bitsU u v j), rowsB x r B8, nb x (A 13) w8]) (qm_b 14 [5, 6, 3, 4, 7, 8, 9, 10, 11, 12, 13, 0, 1, 2] (by decide +kernel) rfl rfl) ?_
      rw [show kAbout u v (nI j) e = bitsU u v j from by simp [kAbout, abU, hjc, h8, s15_0, s15_1, s15_2, s15_3, s15_4, s15_5]]
      exact j_iret _ dX5_about_140 (List.Perm.refl _) ⟨rfl, (z.1, z.2.1, z.2.2.1, z.2.2.2.1, z.2.2.2.2.1, (nN u, bitsU u v j), B8, w8), ⟨(by (try simp only [nN_ph, nN_lec, nN_cpy, nN_cof, nN_wak, nN_hrs]); omega), (by (try simp only [nN_ph, nN_lec, nN_cpy, nN_cof, nN_wak, nN_hrs]); omega), (by (try simp only [nN_ph, nN_lec, nN_cpy, nN_cof, nN_wak, nN_hrs]); omega), (by (try simp only [nN_ph, nN_lec, nN_cpy, nN_cof, nN_wak, nN_hrs]); omega), (by (try simp only [nN_ph, nN_lec, nN_cpy, nN_cof, nN_wak, nN_hrs]); omega)⟩, rfl⟩
    by_cases s15_6 : e = 6
    · refine j_tabC (6) 6 s15_6 (by decide) dX5_about_15 rfl (by decide : (15 : Int) + 126 = ((141 : Nat) : Int)) ?_
      refine j_aload_n 0 dX5_about_141 rfl rfl ?_
      refine j_get (v := .ref ((A 11) 0)) 5 dX5_about_142 fX5_53 rfl rfl ?_
      refine j_aload_n 0 dX5_about_145 rfl rfl ?_
      refine j_get (v := .ref ((A 2) 0)) 5 dX5_about_146 fX5_19 rfl rfl ?_
      refine j_aload_n 0 dX5_about_149 rfl rfl ?_
      refine j_get (v := .ref ((A 3) 0)) 5 dX5_about_150 fX5_26 rfl rfl ?_
      refine j_iload_n 1 dX5_about_153 rfl rfl ?_
      refine j_callV (As := [.ref ((A 2) 0), .ref ((A 3) 0), .int (nI j)]) (rest := []) (wr := fl [ob A (ik, hr, ld), pb x (A 1) g, nb x (A 4) uk, sb x (A 5) vk, nb x (A 6) z.1, lb x (A 7) a z.2.1, nb x (a 0) z.2.2.1, nb x (a 1) z.2.2.2.1, nb x (a 2) z.2.2.2.2.1]) (tX0_make l x (A 11) (A 13) r (A 3) (A 2) u hu v hv j hj z.2.2.2.2.2.1.1 z.2.2.2.2.2.1.2 z.2.2.2.2.2.2.1 z.2.2.2.2.2.2.2 hw3) kX0_make vX5_113 0 rfl rfl rfl dX5_about_154 (by decide) (Nat.le_of_eq (Nat.zero_add _)) (Nat.le_of_eq (Nat.zero_add _)) rfl rfl (Nat.le_of_ble_eq_true rfl) (qm_c 14 [11, 12, 13, 0, 3] [1, 2, 4, 5, 6, 7, 8, 9, 10] (by decide +kernel) rfl rfl rfl) (fun v9 w9 hv9 => ?_)
      obtain ⟨rfl, B8, w8, hB8, hw8, rfl⟩ := hv9
      refine j_eq (lv' := [(0, .ref ((A 0) 0)), (1, .int (nI j)), (2, .int e)]) (st' := []) (ws' := fl [gb x (A 11) (A 13) r (nN u, bitsU u v j), rowsB x r B8, nb x (A 13) w8, nb x (A 2) u, sb x (A 3) v, ob A (ik, hr, ld), pb x (A 1) g, nb x (A 4) uk, sb x (A 5) vk, nb x (A 6) z.1, lb x (A 7) a z.2.1, nb x (a 0) z.2.2.1, nb x (a 1) z.2.2.2.1, nb x (a 2) z.2.2.2.2.1]) rfl rfl (fl_app _ _) ?_
      refine j_aload_n 0 dX5_about_157 rfl rfl ?_
      refine j_get (v := .ref ((A 11) 0)) 25 dX5_about_158 fX5_53 rfl rfl ?_
      refine j_cVi (As := []) (rest := []) (wr := fl [nb x (A 13) w8, nb x (A 2) u, sb x (A 3) v, ob A (ik, hr, ld), pb x (A 1) g, nb x (A 4) uk, sb x (A 5) vk, nb x (A 6) z.1, lb x (A 7) a z.2.1, nb x (a 0) z.2.2.1, nb x (a 1) z.2.2.2.1, nb x (a 2) z.2.2.2.2.1]) (ws' := fl [gb x (A 11) (A 13) r (nN u, bitsU u v j), rowsB x r B8, nb x (A 13) w8, nb x (A 2) u, sb x (A 3) v, ob A (ik, hr, ld), pb x (A 1) g, nb x (A 4) uk, sb x (A 5) vk, nb x (A 6) z.1, lb x (A 7) a z.2.1, nb x (a 0) z.2.2.1, nb x (a 1) z.2.2.2.1, nb x (a 2) z.2.2.2.2.1]) (tX0_bestLook l x (A 11) (A 13) r (nN u) hu (bitsU u v j) B8) kX0_bestLook 0 rfl rfl rfl vX5_120 dX5_about_161 (by decide) rfl rfl (Nat.le_of_ble_eq_true rfl) (qm_c 14 [0, 1] [2, 3, 4, 5, 6, 7, 8, 9, 10, 11, 12, 13] (by decide +kernel) rfl rfl rfl) (fl_app _ _) ?_
      refine j_topi (b := lokB (bitsU u v j) (bed u j) (nN u)) (lokB_cong hB8) ?_
      refine j_perm (fl [ob A (ik, hr, ld), pb x (A 1) g, nb x (A 2) u, sb x (A 3) v, nb x (A 4) uk, sb x (A 5) vk, nb x (A 6) z.1, lb x (A 7) a z.2.1, nb x (a 0) z.2.2.1, nb x (a 1) z.2.2.2.1, nb x (a 2) z.2.2.2.2.1, gb x (A 11) (A 13) r (nN u, bitsU u v j), rowsB x r B8, nb x (A 13) w8]) (qm_b 14 [5, 6, 3, 4, 7, 8, 9, 10, 11, 12, 13, 0, 1, 2] (by decide +kernel) rfl rfl) ?_
      rw [show kAbout u v (nI j) e = lokB (bitsU u v j) (bed u j) (nN u) from by simp [kAbout, abU, hjc, h8, s15_0, s15_1, s15_2, s15_3, s15_4, s15_5, s15_6]]
      exact j_iret _ dX5_about_164 (List.Perm.refl _) ⟨rfl, (z.1, z.2.1, z.2.2.1, z.2.2.2.1, z.2.2.2.2.1, (nN u, bitsU u v j), B8, w8), ⟨(by (try simp only [nN_ph, nN_lec, nN_cpy, nN_cof, nN_wak, nN_hrs]); omega), (by (try simp only [nN_ph, nN_lec, nN_cpy, nN_cof, nN_wak, nN_hrs]); omega), (by (try simp only [nN_ph, nN_lec, nN_cpy, nN_cof, nN_wak, nN_hrs]); omega), (by (try simp only [nN_ph, nN_lec, nN_cpy, nN_cof, nN_wak, nN_hrs]); omega), (by (try simp only [nN_ph, nN_lec, nN_cpy, nN_cof, nN_wak, nN_hrs]); omega)⟩, rfl⟩
    refine j_tabD dX5_about_15 (fun j hj => match j, hj with | 0, _ => Or.inr (lv_neT s15_0 (by decide)) | 1, _ => Or.inr (lv_neT s15_1 (by decide)) | 2, _ => Or.inr (lv_neT s15_2 (by decide)) | 3, _ => Or.inr (lv_neT s15_3 (by decide)) | 4, _ => Or.inr (lv_neT s15_4 (by decide)) | 5, _ => Or.inr (lv_neT s15_5 (by decide)) | 6, _ => Or.inr (lv_neT s15_6 (by decide)) | j + 7, hj => absurd hj (by omega)) (by decide : (15 : Int) + 150 = ((165 : Nat) : Int)) ?_
    refine j_bipush (v := (-102)) dX5_about_165 (by decide) ?_
    refine j_perm (fl [ob A (ik, hr, ld), pb x (A 1) g, nb x (A 2) u, sb x (A 3) v, nb x (A 4) uk, sb x (A 5) vk, nb x (A 6) z.1, lb x (A 7) a z.2.1, nb x (a 0) z.2.2.1, nb x (a 1) z.2.2.2.1, nb x (a 2) z.2.2.2.2.1, gb x (A 11) (A 13) r z.2.2.2.2.2.1, rowsB x r z.2.2.2.2.2.2.1, nb x (A 13) z.2.2.2.2.2.2.2]) (qm_b 14 [1, 2, 0, 3, 4, 5, 6, 7, 8, 9, 10, 11, 12, 13] (by decide +kernel) rfl rfl) ?_
    rw [show kAbout u v (nI j) e = (-102) from by simp [kAbout, abU, hjc, h8, s15_0, s15_1, s15_2, s15_3, s15_4, s15_5, s15_6]]
    exact j_iret _ dX5_about_167 (List.Perm.refl _) ⟨rfl, (z.1, z.2.1, z.2.2.1, z.2.2.2.1, z.2.2.2.2.1, z.2.2.2.2.2.1, z.2.2.2.2.2.2.1, z.2.2.2.2.2.2.2), ⟨(by (try simp only [nN_ph, nN_lec, nN_cpy, nN_cof, nN_wak, nN_hrs]); omega), (by (try simp only [nN_ph, nN_lec, nN_cpy, nN_cof, nN_wak, nN_hrs]); omega), (by (try simp only [nN_ph, nN_lec, nN_cpy, nN_cof, nN_wak, nN_hrs]); omega), (by (try simp only [nN_ph, nN_lec, nN_cpy, nN_cof, nN_wak, nN_hrs]); omega), (by (try simp only [nN_ph, nN_lec, nN_cpy, nN_cof, nN_wak, nN_hrs]); omega)⟩, rfl⟩
  · skip
    refine j_bipush (v := (-101)) dX5_about_11 (by decide) ?_
    refine j_perm (fl [ob A (ik, hr, ld), pb x (A 1) g, nb x (A 2) u, sb x (A 3) v, nb x (A 4) uk, sb x (A 5) vk, nb x (A 6) z.1, lb x (A 7) a z.2.1, nb x (a 0) z.2.2.1, nb x (a 1) z.2.2.2.1, nb x (a 2) z.2.2.2.2.1, gb x (A 11) (A 13) r z.2.2.2.2.2.1, rowsB x r z.2.2.2.2.2.2.1, nb x (A 13) z.2.2.2.2.2.2.2]) (qm_b 14 [1, 2, 0, 3, 4, 5, 6, 7, 8, 9, 10, 11, 12, 13] (by decide +kernel) rfl rfl) ?_
    rw [show kAbout u v l9 e = (-101) from by simp [kAbout, abU, h8]]
    exact j_iret _ dX5_about_13 (List.Perm.refl _) ⟨rfl, (z.1, z.2.1, z.2.2.1, z.2.2.2.1, z.2.2.2.2.1, z.2.2.2.2.2.1, z.2.2.2.2.2.2.1, z.2.2.2.2.2.2.2), ⟨(by (try simp only [nN_ph, nN_lec, nN_cpy, nN_cof, nN_wak, nN_hrs]); omega), (by (try simp only [nN_ph, nN_lec, nN_cpy, nN_cof, nN_wak, nN_hrs]); omega), (by (try simp only [nN_ph, nN_lec, nN_cpy, nN_cof, nN_wak, nN_hrs]); omega), (by (try simp only [nN_ph, nN_lec, nN_cpy, nN_cof, nN_wak, nN_hrs]); omega), (by (try simp only [nN_ph, nN_lec, nN_cpy, nN_cof, nN_wak, nN_hrs]); omega)⟩, rfl⟩
set_option maxHeartbeats 4000000 in
set_option maxRecDepth 100000 in
theorem tX5_cups (l : Launch) (x : Cx) (A a : Nat → Nat → Nat) (r : Nat → Nat) (ik : Bool) (hr ld : Nat) (g : PG) (u : NS) (v : SS) (uk : NS) (vk : SS) (hld : ld ≤ 40) (hg : g.2 ≤ 18) (hu : nN u ≤ 5) (hv : v.2.2 ≤ 6) (huk : nN uk ≤ 5) (hvk : vk.2.2 ≤ 6) (l9 : Int32) (e : Int32) (z : ZS) (hz : zok z) : MC l x 10 0 0 yX5_cups cX5_cups 3 (some .int) [.ref ((A 0) 0), .int l9, .int e] (cw x A a r ((ik, hr, ld), g, u, v, uk, vk) z) (pS5 x A a r (kCups u l9 e) (((ik, hr, ld), g, u, v, uk, vk))) := by
  have hw : nN z.1 ≤ 5 := hz.1
  have hw0 : nN z.2.2.1 ≤ 5 := hz.2.1
  have hw1 : nN z.2.2.2.1 ≤ 5 := hz.2.2.1
  have hw2 : nN z.2.2.2.2.1 ≤ 5 := hz.2.2.2.1
  have hw3 : nN z.2.2.2.2.2.2.2 ≤ 5 := hz.2.2.2.2
  refine MC.of (by decide) (Nat.le_of_ble_eq_true rfl) eXI_fit (fun M => ?_)
  show J M l x cX5_cups 3 yX5_cups 10 (pS5 x A a r (kCups u l9 e) (((ik, hr, ld), g, u, v, uk, vk))) 0 0 0 [(0, .ref ((A 0) 0)), (1, .int l9), (2, .int e)] [] (fl [ob A (ik, hr, ld), pb x (A 1) g, nb x (A 2) u, sb x (A 3) v, nb x (A 4) uk, sb x (A 5) vk, nb x (A 6) z.1, lb x (A 7) a z.2.1, nb x (a 0) z.2.2.1, nb x (a 1) z.2.2.2.1, nb x (a 2) z.2.2.2.2.1, gb x (A 11) (A 13) r z.2.2.2.2.2.1, rowsB x r z.2.2.2.2.2.2.1, nb x (A 13) z.2.2.2.2.2.2.2])
  refine j_aload_n 0 dX5_cups_0 rfl rfl ?_
  refine j_get (v := .ref ((A 2) 0)) 0 dX5_cups_1 fX5_19 rfl rfl ?_
  refine j_iload_n 1 dX5_cups_4 rfl rfl ?_
  refine j_cVi (As := [.int l9]) (rest := []) (wr := fl [ob A (ik, hr, ld), pb x (A 1) g, sb x (A 3) v, nb x (A 4) uk, sb x (A 5) vk, nb x (A 6) z.1, lb x (A 7) a z.2.1, nb x (a 0) z.2.2.1, nb x (a 1) z.2.2.2.1, nb x (a 2) z.2.2.2.2.1, gb x (A 11) (A 13) r z.2.2.2.2.2.1, rowsB x r z.2.2.2.2.2.2.1, nb x (A 13) z.2.2.2.2.2.2.2]) (ws' := fl [nb x (A 2) u, ob A (ik, hr, ld), pb x (A 1) g, sb x (A 3) v, nb x (A 4) uk, sb x (A 5) vk, nb x (A 6) z.1, lb x (A 7) a z.2.1, nb x (a 0) z.2.2.1, nb x (a 1) z.2.2.2.1, nb x (a 2) z.2.2.2.2.1, gb x (A 11) (A 13) r z.2.2.2.2.2.1, rowsB x r z.2.2.2.2.2.2.1, nb x (A 13) z.2.2.2.2.2.2.2]) (uX2_knows l x (A 2) u l9) kX2_knows 0 rfl rfl rfl vX5_94 dX5_cups_5 (by decide) rfl rfl (Nat.le_of_ble_eq_true rfl) (qm_1 14 2 [0, 1, 3, 4, 5, 6, 7, 8, 9, 10, 11, 12, 13] (by decide +kernel) rfl rfl rfl) rfl ?_
  refine j_ifb_ne (b := kn (nN u) l9) (tgt := 14) dX5_cups_8 (by decide) (fun h8 => ?_) (fun h8 => ?_)
  · skip
    obtain ⟨j, hj, rfl, hjc⟩ := kn_j h8 (by omega)
    refine j_iload_n 2 dX5_cups_14 rfl rfl ?_
    refine j_iconst (v := 1) dX5_cups_15 (by decide) ?_
    refine j_bipush (v := 6) dX5_cups_16 (by decide) ?_
    refine j_cSi (As := [.int e, .int 1, .int 6]) (rest := []) (wr := fl [nb x (A 2) u, ob A (ik, hr, ld), pb x (A 1) g, sb x (A 3) v, nb x (A 4) uk, sb x (A 5) vk, nb x (A 6) z.1, lb x (A 7) a z.2.1, nb x (a 0) z.2.2.1, nb x (a 1) z.2.2.2.1, nb x (a 2) z.2.2.2.2.1, gb x (A 11) (A 13) r z.2.2.2.2.2.1, rowsB x r z.2.2.2.2.2.2.1, nb x (A 13) z.2.2.2.2.2.2.2]) (ws' := fl [nb x (A 2) u, ob A (ik, hr, ld), pb x (A 1) g, sb x (A 3) v, nb x (A 4) uk, sb x (A 5) vk, nb x (A 6) z.1, lb x (A 7) a z.2.1, nb x (a 0) z.2.2.1, nb x (a 1) z.2.2.2.1, nb x (a 2) z.2.2.2.2.1, gb x (A 11) (A 13) r z.2.2.2.2.2.1, rowsB x r z.2.2.2.2.2.2.1, nb x (A 13) z.2.2.2.2.2.2.2]) (tX5_isWithin l x e 1 6) kX5_isWithin sX5_64 dX5_cups_18 (by decide) rfl rfl (Nat.le_of_ble_eq_true rfl) (List.Perm.refl _) rfl ?_
    refine j_ifb_ne (b := isW e 1 6) (tgt := 27) dX5_cups_21 (by decide) (fun h21 => ?_) (fun h21 => ?_)
    · skip
      obtain ⟨hh, hlo, hhi, rfl⟩ := isW_nat (lo := 1) (hi := 6) (by decide) (by decide) h21
      have hhc : (nI hh).toNatClampNeg = hh := nI_clamp (by omega)
      refine j_aload_n 0 dX5_cups_27 rfl rfl ?_
      refine j_get (v := .ref ((A 2) 0)) 5 dX5_cups_28 fX5_19 rfl rfl ?_
      refine j_iload_n 1 dX5_cups_31 rfl rfl ?_
      refine j_cVi (As := [.int (nI j)]) (rest := []) (wr := fl [ob A (ik, hr, ld), pb x (A 1) g, sb x (A 3) v, nb x (A 4) uk, sb x (A 5) vk, nb x (A 6) z.1, lb x (A 7) a z.2.1, nb x (a 0) z.2.2.1, nb x (a 1) z.2.2.2.1, nb x (a 2) z.2.2.2.2.1, gb x (A 11) (A 13) r z.2.2.2.2.2.1, rowsB x r z.2.2.2.2.2.2.1, nb x (A 13) z.2.2.2.2.2.2.2]) (ws' := fl [nb x (A 2) u, ob A (ik, hr, ld), pb x (A 1) g, sb x (A 3) v, nb x (A 4) uk, sb x (A 5) vk, nb x (A 6) z.1, lb x (A 7) a z.2.1, nb x (a 0) z.2.2.1, nb x (a 1) z.2.2.2.1, nb x (a 2) z.2.2.2.2.1, gb x (A 11) (A 13) r z.2.2.2.2.2.1, rowsB x r z.2.2.2.2.2.2.1, nb x (A 13) z.2.2.2.2.2.2.2]) (uX2_sleeps l x (A 2) u (by (try simp only [nN_ph, nN_lec, nN_cpy, nN_cof, nN_wak, nN_hrs]); omega) j (by (try simp only [nN_ph, nN_lec, nN_cpy, nN_cof, nN_wak, nN_hrs]); omega)) kX2_sleeps 0 rfl rfl rfl vX5_104 dX5_cups_32 (by decide) rfl rfl (Nat.le_of_ble_eq_true rfl) (qm_1 14 0 [1, 2, 3, 4, 5, 6, 7, 8, 9, 10, 11, 12, 13] (by decide +kernel) rfl rfl rfl) rfl ?_
      refine j_ifb_eq (b := u.2.2.1 j) (tgt := 41) dX5_cups_35 (by decide) (fun h35 => ?_) (fun h35 => ?_)
      · skip
        refine j_aload_n 0 dX5_cups_41 rfl rfl ?_
        refine j_iload_n 1 dX5_cups_42 rfl rfl ?_
        refine j_iload_n 2 dX5_cups_43 rfl rfl ?_
        refine j_callV (As := [.int (nI j), .int (nI hh)]) (rest := []) (wr := fl [pb x (A 1) g, sb x (A 3) v, nb x (A 4) uk, sb x (A 5) vk, lb x (A 7) a z.2.1, nb x (a 0) z.2.2.1, nb x (a 1) z.2.2.2.1, nb x (a 2) z.2.2.2.2.1, gb x (A 11) (A 13) r z.2.2.2.2.2.1, rowsB x r z.2.2.2.2.2.2.1, nb x (A 13) z.2.2.2.2.2.2.2]) (tX5_fewestCups l x A ik hr ld u hu j (by omega) hh (by omega) (by omega) z.1 (by (try simp only [nN_ph, nN_lec, nN_cpy, nN_cof, nN_wak, nN_hrs]); omega)) kX5_fewestCups vX5_143 0 rfl rfl rfl dX5_cups_44 (by decide) (Nat.le_of_eq (Nat.zero_add _)) (Nat.le_of_eq (Nat.zero_add _)) rfl rfl (Nat.le_of_ble_eq_true rfl) (qm_c 14 [1, 0, 6] [2, 3, 4, 5, 7, 8, 9, 10, 11, 12, 13] (by decide +kernel) rfl rfl rfl) (fun v9 w9 hv9 => ?_)
        obtain ⟨rfl, w8, hw8, rfl⟩ := hv9
        refine j_eq (lv' := [(0, .ref ((A 0) 0)), (1, .int (nI j)), (2, .int (nI hh))]) (st' := [.int (oI (fcU u j hh))]) (ws' := fl [ob A (ik, hr, ld), nb x (A 2) u, nb x (A 6) w8, pb x (A 1) g, sb x (A 3) v, nb x (A 4) uk, sb x (A 5) vk, lb x (A 7) a z.2.1, nb x (a 0) z.2.2.1, nb x (a 1) z.2.2.2.1, nb x (a 2) z.2.2.2.2.1, gb x (A 11) (A 13) r z.2.2.2.2.2.1, rowsB x r z.2.2.2.2.2.2.1, nb x (A 13) z.2.2.2.2.2.2.2]) rfl rfl (fl_app _ _) ?_
        refine j_perm (fl [ob A (ik, hr, ld), pb x (A 1) g, nb x (A 2) u, sb x (A 3) v, nb x (A 4) uk, sb x (A 5) vk, nb x (A 6) w8, lb x (A 7) a z.2.1, nb x (a 0) z.2.2.1, nb x (a 1) z.2.2.2.1, nb x (a 2) z.2.2.2.2.1, gb x (A 11) (A 13) r z.2.2.2.2.2.1, rowsB x r z.2.2.2.2.2.2.1, nb x (A 13) z.2.2.2.2.2.2.2]) (qm_b 14 [0, 3, 1, 4, 5, 6, 2, 7, 8, 9, 10, 11, 12, 13] (by decide +kernel) rfl rfl) ?_
        rw [show kCups u (nI j) (nI hh) = oI (fcU u j hh) from by simp [kCups, hjc, h8, h21, hhc, h35]]
        exact j_iret _ dX5_cups_47 (List.Perm.refl _) ⟨rfl, (w8, z.2.1, z.2.2.1, z.2.2.2.1, z.2.2.2.2.1, z.2.2.2.2.2.1, z.2.2.2.2.2.2.1, z.2.2.2.2.2.2.2), ⟨(by (try simp only [nN_ph, nN_lec, nN_cpy, nN_cof, nN_wak, nN_hrs]); omega), (by (try simp only [nN_ph, nN_lec, nN_cpy, nN_cof, nN_wak, nN_hrs]); omega), (by (try simp only [nN_ph, nN_lec, nN_cpy, nN_cof, nN_wak, nN_hrs]); omega), (by (try simp only [nN_ph, nN_lec, nN_cpy, nN_cof, nN_wak, nN_hrs]); omega), (by (try simp only [nN_ph, nN_lec, nN_cpy, nN_cof, nN_wak, nN_hrs]); omega)⟩, rfl⟩
      · skip
        refine j_bipush (v := (-103)) dX5_cups_38 (by decide) ?_
        refine j_perm (fl [ob A (ik, hr, ld), pb x (A 1) g, nb x (A 2) u, sb x (A 3) v, nb x (A 4) uk, sb x (A 5) vk, nb x (A 6) z.1, lb x (A 7) a z.2.1, nb x (a 0) z.2.2.1, nb x (a 1) z.2.2.2.1, nb x (a 2) z.2.2.2.2.1, gb x (A 11) (A 13) r z.2.2.2.2.2.1, rowsB x r z.2.2.2.2.2.2.1, nb x (A 13) z.2.2.2.2.2.2.2]) (qm_b 14 [1, 2, 0, 3, 4, 5, 6, 7, 8, 9, 10, 11, 12, 13] (by decide +kernel) rfl rfl) ?_
        rw [show kCups u (nI j) (nI hh) = (-103) from by simp [kCups, hjc, h8, h21, hhc, h35]]
        exact j_iret _ dX5_cups_40 (List.Perm.refl _) ⟨rfl, (z.1, z.2.1, z.2.2.1, z.2.2.2.1, z.2.2.2.2.1, z.2.2.2.2.2.1, z.2.2.2.2.2.2.1, z.2.2.2.2.2.2.2), ⟨(by (try simp only [nN_ph, nN_lec, nN_cpy, nN_cof, nN_wak, nN_hrs]); omega), (by (try simp only [nN_ph, nN_lec, nN_cpy, nN_cof, nN_wak, nN_hrs]); omega), (by (try simp only [nN_ph, nN_lec, nN_cpy, nN_cof, nN_wak, nN_hrs]); omega), (by (try simp only [nN_ph, nN_lec, nN_cpy, nN_cof, nN_wak, nN_hrs]); omega), (by (try simp only [nN_ph, nN_lec, nN_cpy, nN_cof, nN_wak, nN_hrs]); omega)⟩, rfl⟩
    · skip
      refine j_bipush (v := (-102)) dX5_cups_24 (by decide) ?_
      refine j_perm (fl [ob A (ik, hr, ld), pb x (A 1) g, nb x (A 2) u, sb x (A 3) v, nb x (A 4) uk, sb x (A 5) vk, nb x (A 6) z.1, lb x (A 7) a z.2.1, nb x (a 0) z.2.2.1, nb x (a 1) z.2.2.2.1, nb x (a 2) z.2.2.2.2.1, gb x (A 11) (A 13) r z.2.2.2.2.2.1, rowsB x r z.2.2.2.2.2.2.1, nb x (A 13) z.2.2.2.2.2.2.2]) (qm_b 14 [1, 2, 0, 3, 4, 5, 6, 7, 8, 9, 10, 11, 12, 13] (by decide +kernel) rfl rfl) ?_
      rw [show kCups u (nI j) e = (-102) from by simp [kCups, hjc, h8, h21]]
      exact j_iret _ dX5_cups_26 (List.Perm.refl _) ⟨rfl, (z.1, z.2.1, z.2.2.1, z.2.2.2.1, z.2.2.2.2.1, z.2.2.2.2.2.1, z.2.2.2.2.2.2.1, z.2.2.2.2.2.2.2), ⟨(by (try simp only [nN_ph, nN_lec, nN_cpy, nN_cof, nN_wak, nN_hrs]); omega), (by (try simp only [nN_ph, nN_lec, nN_cpy, nN_cof, nN_wak, nN_hrs]); omega), (by (try simp only [nN_ph, nN_lec, nN_cpy, nN_cof, nN_wak, nN_hrs]); omega), (by (try simp only [nN_ph, nN_lec, nN_cpy, nN_cof, nN_wak, nN_hrs]); omega), (by (try simp only [nN_ph, nN_lec, nN_cpy, nN_cof, nN_wak, nN_hrs]); omega)⟩, rfl⟩
  · skip
    refine j_bipush (v := (-101)) dX5_cups_11 (by decide) ?_
    refine j_perm (fl [ob A (ik, hr, ld), pb x (A 1) g, nb x (A 2) u, sb x (A 3) v, nb x (A 4) uk, sb x (A 5) vk, nb x (A 6) z.1, lb x (A 7) a z.2.1, nb x (a 0) z.2.2.1, nb x (a 1) z.2.2.2.1, nb x (a 2) z.2.2.2.2.1, gb x (A 11) (A 13) r z.2.2.2.2.2.1, rowsB x r z.2.2.2.2.2.2.1, nb x (A 13) z.2.2.2.2.2.2.2]) (qm_b 14 [1, 2, 0, 3, 4, 5, 6, 7, 8, 9, 10, 11, 12, 13] (by decide +kernel) rfl rfl) ?_
    rw [show kCups u l9 e = (-101) from by simp [kCups, h8]]
    exact j_iret _ dX5_cups_13 (List.Perm.refl _) ⟨rfl, (z.1, z.2.1, z.2.2.1, z.2.2.2.1, z.2.2.2.2.1, z.2.2.2.2.2.1, z.2.2.2.2.2.2.1, z.2.2.2.2.2.2.2), ⟨(by (try simp only [nN_ph, nN_lec, nN_cpy, nN_cof, nN_wak, nN_hrs]); omega), (by (try simp only [nN_ph, nN_lec, nN_cpy, nN_cof, nN_wak, nN_hrs]); omega), (by (try simp only [nN_ph, nN_lec, nN_cpy, nN_cof, nN_wak, nN_hrs]); omega), (by (try simp only [nN_ph, nN_lec, nN_cpy, nN_cof, nN_wak, nN_hrs]); omega), (by (try simp only [nN_ph, nN_lec, nN_cpy, nN_cof, nN_wak, nN_hrs]); omega)⟩, rfl⟩
set_option maxHeartbeats 4000000 in
set_option maxRecDepth 100000 in
theorem tX5_lectures (l : Launch) (x : Cx) (A a : Nat → Nat → Nat) (r : Nat → Nat) (ik : Bool) (hr ld : Nat) (g : PG) (u : NS) (v : SS) (uk : NS) (vk : SS) (hld : ld ≤ 40) (hg : g.2 ≤ 18) (hu : nN u ≤ 5) (hv : v.2.2 ≤ 6) (huk : nN uk ≤ 5) (hvk : vk.2.2 ≤ 6) (l9 : Int32) (e f : Int32) (z : ZS) (hz : zok z) : MC l x 10 0 0 yX5_lectures cX5_lectures 4 (some .int) [.ref ((A 0) 0), .int l9, .int e, .int f] (cw x A a r ((ik, hr, ld), g, u, v, uk, vk) z) (pS5 x A a r ((kLectures (ik, hr, ld) g u v uk vk l9 e f).1) ((kLectures (ik, hr, ld) g u v uk vk l9 e f).2)) := by
  have hw : nN z.1 ≤ 5 := hz.1
  have hw0 : nN z.2.2.1 ≤ 5 := hz.2.1
  have hw1 : nN z.2.2.2.1 ≤ 5 := hz.2.2.1
  have hw2 : nN z.2.2.2.2.1 ≤ 5 := hz.2.2.2.1
  have hw3 : nN z.2.2.2.2.2.2.2 ≤ 5 := hz.2.2.2.2
  refine MC.of (by decide) (Nat.le_of_ble_eq_true rfl) eXI_fit (fun M => ?_)
  show J M l x cX5_lectures 4 yX5_lectures 10 (pS5 x A a r ((kLectures (ik, hr, ld) g u v uk vk l9 e f).1) ((kLectures (ik, hr, ld) g u v uk vk l9 e f).2)) 0 0 0 [(0, .ref ((A 0) 0)), (1, .int l9), (2, .int e), (3, .int f)] [] (fl [ob A (ik, hr, ld), pb x (A 1) g, nb x (A 2) u, sb x (A 3) v, nb x (A 4) uk, sb x (A 5) vk, nb x (A 6) z.1, lb x (A 7) a z.2.1, nb x (a 0) z.2.2.1, nb x (a 1) z.2.2.2.1, nb x (a 2) z.2.2.2.2.1, gb x (A 11) (A 13) r z.2.2.2.2.2.1, rowsB x r z.2.2.2.2.2.2.1, nb x (A 13) z.2.2.2.2.2.2.2])
  refine j_aload_n 0 dX5_lectures_0 rfl rfl ?_
  refine j_get (v := .ref ((A 2) 0)) 0 dX5_lectures_1 fX5_19 rfl rfl ?_
  refine j_iload_n 1 dX5_lectures_4 rfl rfl ?_
  refine j_cVi (As := [.int l9]) (rest := []) (wr := fl [ob A (ik, hr, ld), pb x (A 1) g, sb x (A 3) v, nb x (A 4) uk, sb x (A 5) vk, nb x (A 6) z.1, lb x (A 7) a z.2.1, nb x (a 0) z.2.2.1, nb x (a 1) z.2.2.2.1, nb x (a 2) z.2.2.2.2.1, gb x (A 11) (A 13) r z.2.2.2.2.2.1, rowsB x r z.2.2.2.2.2.2.1, nb x (A 13) z.2.2.2.2.2.2.2]) (ws' := fl [nb x (A 2) u, ob A (ik, hr, ld), pb x (A 1) g, sb x (A 3) v, nb x (A 4) uk, sb x (A 5) vk, nb x (A 6) z.1, lb x (A 7) a z.2.1, nb x (a 0) z.2.2.1, nb x (a 1) z.2.2.2.1, nb x (a 2) z.2.2.2.2.1, gb x (A 11) (A 13) r z.2.2.2.2.2.1, rowsB x r z.2.2.2.2.2.2.1, nb x (A 13) z.2.2.2.2.2.2.2]) (uX2_knows l x (A 2) u l9) kX2_knows 0 rfl rfl rfl vX5_94 dX5_lectures_5 (by decide) rfl rfl (Nat.le_of_ble_eq_true rfl) (qm_1 14 2 [0, 1, 3, 4, 5, 6, 7, 8, 9, 10, 11, 12, 13] (by decide +kernel) rfl rfl rfl) rfl ?_
  refine j_ifb_ne (b := kn (nN u) l9) (tgt := 14) dX5_lectures_8 (by decide) (fun h8 => ?_) (fun h8 => ?_)
  · skip
    obtain ⟨j, hj, rfl, hjc⟩ := kn_j h8 (by omega)
    refine j_iload_n 2 dX5_lectures_14 rfl rfl ?_
    refine j_iconst (v := 1) dX5_lectures_15 (by decide) ?_
    refine j_iconst (v := 3) dX5_lectures_16 (by decide) ?_
    refine j_cSi (As := [.int e, .int 1, .int 3]) (rest := []) (wr := fl [nb x (A 2) u, ob A (ik, hr, ld), pb x (A 1) g, sb x (A 3) v, nb x (A 4) uk, sb x (A 5) vk, nb x (A 6) z.1, lb x (A 7) a z.2.1, nb x (a 0) z.2.2.1, nb x (a 1) z.2.2.2.1, nb x (a 2) z.2.2.2.2.1, gb x (A 11) (A 13) r z.2.2.2.2.2.1, rowsB x r z.2.2.2.2.2.2.1, nb x (A 13) z.2.2.2.2.2.2.2]) (ws' := fl [nb x (A 2) u, ob A (ik, hr, ld), pb x (A 1) g, sb x (A 3) v, nb x (A 4) uk, sb x (A 5) vk, nb x (A 6) z.1, lb x (A 7) a z.2.1, nb x (a 0) z.2.2.1, nb x (a 1) z.2.2.2.1, nb x (a 2) z.2.2.2.2.1, gb x (A 11) (A 13) r z.2.2.2.2.2.1, rowsB x r z.2.2.2.2.2.2.1, nb x (A 13) z.2.2.2.2.2.2.2]) (tX5_isWithin l x e 1 3) kX5_isWithin sX5_64 dX5_lectures_17 (by decide) rfl rfl (Nat.le_of_ble_eq_true rfl) (List.Perm.refl _) rfl ?_
    refine j_ifb_eq (b := isW e 1 3) (tgt := 32) dX5_lectures_20 (by decide) (fun h20 => ?_) (fun h20 => ?_)
    · skip
      refine j_bipush (v := (-102)) dX5_lectures_32 (by decide) ?_
      refine j_perm (fl [ob A (ik, hr, ld), pb x (A 1) g, nb x (A 2) u, sb x (A 3) v, nb x (A 4) uk, sb x (A 5) vk, nb x (A 6) z.1, lb x (A 7) a z.2.1, nb x (a 0) z.2.2.1, nb x (a 1) z.2.2.2.1, nb x (a 2) z.2.2.2.2.1, gb x (A 11) (A 13) r z.2.2.2.2.2.1, rowsB x r z.2.2.2.2.2.2.1, nb x (A 13) z.2.2.2.2.2.2.2]) (qm_b 14 [1, 2, 0, 3, 4, 5, 6, 7, 8, 9, 10, 11, 12, 13] (by decide +kernel) rfl rfl) ?_
      rw [show kLectures (ik, hr, ld) g u v uk vk (nI j) e f = ((-102), ((ik, hr, ld), g, u, v, uk, vk)) from by simp [kLectures, isW_001, hjc, h8, h20]]
      exact j_iret _ dX5_lectures_34 (List.Perm.refl _) ⟨rfl, (z.1, z.2.1, z.2.2.1, z.2.2.2.1, z.2.2.2.2.1, z.2.2.2.2.2.1, z.2.2.2.2.2.2.1, z.2.2.2.2.2.2.2), ⟨(by (try simp only [nN_ph, nN_lec, nN_cpy, nN_cof, nN_wak, nN_hrs]); omega), (by (try simp only [nN_ph, nN_lec, nN_cpy, nN_cof, nN_wak, nN_hrs]); omega), (by (try simp only [nN_ph, nN_lec, nN_cpy, nN_cof, nN_wak, nN_hrs]); omega), (by (try simp only [nN_ph, nN_lec, nN_cpy, nN_cof, nN_wak, nN_hrs]); omega), (by (try simp only [nN_ph, nN_lec, nN_cpy, nN_cof, nN_wak, nN_hrs]); omega)⟩, rfl⟩
    · skip
      obtain ⟨hh, hlo, hhi, rfl⟩ := isW_nat (lo := 1) (hi := 3) (by decide) (by decide) h20
      have hhc : (nI hh).toNatClampNeg = hh := nI_clamp (by omega)
      refine j_iload_n 3 dX5_lectures_23 rfl rfl ?_
      refine j_iconst (v := 0) dX5_lectures_24 (by decide) ?_
      refine j_iconst (v := 1) dX5_lectures_25 (by decide) ?_
      refine j_cSi (As := [.int f, .int 0, .int 1]) (rest := []) (wr := fl [nb x (A 2) u, ob A (ik, hr, ld), pb x (A 1) g, sb x (A 3) v, nb x (A 4) uk, sb x (A 5) vk, nb x (A 6) z.1, lb x (A 7) a z.2.1, nb x (a 0) z.2.2.1, nb x (a 1) z.2.2.2.1, nb x (a 2) z.2.2.2.2.1, gb x (A 11) (A 13) r z.2.2.2.2.2.1, rowsB x r z.2.2.2.2.2.2.1, nb x (A 13) z.2.2.2.2.2.2.2]) (ws' := fl [nb x (A 2) u, ob A (ik, hr, ld), pb x (A 1) g, sb x (A 3) v, nb x (A 4) uk, sb x (A 5) vk, nb x (A 6) z.1, lb x (A 7) a z.2.1, nb x (a 0) z.2.2.1, nb x (a 1) z.2.2.2.1, nb x (a 2) z.2.2.2.2.1, gb x (A 11) (A 13) r z.2.2.2.2.2.1, rowsB x r z.2.2.2.2.2.2.1, nb x (A 13) z.2.2.2.2.2.2.2]) (tX5_isWithin l x f 0 1) kX5_isWithin sX5_64 dX5_lectures_26 (by decide) rfl rfl (Nat.le_of_ble_eq_true rfl) (List.Perm.refl _) rfl ?_
      refine j_ifb_ne (b := isW f 0 1) (tgt := 35) dX5_lectures_29 (by decide) (fun h29 => ?_) (fun h29 => ?_)
      · skip
        refine j_aload_n 0 dX5_lectures_35 rfl rfl ?_
        refine j_get (v := .int (nI ld)) 5 dX5_lectures_36 fX5_61 rfl rfl ?_
        refine j_bipush (v := 40) dX5_lectures_39 (by decide) ?_
        refine j_icmpN_lt (a := ld) (b := 40) (by omega) (by omega) (tgt := 47) dX5_lectures_41 (by decide) (fun h41 => ?_) (fun h41 => ?_)
        · skip
          refine j_aload_n 0 dX5_lectures_47 rfl rfl ?_
          refine j_dup dX5_lectures_48 rfl ?_
          refine j_get (v := .int (nI ld)) 5 dX5_lectures_49 fX5_61 rfl rfl ?_
          refine j_iconst (v := 1) dX5_lectures_52 (by decide) ?_
          refine j_iadd dX5_lectures_53 ?_
          refine j_topi (b := nI (ld + 1)) (nI_1 ld) ?_
          refine j_put (v := .int (nI (ld + 1))) (ws' := fl [nb x (A 2) u, ob A (ik, hr, ld + 1), pb x (A 1) g, sb x (A 3) v, nb x (A 4) uk, sb x (A 5) vk, nb x (A 6) z.1, lb x (A 7) a z.2.1, nb x (a 0) z.2.2.1, nb x (a 1) z.2.2.2.1, nb x (a 2) z.2.2.2.2.1, gb x (A 11) (A 13) r z.2.2.2.2.2.1, rowsB x r z.2.2.2.2.2.2.1, nb x (A 13) z.2.2.2.2.2.2.2]) 5 dX5_lectures_54 fX5_61 rfl rfl rfl (Nat.le_of_ble_eq_true rfl) rfl ?_
          refine j_aload_n 0 dX5_lectures_57 rfl rfl ?_
          refine j_get (v := .ref ((A 7) 0)) 5 dX5_lectures_58 fX5_46 rfl rfl ?_
          refine j_aload_n 0 dX5_lectures_61 rfl rfl ?_
          refine j_get (v := .ref ((A 2) 0)) 5 dX5_lectures_62 fX5_19 rfl rfl ?_
          refine j_iload_n 1 dX5_lectures_65 rfl rfl ?_
          refine j_iload_n 2 dX5_lectures_66 rfl rfl ?_
          refine j_callV (As := [.ref ((A 2) 0), .int (nI j), .int (nI hh)]) (rest := []) (wr := fl [ob A (ik, hr, ld + 1), pb x (A 1) g, sb x (A 3) v, nb x (A 4) uk, sb x (A 5) vk, nb x (A 6) z.1, gb x (A 11) (A 13) r z.2.2.2.2.2.1, rowsB x r z.2.2.2.2.2.2.1, nb x (A 13) z.2.2.2.2.2.2.2]) (tX1_make l x (A 7) a (A 2) u hu j hj hh (by omega) z.2.1.1 z.2.1.2 z.2.2.1 z.2.2.2.1 z.2.2.2.2.1 hw0 hw1 hw2) kX1_make vX5_147 0 rfl rfl rfl dX5_lectures_67 (by decide) (Nat.le_of_eq (Nat.zero_add _)) (Nat.le_of_eq (Nat.zero_add _)) rfl rfl (Nat.le_of_ble_eq_true rfl) (qm_c 14 [7, 0, 8, 9, 10] [1, 2, 3, 4, 5, 6, 11, 12, 13] (by decide +kernel) rfl rfl rfl) (fun v9 w9 hv9 => ?_)
          obtain ⟨rfl, y0, hy0, y1, hy1, y2, hy2, rfl⟩ := hv9
          refine j_eq (lv' := [(0, .ref ((A 0) 0)), (1, .int (nI j)), (2, .int (nI hh)), (3, .int f)]) (st' := []) (ws' := fl [lb x (A 7) a ((mst hh u j).1, (mst hh u j).2), nb x (A 2) u, nb x (a 0) y0, nb x (a 1) y1, nb x (a 2) y2, ob A (ik, hr, ld + 1), pb x (A 1) g, sb x (A 3) v, nb x (A 4) uk, sb x (A 5) vk, nb x (A 6) z.1, gb x (A 11) (A 13) r z.2.2.2.2.2.1, rowsB x r z.2.2.2.2.2.2.1, nb x (A 13) z.2.2.2.2.2.2.2]) rfl rfl (fl_app _ _) ?_
          refine j_iload_n 3 dX5_lectures_70 rfl rfl ?_
          refine j_if_ne (tgt := 84) dX5_lectures_71 (by decide) (fun h71 => ?_) (fun h71 => ?_)
          · skip
            refine j_aload_n 0 dX5_lectures_84 rfl rfl ?_
            refine j_get (v := .ref ((A 7) 0)) 22 dX5_lectures_85 fX5_46 rfl rfl ?_
            refine j_cVi (As := []) (rest := []) (wr := fl [nb x (A 2) u, nb x (a 0) y0, nb x (a 1) y1, nb x (a 2) y2, ob A (ik, hr, ld + 1), pb x (A 1) g, sb x (A 3) v, nb x (A 4) uk, sb x (A 5) vk, nb x (A 6) z.1, gb x (A 11) (A 13) r z.2.2.2.2.2.1, rowsB x r z.2.2.2.2.2.2.1, nb x (A 13) z.2.2.2.2.2.2.2]) (ws' := fl [lb x (A 7) a ((mst hh u j).1, (mst hh u j).2), nb x (A 2) u, nb x (a 0) y0, nb x (a 1) y1, nb x (a 2) y2, ob A (ik, hr, ld + 1), pb x (A 1) g, sb x (A 3) v, nb x (A 4) uk, sb x (A 5) vk, nb x (A 6) z.1, gb x (A 11) (A 13) r z.2.2.2.2.2.1, rowsB x r z.2.2.2.2.2.2.1, nb x (A 13) z.2.2.2.2.2.2.2]) (tX1_firstHearer l x (A 7) a ((mst hh u j).1) ((mst hh u j).2)) kX1_firstHearer 0 rfl rfl rfl vX5_153 dX5_lectures_88 (by decide) rfl rfl (Nat.le_of_ble_eq_true rfl) (qm_1 14 0 [1, 2, 3, 4, 5, 6, 7, 8, 9, 10, 11, 12, 13] (by decide +kernel) rfl rfl rfl) rfl ?_
            refine j_perm (fl [ob A (ik, hr, ld + 1), pb x (A 1) g, nb x (A 2) u, sb x (A 3) v, nb x (A 4) uk, sb x (A 5) vk, nb x (A 6) z.1, lb x (A 7) a ((mst hh u j).1, (mst hh u j).2), nb x (a 0) y0, nb x (a 1) y1, nb x (a 2) y2, gb x (A 11) (A 13) r z.2.2.2.2.2.1, rowsB x r z.2.2.2.2.2.2.1, nb x (A 13) z.2.2.2.2.2.2.2]) (qm_b 14 [5, 6, 1, 7, 8, 9, 10, 0, 2, 3, 4, 11, 12, 13] (by decide +kernel) rfl rfl) ?_
            rw [show kLectures (ik, hr, ld) g u v uk vk (nI j) (nI hh) f = ((mst hh u j).2, ((ik, hr, ld + 1), g, u, v, uk, vk)) from by simp [kLectures, isW_001, hjc, h8, h20, hhc, h29, h41, h71]]
            exact j_iret _ dX5_lectures_91 (List.Perm.refl _) ⟨rfl, (z.1, ((mst hh u j).1, (mst hh u j).2), y0, y1, y2, z.2.2.2.2.2.1, z.2.2.2.2.2.2.1, z.2.2.2.2.2.2.2), ⟨(by (try simp only [nN_ph, nN_lec, nN_cpy, nN_cof, nN_wak, nN_hrs]); omega), (by (try simp only [nN_ph, nN_lec, nN_cpy, nN_cof, nN_wak, nN_hrs]); omega), (by (try simp only [nN_ph, nN_lec, nN_cpy, nN_cof, nN_wak, nN_hrs]); omega), (by (try simp only [nN_ph, nN_lec, nN_cpy, nN_cof, nN_wak, nN_hrs]); omega), (by (try simp only [nN_ph, nN_lec, nN_cpy, nN_cof, nN_wak, nN_hrs]); omega)⟩, rfl⟩
          · skip
            refine j_aload_n 0 dX5_lectures_74 rfl rfl ?_
            refine j_get (v := .ref ((A 7) 0)) 22 dX5_lectures_75 fX5_46 rfl rfl ?_
            refine j_cVi (As := []) (rest := []) (wr := fl [nb x (A 2) u, nb x (a 0) y0, nb x (a 1) y1, nb x (a 2) y2, ob A (ik, hr, ld + 1), pb x (A 1) g, sb x (A 3) v, nb x (A 4) uk, sb x (A 5) vk, nb x (A 6) z.1, gb x (A 11) (A 13) r z.2.2.2.2.2.1, rowsB x r z.2.2.2.2.2.2.1, nb x (A 13) z.2.2.2.2.2.2.2]) (ws' := fl [lb x (A 7) a ((mst hh u j).1, (mst hh u j).2), nb x (A 2) u, nb x (a 0) y0, nb x (a 1) y1, nb x (a 2) y2, ob A (ik, hr, ld + 1), pb x (A 1) g, sb x (A 3) v, nb x (A 4) uk, sb x (A 5) vk, nb x (A 6) z.1, gb x (A 11) (A 13) r z.2.2.2.2.2.1, rowsB x r z.2.2.2.2.2.2.1, nb x (A 13) z.2.2.2.2.2.2.2]) (tX1_hoursInBed l x (A 7) a ((mst hh u j).1) ((mst hh u j).2)) kX1_hoursInBed 0 rfl rfl rfl vX5_150 dX5_lectures_78 (by decide) rfl rfl (Nat.le_of_ble_eq_true rfl) (qm_1 14 0 [1, 2, 3, 4, 5, 6, 7, 8, 9, 10, 11, 12, 13] (by decide +kernel) rfl rfl rfl) rfl ?_
            refine j_goto (tgt := 91) dX5_lectures_81 (by decide) ?_
            refine j_perm (fl [ob A (ik, hr, ld + 1), pb x (A 1) g, nb x (A 2) u, sb x (A 3) v, nb x (A 4) uk, sb x (A 5) vk, nb x (A 6) z.1, lb x (A 7) a ((mst hh u j).1, (mst hh u j).2), nb x (a 0) y0, nb x (a 1) y1, nb x (a 2) y2, gb x (A 11) (A 13) r z.2.2.2.2.2.1, rowsB x r z.2.2.2.2.2.2.1, nb x (A 13) z.2.2.2.2.2.2.2]) (qm_b 14 [5, 6, 1, 7, 8, 9, 10, 0, 2, 3, 4, 11, 12, 13] (by decide +kernel) rfl rfl) ?_
            rw [show kLectures (ik, hr, ld) g u v uk vk (nI j) (nI hh) f = ((mst hh u j).1, ((ik, hr, ld + 1), g, u, v, uk, vk)) from by simp [kLectures, isW_001, hjc, h8, h20, hhc, h29, h41, h71]]
            exact j_iret _ dX5_lectures_91 (List.Perm.refl _) ⟨rfl, (z.1, ((mst hh u j).1, (mst hh u j).2), y0, y1, y2, z.2.2.2.2.2.1, z.2.2.2.2.2.2.1, z.2.2.2.2.2.2.2), ⟨(by (try simp only [nN_ph, nN_lec, nN_cpy, nN_cof, nN_wak, nN_hrs]); omega), (by (try simp only [nN_ph, nN_lec, nN_cpy, nN_cof, nN_wak, nN_hrs]); omega), (by (try simp only [nN_ph, nN_lec, nN_cpy, nN_cof, nN_wak, nN_hrs]); omega), (by (try simp only [nN_ph, nN_lec, nN_cpy, nN_cof, nN_wak, nN_hrs]); omega), (by (try simp only [nN_ph, nN_lec, nN_cpy, nN_cof, nN_wak, nN_hrs]); omega)⟩, rfl⟩
        · skip
          refine j_bipush (v := (-103)) dX5_lectures_44 (by decide) ?_
          refine j_perm (fl [ob A (ik, hr, ld), pb x (A 1) g, nb x (A 2) u, sb x (A 3) v, nb x (A 4) uk, sb x (A 5) vk, nb x (A 6) z.1, lb x (A 7) a z.2.1, nb x (a 0) z.2.2.1, nb x (a 1) z.2.2.2.1, nb x (a 2) z.2.2.2.2.1, gb x (A 11) (A 13) r z.2.2.2.2.2.1, rowsB x r z.2.2.2.2.2.2.1, nb x (A 13) z.2.2.2.2.2.2.2]) (qm_b 14 [1, 2, 0, 3, 4, 5, 6, 7, 8, 9, 10, 11, 12, 13] (by decide +kernel) rfl rfl) ?_
          rw [show kLectures (ik, hr, ld) g u v uk vk (nI j) (nI hh) f = ((-103), ((ik, hr, ld), g, u, v, uk, vk)) from by simp [kLectures, hjc, h8, h20, hhc, h29, Nat.not_lt.mpr h41]]
          exact j_iret _ dX5_lectures_46 (List.Perm.refl _) ⟨rfl, (z.1, z.2.1, z.2.2.1, z.2.2.2.1, z.2.2.2.2.1, z.2.2.2.2.2.1, z.2.2.2.2.2.2.1, z.2.2.2.2.2.2.2), ⟨(by (try simp only [nN_ph, nN_lec, nN_cpy, nN_cof, nN_wak, nN_hrs]); omega), (by (try simp only [nN_ph, nN_lec, nN_cpy, nN_cof, nN_wak, nN_hrs]); omega), (by (try simp only [nN_ph, nN_lec, nN_cpy, nN_cof, nN_wak, nN_hrs]); omega), (by (try simp only [nN_ph, nN_lec, nN_cpy, nN_cof, nN_wak, nN_hrs]); omega), (by (try simp only [nN_ph, nN_lec, nN_cpy, nN_cof, nN_wak, nN_hrs]); omega)⟩, rfl⟩
      · skip
        refine j_bipush (v := (-102)) dX5_lectures_32 (by decide) ?_
        refine j_perm (fl [ob A (ik, hr, ld), pb x (A 1) g, nb x (A 2) u, sb x (A 3) v, nb x (A 4) uk, sb x (A 5) vk, nb x (A 6) z.1, lb x (A 7) a z.2.1, nb x (a 0) z.2.2.1, nb x (a 1) z.2.2.2.1, nb x (a 2) z.2.2.2.2.1, gb x (A 11) (A 13) r z.2.2.2.2.2.1, rowsB x r z.2.2.2.2.2.2.1, nb x (A 13) z.2.2.2.2.2.2.2]) (qm_b 14 [1, 2, 0, 3, 4, 5, 6, 7, 8, 9, 10, 11, 12, 13] (by decide +kernel) rfl rfl) ?_
        rw [show kLectures (ik, hr, ld) g u v uk vk (nI j) (nI hh) f = ((-102), ((ik, hr, ld), g, u, v, uk, vk)) from by simp [kLectures, isW_001, hjc, h8, h20, hhc, h29]]
        exact j_iret _ dX5_lectures_34 (List.Perm.refl _) ⟨rfl, (z.1, z.2.1, z.2.2.1, z.2.2.2.1, z.2.2.2.2.1, z.2.2.2.2.2.1, z.2.2.2.2.2.2.1, z.2.2.2.2.2.2.2), ⟨(by (try simp only [nN_ph, nN_lec, nN_cpy, nN_cof, nN_wak, nN_hrs]); omega), (by (try simp only [nN_ph, nN_lec, nN_cpy, nN_cof, nN_wak, nN_hrs]); omega), (by (try simp only [nN_ph, nN_lec, nN_cpy, nN_cof, nN_wak, nN_hrs]); omega), (by (try simp only [nN_ph, nN_lec, nN_cpy, nN_cof, nN_wak, nN_hrs]); omega), (by (try simp only [nN_ph, nN_lec, nN_cpy, nN_cof, nN_wak, nN_hrs]); omega)⟩, rfl⟩
  · skip
    refine j_bipush (v := (-101)) dX5_lectures_11 (by decide) ?_
    refine j_perm (fl [ob A (ik, hr, ld), pb x (A 1) g, nb x (A 2) u, sb x (A 3) v, nb x (A 4) uk, sb x (A 5) vk, nb x (A 6) z.1, lb x (A 7) a z.2.1, nb x (a 0) z.2.2.1, nb x (a 1) z.2.2.2.1, nb x (a 2) z.2.2.2.2.1, gb x (A 11) (A 13) r z.2.2.2.2.2.1, rowsB x r z.2.2.2.2.2.2.1, nb x (A 13) z.2.2.2.2.2.2.2]) (qm_b 14 [1, 2, 0, 3, 4, 5, 6, 7, 8, 9, 10, 11, 12, 13] (by decide +kernel) rfl rfl) ?_
    rw [show kLectures (ik, hr, ld) g u v uk vk l9 e f = ((-101), ((ik, hr, ld), g, u, v, uk, vk)) from by simp [kLectures, isW_001, h8]]
    exact j_iret _ dX5_lectures_13 (List.Perm.refl _) ⟨rfl, (z.1, z.2.1, z.2.2.1, z.2.2.2.1, z.2.2.2.2.1, z.2.2.2.2.2.1, z.2.2.2.2.2.2.1, z.2.2.2.2.2.2.2), ⟨(by (try simp only [nN_ph, nN_lec, nN_cpy, nN_cof, nN_wak, nN_hrs]); omega), (by (try simp only [nN_ph, nN_lec, nN_cpy, nN_cof, nN_wak, nN_hrs]); omega), (by (try simp only [nN_ph, nN_lec, nN_cpy, nN_cof, nN_wak, nN_hrs]); omega), (by (try simp only [nN_ph, nN_lec, nN_cpy, nN_cof, nN_wak, nN_hrs]); omega), (by (try simp only [nN_ph, nN_lec, nN_cpy, nN_cof, nN_wak, nN_hrs]); omega)⟩, rfl⟩
set_option maxHeartbeats 4000000 in
set_option maxRecDepth 100000 in
theorem tX5_sunday (l : Launch) (x : Cx) (A a : Nat → Nat → Nat) (r : Nat → Nat) (ik : Bool) (hr ld : Nat) (g : PG) (u : NS) (v : SS) (uk : NS) (vk : SS) (hld : ld ≤ 40) (hg : g.2 ≤ 18) (hu : nN u ≤ 5) (hv : v.2.2 ≤ 6) (huk : nN uk ≤ 5) (hvk : vk.2.2 ≤ 6) (e : Int32) (z : ZS) (hz : zok z) : MC l x 10 0 0 yX5_sunday cX5_sunday 3 (some .int) [.ref ((A 0) 0), .int e] (cw x A a r ((ik, hr, ld), g, u, v, uk, vk) z) (pS5 x A a r (kSunday u e) (((ik, hr, ld), g, u, v, uk, vk))) := by
  have hw : nN z.1 ≤ 5 := hz.1
  have hw0 : nN z.2.2.1 ≤ 5 := hz.2.1
  have hw1 : nN z.2.2.2.1 ≤ 5 := hz.2.2.1
  have hw2 : nN z.2.2.2.2.1 ≤ 5 := hz.2.2.2.1
  have hw3 : nN z.2.2.2.2.2.2.2 ≤ 5 := hz.2.2.2.2
  refine MC.of (by decide) (Nat.le_of_ble_eq_true rfl) eXI_fit (fun M => ?_)
  show J M l x cX5_sunday 3 yX5_sunday 10 (pS5 x A a r (kSunday u e) (((ik, hr, ld), g, u, v, uk, vk))) 0 0 0 [(0, .ref ((A 0) 0)), (1, .int e)] [] (fl [ob A (ik, hr, ld), pb x (A 1) g, nb x (A 2) u, sb x (A 3) v, nb x (A 4) uk, sb x (A 5) vk, nb x (A 6) z.1, lb x (A 7) a z.2.1, nb x (a 0) z.2.2.1, nb x (a 1) z.2.2.2.1, nb x (a 2) z.2.2.2.2.1, gb x (A 11) (A 13) r z.2.2.2.2.2.1, rowsB x r z.2.2.2.2.2.2.1, nb x (A 13) z.2.2.2.2.2.2.2])
  refine j_iload_n 1 dX5_sunday_0 rfl rfl ?_
  refine j_iconst (v := 0) dX5_sunday_1 (by decide) ?_
  refine j_iconst (v := 1) dX5_sunday_2 (by decide) ?_
  refine j_cSi (As := [.int e, .int 0, .int 1]) (rest := []) (wr := fl [ob A (ik, hr, ld), pb x (A 1) g, nb x (A 2) u, sb x (A 3) v, nb x (A 4) uk, sb x (A 5) vk, nb x (A 6) z.1, lb x (A 7) a z.2.1, nb x (a 0) z.2.2.1, nb x (a 1) z.2.2.2.1, nb x (a 2) z.2.2.2.2.1, gb x (A 11) (A 13) r z.2.2.2.2.2.1, rowsB x r z.2.2.2.2.2.2.1, nb x (A 13) z.2.2.2.2.2.2.2]) (ws' := fl [ob A (ik, hr, ld), pb x (A 1) g, nb x (A 2) u, sb x (A 3) v, nb x (A 4) uk, sb x (A 5) vk, nb x (A 6) z.1, lb x (A 7) a z.2.1, nb x (a 0) z.2.2.1, nb x (a 1) z.2.2.2.1, nb x (a 2) z.2.2.2.2.1, gb x (A 11) (A 13) r z.2.2.2.2.2.1, rowsB x r z.2.2.2.2.2.2.1, nb x (A 13) z.2.2.2.2.2.2.2]) (tX5_isWithin l x e 0 1) kX5_isWithin sX5_64 dX5_sunday_3 (by decide) rfl rfl (Nat.le_of_ble_eq_true rfl) (List.Perm.refl _) rfl ?_
  refine j_ifb_ne (b := isW e 0 1) (tgt := 12) dX5_sunday_6 (by decide) (fun h6 => ?_) (fun h6 => ?_)
  · skip
    refine j_aload_n 0 dX5_sunday_12 rfl rfl ?_
    refine j_cVi (As := []) (rest := []) (wr := fl [pb x (A 1) g, sb x (A 3) v, nb x (A 4) uk, sb x (A 5) vk, nb x (A 6) z.1, lb x (A 7) a z.2.1, nb x (a 0) z.2.2.1, nb x (a 1) z.2.2.2.1, nb x (a 2) z.2.2.2.2.1, gb x (A 11) (A 13) r z.2.2.2.2.2.1, rowsB x r z.2.2.2.2.2.2.1, nb x (A 13) z.2.2.2.2.2.2.2]) (ws' := fl [ob A (ik, hr, ld), nb x (A 2) u, pb x (A 1) g, sb x (A 3) v, nb x (A 4) uk, sb x (A 5) vk, nb x (A 6) z.1, lb x (A 7) a z.2.1, nb x (a 0) z.2.2.1, nb x (a 1) z.2.2.2.1, nb x (a 2) z.2.2.2.2.1, gb x (A 11) (A 13) r z.2.2.2.2.2.1, rowsB x r z.2.2.2.2.2.2.1, nb x (A 13) z.2.2.2.2.2.2.2]) (tX5_hasHouse l x A ik hr ld u hu) kX5_hasHouse 0 rfl rfl rfl vX5_127 dX5_sunday_13 (by decide) rfl rfl (Nat.le_of_ble_eq_true rfl) (qm_c 14 [0, 2] [1, 3, 4, 5, 6, 7, 8, 9, 10, 11, 12, 13] (by decide +kernel) rfl rfl rfl) (fl_app _ _) ?_
    refine j_ifb_ne (b := decide (0 < nN u)) (tgt := 22) dX5_sunday_16 (by decide) (fun h16 => ?_) (fun h16 => ?_)
    · skip
      have h0 : ¬ nN u = 0 := by have := of_decide_eq_true h16; omega
      refine j_aload_n 0 dX5_sunday_22 rfl rfl ?_
      refine j_get (v := .ref ((A 2) 0)) 0 dX5_sunday_23 fX5_19 rfl rfl ?_
      refine j_cVi (As := []) (rest := []) (wr := fl [ob A (ik, hr, ld), pb x (A 1) g, sb x (A 3) v, nb x (A 4) uk, sb x (A 5) vk, nb x (A 6) z.1, lb x (A 7) a z.2.1, nb x (a 0) z.2.2.1, nb x (a 1) z.2.2.2.1, nb x (a 2) z.2.2.2.2.1, gb x (A 11) (A 13) r z.2.2.2.2.2.1, rowsB x r z.2.2.2.2.2.2.1, nb x (A 13) z.2.2.2.2.2.2.2]) (ws' := fl [nb x (A 2) u, ob A (ik, hr, ld), pb x (A 1) g, sb x (A 3) v, nb x (A 4) uk, sb x (A 5) vk, nb x (A 6) z.1, lb x (A 7) a z.2.1, nb x (a 0) z.2.2.1, nb x (a 1) z.2.2.2.1, nb x (a 2) z.2.2.2.2.1, gb x (A 11) (A 13) r z.2.2.2.2.2.1, rowsB x r z.2.2.2.2.2.2.1, nb x (A 13) z.2.2.2.2.2.2.2]) (uX2_mostWakefulPair l x (A 2) u (by (try simp only [nN_ph, nN_lec, nN_cpy, nN_cof, nN_wak, nN_hrs]); omega)) kX2_mostWakefulPair 0 rfl rfl rfl vX5_156 dX5_sunday_26 (by decide) rfl rfl (Nat.le_of_ble_eq_true rfl) (qm_1 14 1 [0, 2, 3, 4, 5, 6, 7, 8, 9, 10, 11, 12, 13] (by decide +kernel) rfl rfl rfl) rfl ?_
      refine j_istore_n (lv' := [(2, .int ((prU u).1)), (0, .ref ((A 0) 0)), (1, .int e)]) dX5_sunday_29 rfl (by decide) rfl ?_
      refine j_iload_n 0 dX5_sunday_30 rfl rfl ?_
      refine j_iconst (v := (-1)) dX5_sunday_31 (by decide) ?_
      refine j_icmp_eq (tgt := 39) dX5_sunday_32 (by decide) (fun h32 => ?_) (fun h32 => ?_)
      · skip
        refine j_iload_n 0 dX5_sunday_39 rfl rfl ?_
        refine j_perm (fl [ob A (ik, hr, ld), pb x (A 1) g, nb x (A 2) u, sb x (A 3) v, nb x (A 4) uk, sb x (A 5) vk, nb x (A 6) z.1, lb x (A 7) a z.2.1, nb x (a 0) z.2.2.1, nb x (a 1) z.2.2.2.1, nb x (a 2) z.2.2.2.2.1, gb x (A 11) (A 13) r z.2.2.2.2.2.1, rowsB x r z.2.2.2.2.2.2.1, nb x (A 13) z.2.2.2.2.2.2.2]) (qm_b 14 [1, 2, 0, 3, 4, 5, 6, 7, 8, 9, 10, 11, 12, 13] (by decide +kernel) rfl rfl) ?_
        rw [show kSunday u e = (prU u).1 from by first | (simp [kSunday, h6, h0, prU_m1 hu h32]; done) | (simp [kSunday, isW_001, h6, h0, h36]; done)]
        exact j_iret _ dX5_sunday_40 (List.Perm.refl _) ⟨rfl, (z.1, z.2.1, z.2.2.1, z.2.2.2.1, z.2.2.2.2.1, z.2.2.2.2.2.1, z.2.2.2.2.2.2.1, z.2.2.2.2.2.2.2), ⟨(by (try simp only [nN_ph, nN_lec, nN_cpy, nN_cof, nN_wak, nN_hrs]); omega), (by (try simp only [nN_ph, nN_lec, nN_cpy, nN_cof, nN_wak, nN_hrs]); omega), (by (try simp only [nN_ph, nN_lec, nN_cpy, nN_cof, nN_wak, nN_hrs]); omega), (by (try simp only [nN_ph, nN_lec, nN_cpy, nN_cof, nN_wak, nN_hrs]); omega), (by (try simp only [nN_ph, nN_lec, nN_cpy, nN_cof, nN_wak, nN_hrs]); omega)⟩, rfl⟩
      · skip
        refine j_iload_n 2 dX5_sunday_35 rfl rfl ?_
        refine j_if_ne (tgt := 41) dX5_sunday_36 (by decide) (fun h36 => ?_) (fun h36 => ?_)
        · skip
          obtain ⟨i, j, hi, hj, hp⟩ : ∃ i j, i < nN u ∧ j < nN u ∧ prU u = (nI (10 * i + j), nI (togU u i j)) := (prU_inv u).resolve_left (fun e => h32 (by rw [e]))
          refine j_lve (lv' := [(2, .int (nI (10 * i + j))), (0, .ref ((A 0) 0)), (1, .int e)]) (by rw [hp]) ?_
          refine j_aload_n 1 dX5_sunday_41 rfl rfl ?_
          refine j_get (v := .ref ((A 2) 0)) 5 dX5_sunday_42 fX5_19 rfl rfl ?_
          refine j_iload_n 0 dX5_sunday_45 rfl rfl ?_
          refine j_bipush (v := 10) dX5_sunday_46 (by decide) ?_
          refine j_idiv dX5_sunday_48 (by decide) ?_
          refine j_topi (b := nI i) (div10 (by omega) (by omega)) ?_
          refine j_iload_n 0 dX5_sunday_49 rfl rfl ?_
          refine j_bipush (v := 10) dX5_sunday_50 (by decide) ?_
          refine j_irem dX5_sunday_52 (by decide) ?_
          refine j_topi (b := nI j) (rem10 (by omega) (by omega)) ?_
          refine j_cVi (As := [.int (nI i), .int (nI j)]) (rest := []) (wr := fl [ob A (ik, hr, ld), pb x (A 1) g, sb x (A 3) v, nb x (A 4) uk, sb x (A 5) vk, nb x (A 6) z.1, lb x (A 7) a z.2.1, nb x (a 0) z.2.2.1, nb x (a 1) z.2.2.2.1, nb x (a 2) z.2.2.2.2.1, gb x (A 11) (A 13) r z.2.2.2.2.2.1, rowsB x r z.2.2.2.2.2.2.1, nb x (A 13) z.2.2.2.2.2.2.2]) (ws' := fl [nb x (A 2) u, ob A (ik, hr, ld), pb x (A 1) g, sb x (A 3) v, nb x (A 4) uk, sb x (A 5) vk, nb x (A 6) z.1, lb x (A 7) a z.2.1, nb x (a 0) z.2.2.1, nb x (a 1) z.2.2.2.1, nb x (a 2) z.2.2.2.2.1, gb x (A 11) (A 13) r z.2.2.2.2.2.1, rowsB x r z.2.2.2.2.2.2.1, nb x (A 13) z.2.2.2.2.2.2.2]) (uX2_hoursTogether l x (A 2) u (by (try simp only [nN_ph, nN_lec, nN_cpy, nN_cof, nN_wak, nN_hrs]); omega) i j (by (try simp only [nN_ph, nN_lec, nN_cpy, nN_cof, nN_wak, nN_hrs]); omega) (by (try simp only [nN_ph, nN_lec, nN_cpy, nN_cof, nN_wak, nN_hrs]); omega)) kX2_hoursTogether 0 rfl rfl rfl vX5_159 dX5_sunday_53 (by decide) rfl rfl (Nat.le_of_ble_eq_true rfl) (qm_1 14 0 [1, 2, 3, 4, 5, 6, 7, 8, 9, 10, 11, 12, 13] (by decide +kernel) rfl rfl rfl) rfl ?_
          refine j_perm (fl [ob A (ik, hr, ld), pb x (A 1) g, nb x (A 2) u, sb x (A 3) v, nb x (A 4) uk, sb x (A 5) vk, nb x (A 6) z.1, lb x (A 7) a z.2.1, nb x (a 0) z.2.2.1, nb x (a 1) z.2.2.2.1, nb x (a 2) z.2.2.2.2.1, gb x (A 11) (A 13) r z.2.2.2.2.2.1, rowsB x r z.2.2.2.2.2.2.1, nb x (A 13) z.2.2.2.2.2.2.2]) (qm_b 14 [1, 2, 0, 3, 4, 5, 6, 7, 8, 9, 10, 11, 12, 13] (by decide +kernel) rfl rfl) ?_
          rw [show kSunday u e = nI (togU u i j) from by simp [kSunday, h6, h0, h36, hp]]
          exact j_iret _ dX5_sunday_56 (List.Perm.refl _) ⟨rfl, (z.1, z.2.1, z.2.2.1, z.2.2.2.1, z.2.2.2.2.1, z.2.2.2.2.2.1, z.2.2.2.2.2.2.1, z.2.2.2.2.2.2.2), ⟨(by (try simp only [nN_ph, nN_lec, nN_cpy, nN_cof, nN_wak, nN_hrs]); omega), (by (try simp only [nN_ph, nN_lec, nN_cpy, nN_cof, nN_wak, nN_hrs]); omega), (by (try simp only [nN_ph, nN_lec, nN_cpy, nN_cof, nN_wak, nN_hrs]); omega), (by (try simp only [nN_ph, nN_lec, nN_cpy, nN_cof, nN_wak, nN_hrs]); omega), (by (try simp only [nN_ph, nN_lec, nN_cpy, nN_cof, nN_wak, nN_hrs]); omega)⟩, rfl⟩
        · skip
          refine j_iload_n 0 dX5_sunday_39 rfl rfl ?_
          refine j_perm (fl [ob A (ik, hr, ld), pb x (A 1) g, nb x (A 2) u, sb x (A 3) v, nb x (A 4) uk, sb x (A 5) vk, nb x (A 6) z.1, lb x (A 7) a z.2.1, nb x (a 0) z.2.2.1, nb x (a 1) z.2.2.2.1, nb x (a 2) z.2.2.2.2.1, gb x (A 11) (A 13) r z.2.2.2.2.2.1, rowsB x r z.2.2.2.2.2.2.1, nb x (A 13) z.2.2.2.2.2.2.2]) (qm_b 14 [1, 2, 0, 3, 4, 5, 6, 7, 8, 9, 10, 11, 12, 13] (by decide +kernel) rfl rfl) ?_
          rw [show kSunday u e = (prU u).1 from by first | (simp [kSunday, h6, h0, prU_m1 hu h32]; done) | (simp [kSunday, isW_001, h6, h0, h36]; done)]
          exact j_iret _ dX5_sunday_40 (List.Perm.refl _) ⟨rfl, (z.1, z.2.1, z.2.2.1, z.2.2.2.1, z.2.2.2.2.1, z.2.2.2.2.2.1, z.2.2.2.2.2.2.1, z.2.2.2.2.2.2.2), ⟨(by (try simp only [nN_ph, nN_lec, nN_cpy, nN_cof, nN_wak, nN_hrs]); omega), (by (try simp only [nN_ph, nN_lec, nN_cpy, nN_cof, nN_wak, nN_hrs]); omega), (by (try simp only [nN_ph, nN_lec, nN_cpy, nN_cof, nN_wak, nN_hrs]); omega), (by (try simp only [nN_ph, nN_lec, nN_cpy, nN_cof, nN_wak, nN_hrs]); omega), (by (try simp only [nN_ph, nN_lec, nN_cpy, nN_cof, nN_wak, nN_hrs]); omega)⟩, rfl⟩
    · skip
      have h0 : nN u = 0 := by simpa using h16
      refine j_bipush (v := (-103)) dX5_sunday_19 (by decide) ?_
      refine j_perm (fl [ob A (ik, hr, ld), pb x (A 1) g, nb x (A 2) u, sb x (A 3) v, nb x (A 4) uk, sb x (A 5) vk, nb x (A 6) z.1, lb x (A 7) a z.2.1, nb x (a 0) z.2.2.1, nb x (a 1) z.2.2.2.1, nb x (a 2) z.2.2.2.2.1, gb x (A 11) (A 13) r z.2.2.2.2.2.1, rowsB x r z.2.2.2.2.2.2.1, nb x (A 13) z.2.2.2.2.2.2.2]) (qm_b 14 [0, 2, 1, 3, 4, 5, 6, 7, 8, 9, 10, 11, 12, 13] (by decide +kernel) rfl rfl) ?_
      rw [show kSunday u e = (-103) from by simp [kSunday, h6, h0]]
      exact j_iret _ dX5_sunday_21 (List.Perm.refl _) ⟨rfl, (z.1, z.2.1, z.2.2.1, z.2.2.2.1, z.2.2.2.2.1, z.2.2.2.2.2.1, z.2.2.2.2.2.2.1, z.2.2.2.2.2.2.2), ⟨(by (try simp only [nN_ph, nN_lec, nN_cpy, nN_cof, nN_wak, nN_hrs]); omega), (by (try simp only [nN_ph, nN_lec, nN_cpy, nN_cof, nN_wak, nN_hrs]); omega), (by (try simp only [nN_ph, nN_lec, nN_cpy, nN_cof, nN_wak, nN_hrs]); omega), (by (try simp only [nN_ph, nN_lec, nN_cpy, nN_cof, nN_wak, nN_hrs]); omega), (by (try simp only [nN_ph, nN_lec, nN_cpy, nN_cof, nN_wak, nN_hrs]); omega)⟩, rfl⟩
  · skip
    refine j_bipush (v := (-102)) dX5_sunday_9 (by decide) ?_
    rw [show kSunday u e = (-102) from by simp [kSunday, h6]]
    exact j_iret _ dX5_sunday_11 (List.Perm.refl _) ⟨rfl, (z.1, z.2.1, z.2.2.1, z.2.2.2.1, z.2.2.2.2.1, z.2.2.2.2.2.1, z.2.2.2.2.2.2.1, z.2.2.2.2.2.2.2), ⟨(by (try simp only [nN_ph, nN_lec, nN_cpy, nN_cof, nN_wak, nN_hrs]); omega), (by (try simp only [nN_ph, nN_lec, nN_cpy, nN_cof, nN_wak, nN_hrs]); omega), (by (try simp only [nN_ph, nN_lec, nN_cpy, nN_cof, nN_wak, nN_hrs]); omega), (by (try simp only [nN_ph, nN_lec, nN_cpy, nN_cof, nN_wak, nN_hrs]); omega), (by (try simp only [nN_ph, nN_lec, nN_cpy, nN_cof, nN_wak, nN_hrs]); omega)⟩, rfl⟩
set_option maxHeartbeats 4000000 in
set_option maxRecDepth 100000 in
theorem tX5_see (l : Launch) (x : Cx) (A a : Nat → Nat → Nat) (r : Nat → Nat) (ik : Bool) (hr ld : Nat) (g : PG) (u : NS) (v : SS) (uk : NS) (vk : SS) (hld : ld ≤ 40) (hg : g.2 ≤ 18) (hu : nN u ≤ 5) (hv : v.2.2 ≤ 6) (huk : nN uk ≤ 5) (hvk : vk.2.2 ≤ 6) (e l9 : Int32) (z : ZS) (hz : zok z) : MC l x 10 0 0 yX5_see cX5_see 3 (some .int) [.ref ((A 0) 0), .int e, .int l9] (cw x A a r ((ik, hr, ld), g, u, v, uk, vk) z) (pS5 x A a r ((kSee (ik, hr, ld) g u v uk vk e l9).1) ((kSee (ik, hr, ld) g u v uk vk e l9).2)) := by
  have hw : nN z.1 ≤ 5 := hz.1
  have hw0 : nN z.2.2.1 ≤ 5 := hz.2.1
  have hw1 : nN z.2.2.2.1 ≤ 5 := hz.2.2.1
  have hw2 : nN z.2.2.2.2.1 ≤ 5 := hz.2.2.2.1
  have hw3 : nN z.2.2.2.2.2.2.2 ≤ 5 := hz.2.2.2.2
  refine MC.of (by decide) (Nat.le_of_ble_eq_true rfl) eXI_fit (fun M => ?_)
  show J M l x cX5_see 3 yX5_see 10 (pS5 x A a r ((kSee (ik, hr, ld) g u v uk vk e l9).1) ((kSee (ik, hr, ld) g u v uk vk e l9).2)) 0 0 0 [(0, .ref ((A 0) 0)), (1, .int e), (2, .int l9)] [] (fl [ob A (ik, hr, ld), pb x (A 1) g, nb x (A 2) u, sb x (A 3) v, nb x (A 4) uk, sb x (A 5) vk, nb x (A 6) z.1, lb x (A 7) a z.2.1, nb x (a 0) z.2.2.1, nb x (a 1) z.2.2.2.1, nb x (a 2) z.2.2.2.2.1, gb x (A 11) (A 13) r z.2.2.2.2.2.1, rowsB x r z.2.2.2.2.2.2.1, nb x (A 13) z.2.2.2.2.2.2.2])
  refine j_iload_n 1 dX5_see_0 rfl rfl ?_
  refine j_iconst (v := 0) dX5_see_1 (by decide) ?_
  refine j_bipush (v := 12) dX5_see_2 (by decide) ?_
  refine j_cSi (As := [.int e, .int 0, .int 12]) (rest := []) (wr := fl [ob A (ik, hr, ld), pb x (A 1) g, nb x (A 2) u, sb x (A 3) v, nb x (A 4) uk, sb x (A 5) vk, nb x (A 6) z.1, lb x (A 7) a z.2.1, nb x (a 0) z.2.2.1, nb x (a 1) z.2.2.2.1, nb x (a 2) z.2.2.2.2.1, gb x (A 11) (A 13) r z.2.2.2.2.2.1, rowsB x r z.2.2.2.2.2.2.1, nb x (A 13) z.2.2.2.2.2.2.2]) (ws' := fl [ob A (ik, hr, ld), pb x (A 1) g, nb x (A 2) u, sb x (A 3) v, nb x (A 4) uk, sb x (A 5) vk, nb x (A 6) z.1, lb x (A 7) a z.2.1, nb x (a 0) z.2.2.1, nb x (a 1) z.2.2.2.1, nb x (a 2) z.2.2.2.2.1, gb x (A 11) (A 13) r z.2.2.2.2.2.1, rowsB x r z.2.2.2.2.2.2.1, nb x (A 13) z.2.2.2.2.2.2.2]) (tX5_isWithin l x e 0 12) kX5_isWithin sX5_64 dX5_see_4 (by decide) rfl rfl (Nat.le_of_ble_eq_true rfl) (List.Perm.refl _) rfl ?_
  refine j_ifb_ne (b := isW e 0 12) (tgt := 13) dX5_see_7 (by decide) (fun h7 => ?_) (fun h7 => ?_)
  · skip
    refine j_iload_n 2 dX5_see_13 rfl rfl ?_
    refine j_iconst (v := (-1)) dX5_see_14 (by decide) ?_
    refine j_icmp_eq (tgt := 32) dX5_see_15 (by decide) (fun h15 => ?_) (fun h15 => ?_)
    · skip
      refine j_aload_n 0 dX5_see_32 rfl rfl ?_
      refine j_get (v := .ref ((A 3) 0)) 0 dX5_see_33 fX5_26 rfl rfl ?_
      refine j_cVi (As := []) (rest := []) (wr := fl [ob A (ik, hr, ld), pb x (A 1) g, nb x (A 2) u, nb x (A 4) uk, sb x (A 5) vk, nb x (A 6) z.1, lb x (A 7) a z.2.1, nb x (a 0) z.2.2.1, nb x (a 1) z.2.2.2.1, nb x (a 2) z.2.2.2.2.1, gb x (A 11) (A 13) r z.2.2.2.2.2.1, rowsB x r z.2.2.2.2.2.2.1, nb x (A 13) z.2.2.2.2.2.2.2]) (ws' := fl [sb x (A 3) v, ob A (ik, hr, ld), pb x (A 1) g, nb x (A 2) u, nb x (A 4) uk, sb x (A 5) vk, nb x (A 6) z.1, lb x (A 7) a z.2.1, nb x (a 0) z.2.2.1, nb x (a 1) z.2.2.2.1, nb x (a 2) z.2.2.2.2.1, gb x (A 11) (A 13) r z.2.2.2.2.2.1, rowsB x r z.2.2.2.2.2.2.1, nb x (A 13) z.2.2.2.2.2.2.2]) (uX4_size l x (A 3) v (by omega)) kX4_size 0 rfl rfl rfl vX5_162 dX5_see_36 (by decide) rfl rfl (Nat.le_of_ble_eq_true rfl) (qm_1 14 3 [0, 1, 2, 4, 5, 6, 7, 8, 9, 10, 11, 12, 13] (by decide +kernel) rfl rfl rfl) rfl ?_
      refine j_bipush (v := 6) dX5_see_39 (by decide) ?_
      refine j_icmpN_lt (a := v.2.2) (b := 6) (by omega) (by omega) (tgt := 47) dX5_see_41 (by decide) (fun h41 => ?_) (fun h41 => ?_)
      · skip
        refine j_aload_n 0 dX5_see_47 rfl rfl ?_
        refine j_get (v := .ref ((A 3) 0)) 3 dX5_see_48 fX5_26 rfl rfl ?_
        refine j_iload_n 1 dX5_see_51 rfl rfl ?_
        refine j_iload_n 2 dX5_see_52 rfl rfl ?_
        refine j_cVi (As := [.int e, .int l9]) (rest := []) (wr := fl [ob A (ik, hr, ld), pb x (A 1) g, nb x (A 2) u, nb x (A 4) uk, sb x (A 5) vk, nb x (A 6) z.1, lb x (A 7) a z.2.1, nb x (a 0) z.2.2.1, nb x (a 1) z.2.2.2.1, nb x (a 2) z.2.2.2.2.1, gb x (A 11) (A 13) r z.2.2.2.2.2.1, rowsB x r z.2.2.2.2.2.2.1, nb x (A 13) z.2.2.2.2.2.2.2]) (ws' := fl [sb x (A 3) (upd v.1 v.2.2 e, upd v.2.1 v.2.2 l9, v.2.2 + 1), ob A (ik, hr, ld), pb x (A 1) g, nb x (A 2) u, nb x (A 4) uk, sb x (A 5) vk, nb x (A 6) z.1, lb x (A 7) a z.2.1, nb x (a 0) z.2.2.1, nb x (a 1) z.2.2.2.1, nb x (a 2) z.2.2.2.2.1, gb x (A 11) (A 13) r z.2.2.2.2.2.1, rowsB x r z.2.2.2.2.2.2.1, nb x (A 13) z.2.2.2.2.2.2.2]) (uX4_put l x (A 3) v (by omega) e l9) kX4_put 0 rfl rfl rfl vX5_165 dX5_see_53 (by decide) rfl rfl (Nat.le_of_ble_eq_true rfl) (qm_1 14 0 [1, 2, 3, 4, 5, 6, 7, 8, 9, 10, 11, 12, 13] (by decide +kernel) rfl rfl rfl) rfl ?_
        refine j_perm (fl [ob A (ik, hr, ld), pb x (A 1) g, nb x (A 2) u, sb x (A 3) (upd v.1 v.2.2 e, upd v.2.1 v.2.2 l9, v.2.2 + 1), nb x (A 4) uk, sb x (A 5) vk, nb x (A 6) z.1, lb x (A 7) a z.2.1, nb x (a 0) z.2.2.1, nb x (a 1) z.2.2.2.1, nb x (a 2) z.2.2.2.2.1, gb x (A 11) (A 13) r z.2.2.2.2.2.1, rowsB x r z.2.2.2.2.2.2.1, nb x (A 13) z.2.2.2.2.2.2.2]) (qm_b 14 [1, 2, 3, 0, 4, 5, 6, 7, 8, 9, 10, 11, 12, 13] (by decide +kernel) rfl rfl) ?_
        rw [show kSee (ik, hr, ld) g u v uk vk e l9 = (nI (v.2.2 + 1), ((ik, hr, ld), g, u, (upd v.1 v.2.2 e, upd v.2.1 v.2.2 l9, v.2.2 + 1), uk, vk)) from by simp [kSee, h7, h15, h41]]
        exact j_iret _ dX5_see_56 (List.Perm.refl _) ⟨rfl, (z.1, z.2.1, z.2.2.1, z.2.2.2.1, z.2.2.2.2.1, z.2.2.2.2.2.1, z.2.2.2.2.2.2.1, z.2.2.2.2.2.2.2), ⟨(by (try simp only [nN_ph, nN_lec, nN_cpy, nN_cof, nN_wak, nN_hrs]); omega), (by (try simp only [nN_ph, nN_lec, nN_cpy, nN_cof, nN_wak, nN_hrs]); omega), (by (try simp only [nN_ph, nN_lec, nN_cpy, nN_cof, nN_wak, nN_hrs]); omega), (by (try simp only [nN_ph, nN_lec, nN_cpy, nN_cof, nN_wak, nN_hrs]); omega), (by (try simp only [nN_ph, nN_lec, nN_cpy, nN_cof, nN_wak, nN_hrs]); omega)⟩, rfl⟩
      · skip
        refine j_bipush (v := (-104)) dX5_see_44 (by decide) ?_
        refine j_perm (fl [ob A (ik, hr, ld), pb x (A 1) g, nb x (A 2) u, sb x (A 3) v, nb x (A 4) uk, sb x (A 5) vk, nb x (A 6) z.1, lb x (A 7) a z.2.1, nb x (a 0) z.2.2.1, nb x (a 1) z.2.2.2.1, nb x (a 2) z.2.2.2.2.1, gb x (A 11) (A 13) r z.2.2.2.2.2.1, rowsB x r z.2.2.2.2.2.2.1, nb x (A 13) z.2.2.2.2.2.2.2]) (qm_b 14 [1, 2, 3, 0, 4, 5, 6, 7, 8, 9, 10, 11, 12, 13] (by decide +kernel) rfl rfl) ?_
        rw [show kSee (ik, hr, ld) g u v uk vk e l9 = ((-104), ((ik, hr, ld), g, u, v, uk, vk)) from by first | (simp [kSee, h7, h15, Nat.not_lt.mpr h41]; done) | (simp [kSee, h7, h26, Nat.not_lt.mpr h41]; done)]
        exact j_iret _ dX5_see_46 (List.Perm.refl _) ⟨rfl, (z.1, z.2.1, z.2.2.1, z.2.2.2.1, z.2.2.2.2.1, z.2.2.2.2.2.1, z.2.2.2.2.2.2.1, z.2.2.2.2.2.2.2), ⟨(by (try simp only [nN_ph, nN_lec, nN_cpy, nN_cof, nN_wak, nN_hrs]); omega), (by (try simp only [nN_ph, nN_lec, nN_cpy, nN_cof, nN_wak, nN_hrs]); omega), (by (try simp only [nN_ph, nN_lec, nN_cpy, nN_cof, nN_wak, nN_hrs]); omega), (by (try simp only [nN_ph, nN_lec, nN_cpy, nN_cof, nN_wak, nN_hrs]); omega), (by (try simp only [nN_ph, nN_lec, nN_cpy, nN_cof, nN_wak, nN_hrs]); omega)⟩, rfl⟩
    · skip
      refine j_aload_n 0 dX5_see_18 rfl rfl ?_
      refine j_get (v := .ref ((A 2) 0)) 0 dX5_see_19 fX5_19 rfl rfl ?_
      refine j_iload_n 2 dX5_see_22 rfl rfl ?_
      refine j_cVi (As := [.int l9]) (rest := []) (wr := fl [ob A (ik, hr, ld), pb x (A 1) g, sb x (A 3) v, nb x (A 4) uk, sb x (A 5) vk, nb x (A 6) z.1, lb x (A 7) a z.2.1, nb x (a 0) z.2.2.1, nb x (a 1) z.2.2.2.1, nb x (a 2) z.2.2.2.2.1, gb x (A 11) (A 13) r z.2.2.2.2.2.1, rowsB x r z.2.2.2.2.2.2.1, nb x (A 13) z.2.2.2.2.2.2.2]) (ws' := fl [nb x (A 2) u, ob A (ik, hr, ld), pb x (A 1) g, sb x (A 3) v, nb x (A 4) uk, sb x (A 5) vk, nb x (A 6) z.1, lb x (A 7) a z.2.1, nb x (a 0) z.2.2.1, nb x (a 1) z.2.2.2.1, nb x (a 2) z.2.2.2.2.1, gb x (A 11) (A 13) r z.2.2.2.2.2.1, rowsB x r z.2.2.2.2.2.2.1, nb x (A 13) z.2.2.2.2.2.2.2]) (uX2_knows l x (A 2) u l9) kX2_knows 0 rfl rfl rfl vX5_94 dX5_see_23 (by decide) rfl rfl (Nat.le_of_ble_eq_true rfl) (qm_1 14 2 [0, 1, 3, 4, 5, 6, 7, 8, 9, 10, 11, 12, 13] (by decide +kernel) rfl rfl rfl) rfl ?_
      refine j_ifb_ne (b := kn (nN u) l9) (tgt := 32) dX5_see_26 (by decide) (fun h26 => ?_) (fun h26 => ?_)
      · skip
        refine j_aload_n 0 dX5_see_32 rfl rfl ?_
        refine j_get (v := .ref ((A 3) 0)) 5 dX5_see_33 fX5_26 rfl rfl ?_
        refine j_cVi (As := []) (rest := []) (wr := fl [nb x (A 2) u, ob A (ik, hr, ld), pb x (A 1) g, nb x (A 4) uk, sb x (A 5) vk, nb x (A 6) z.1, lb x (A 7) a z.2.1, nb x (a 0) z.2.2.1, nb x (a 1) z.2.2.2.1, nb x (a 2) z.2.2.2.2.1, gb x (A 11) (A 13) r z.2.2.2.2.2.1, rowsB x r z.2.2.2.2.2.2.1, nb x (A 13) z.2.2.2.2.2.2.2]) (ws' := fl [sb x (A 3) v, nb x (A 2) u, ob A (ik, hr, ld), pb x (A 1) g, nb x (A 4) uk, sb x (A 5) vk, nb x (A 6) z.1, lb x (A 7) a z.2.1, nb x (a 0) z.2.2.1, nb x (a 1) z.2.2.2.1, nb x (a 2) z.2.2.2.2.1, gb x (A 11) (A 13) r z.2.2.2.2.2.1, rowsB x r z.2.2.2.2.2.2.1, nb x (A 13) z.2.2.2.2.2.2.2]) (uX4_size l x (A 3) v (by omega)) kX4_size 0 rfl rfl rfl vX5_162 dX5_see_36 (by decide) rfl rfl (Nat.le_of_ble_eq_true rfl) (qm_1 14 3 [0, 1, 2, 4, 5, 6, 7, 8, 9, 10, 11, 12, 13] (by decide +kernel) rfl rfl rfl) rfl ?_
        refine j_bipush (v := 6) dX5_see_39 (by decide) ?_
        refine j_icmpN_lt (a := v.2.2) (b := 6) (by omega) (by omega) (tgt := 47) dX5_see_41 (by decide) (fun h41 => ?_) (fun h41 => ?_)
        · skip
          refine j_aload_n 0 dX5_see_47 rfl rfl ?_
          refine j_get (v := .ref ((A 3) 0)) 8 dX5_see_48 fX5_26 rfl rfl ?_
          refine j_iload_n 1 dX5_see_51 rfl rfl ?_
          refine j_iload_n 2 dX5_see_52 rfl rfl ?_
          refine j_cVi (As := [.int e, .int l9]) (rest := []) (wr := fl [nb x (A 2) u, ob A (ik, hr, ld), pb x (A 1) g, nb x (A 4) uk, sb x (A 5) vk, nb x (A 6) z.1, lb x (A 7) a z.2.1, nb x (a 0) z.2.2.1, nb x (a 1) z.2.2.2.1, nb x (a 2) z.2.2.2.2.1, gb x (A 11) (A 13) r z.2.2.2.2.2.1, rowsB x r z.2.2.2.2.2.2.1, nb x (A 13) z.2.2.2.2.2.2.2]) (ws' := fl [sb x (A 3) (upd v.1 v.2.2 e, upd v.2.1 v.2.2 l9, v.2.2 + 1), nb x (A 2) u, ob A (ik, hr, ld), pb x (A 1) g, nb x (A 4) uk, sb x (A 5) vk, nb x (A 6) z.1, lb x (A 7) a z.2.1, nb x (a 0) z.2.2.1, nb x (a 1) z.2.2.2.1, nb x (a 2) z.2.2.2.2.1, gb x (A 11) (A 13) r z.2.2.2.2.2.1, rowsB x r z.2.2.2.2.2.2.1, nb x (A 13) z.2.2.2.2.2.2.2]) (uX4_put l x (A 3) v (by omega) e l9) kX4_put 0 rfl rfl rfl vX5_165 dX5_see_53 (by decide) rfl rfl (Nat.le_of_ble_eq_true rfl) (qm_1 14 0 [1, 2, 3, 4, 5, 6, 7, 8, 9, 10, 11, 12, 13] (by decide +kernel) rfl rfl rfl) rfl ?_
          refine j_perm (fl [ob A (ik, hr, ld), pb x (A 1) g, nb x (A 2) u, sb x (A 3) (upd v.1 v.2.2 e, upd v.2.1 v.2.2 l9, v.2.2 + 1), nb x (A 4) uk, sb x (A 5) vk, nb x (A 6) z.1, lb x (A 7) a z.2.1, nb x (a 0) z.2.2.1, nb x (a 1) z.2.2.2.1, nb x (a 2) z.2.2.2.2.1, gb x (A 11) (A 13) r z.2.2.2.2.2.1, rowsB x r z.2.2.2.2.2.2.1, nb x (A 13) z.2.2.2.2.2.2.2]) (qm_b 14 [2, 3, 1, 0, 4, 5, 6, 7, 8, 9, 10, 11, 12, 13] (by decide +kernel) rfl rfl) ?_
          rw [show kSee (ik, hr, ld) g u v uk vk e l9 = (nI (v.2.2 + 1), ((ik, hr, ld), g, u, (upd v.1 v.2.2 e, upd v.2.1 v.2.2 l9, v.2.2 + 1), uk, vk)) from by simp [kSee, h7, h15, h26, h41]]
          exact j_iret _ dX5_see_56 (List.Perm.refl _) ⟨rfl, (z.1, z.2.1, z.2.2.1, z.2.2.2.1, z.2.2.2.2.1, z.2.2.2.2.2.1, z.2.2.2.2.2.2.1, z.2.2.2.2.2.2.2), ⟨(by (try simp only [nN_ph, nN_lec, nN_cpy, nN_cof, nN_wak, nN_hrs]); omega), (by (try simp only [nN_ph, nN_lec, nN_cpy, nN_cof, nN_wak, nN_hrs]); omega), (by (try simp only [nN_ph, nN_lec, nN_cpy, nN_cof, nN_wak, nN_hrs]); omega), (by (try simp only [nN_ph, nN_lec, nN_cpy, nN_cof, nN_wak, nN_hrs]); omega), (by (try simp only [nN_ph, nN_lec, nN_cpy, nN_cof, nN_wak, nN_hrs]); omega)⟩, rfl⟩
        · skip
          refine j_bipush (v := (-104)) dX5_see_44 (by decide) ?_
          refine j_perm (fl [ob A (ik, hr, ld), pb x (A 1) g, nb x (A 2) u, sb x (A 3) v, nb x (A 4) uk, sb x (A 5) vk, nb x (A 6) z.1, lb x (A 7) a z.2.1, nb x (a 0) z.2.2.1, nb x (a 1) z.2.2.2.1, nb x (a 2) z.2.2.2.2.1, gb x (A 11) (A 13) r z.2.2.2.2.2.1, rowsB x r z.2.2.2.2.2.2.1, nb x (A 13) z.2.2.2.2.2.2.2]) (qm_b 14 [2, 3, 1, 0, 4, 5, 6, 7, 8, 9, 10, 11, 12, 13] (by decide +kernel) rfl rfl) ?_
          rw [show kSee (ik, hr, ld) g u v uk vk e l9 = ((-104), ((ik, hr, ld), g, u, v, uk, vk)) from by first | (simp [kSee, h7, h15, Nat.not_lt.mpr h41]; done) | (simp [kSee, h7, h26, Nat.not_lt.mpr h41]; done)]
          exact j_iret _ dX5_see_46 (List.Perm.refl _) ⟨rfl, (z.1, z.2.1, z.2.2.1, z.2.2.2.1, z.2.2.2.2.1, z.2.2.2.2.2.1, z.2.2.2.2.2.2.1, z.2.2.2.2.2.2.2), ⟨(by (try simp only [nN_ph, nN_lec, nN_cpy, nN_cof, nN_wak, nN_hrs]); omega), (by (try simp only [nN_ph, nN_lec, nN_cpy, nN_cof, nN_wak, nN_hrs]); omega), (by (try simp only [nN_ph, nN_lec, nN_cpy, nN_cof, nN_wak, nN_hrs]); omega), (by (try simp only [nN_ph, nN_lec, nN_cpy, nN_cof, nN_wak, nN_hrs]); omega), (by (try simp only [nN_ph, nN_lec, nN_cpy, nN_cof, nN_wak, nN_hrs]); omega)⟩, rfl⟩
      · skip
        refine j_bipush (v := (-101)) dX5_see_29 (by decide) ?_
        refine j_perm (fl [ob A (ik, hr, ld), pb x (A 1) g, nb x (A 2) u, sb x (A 3) v, nb x (A 4) uk, sb x (A 5) vk, nb x (A 6) z.1, lb x (A 7) a z.2.1, nb x (a 0) z.2.2.1, nb x (a 1) z.2.2.2.1, nb x (a 2) z.2.2.2.2.1, gb x (A 11) (A 13) r z.2.2.2.2.2.1, rowsB x r z.2.2.2.2.2.2.1, nb x (A 13) z.2.2.2.2.2.2.2]) (qm_b 14 [1, 2, 0, 3, 4, 5, 6, 7, 8, 9, 10, 11, 12, 13] (by decide +kernel) rfl rfl) ?_
        rw [show kSee (ik, hr, ld) g u v uk vk e l9 = ((-101), ((ik, hr, ld), g, u, v, uk, vk)) from by simp [kSee, h7, h15, h26]]
        exact j_iret _ dX5_see_31 (List.Perm.refl _) ⟨rfl, (z.1, z.2.1, z.2.2.1, z.2.2.2.1, z.2.2.2.2.1, z.2.2.2.2.2.1, z.2.2.2.2.2.2.1, z.2.2.2.2.2.2.2), ⟨(by (try simp only [nN_ph, nN_lec, nN_cpy, nN_cof, nN_wak, nN_hrs]); omega), (by (try simp only [nN_ph, nN_lec, nN_cpy, nN_cof, nN_wak, nN_hrs]); omega), (by (try simp only [nN_ph, nN_lec, nN_cpy, nN_cof, nN_wak, nN_hrs]); omega), (by (try simp only [nN_ph, nN_lec, nN_cpy, nN_cof, nN_wak, nN_hrs]); omega), (by (try simp only [nN_ph, nN_lec, nN_cpy, nN_cof, nN_wak, nN_hrs]); omega)⟩, rfl⟩
  · skip
    refine j_bipush (v := (-102)) dX5_see_10 (by decide) ?_
    rw [show kSee (ik, hr, ld) g u v uk vk e l9 = ((-102), ((ik, hr, ld), g, u, v, uk, vk)) from by simp [kSee, h7]]
    exact j_iret _ dX5_see_12 (List.Perm.refl _) ⟨rfl, (z.1, z.2.1, z.2.2.1, z.2.2.2.1, z.2.2.2.2.1, z.2.2.2.2.2.1, z.2.2.2.2.2.2.1, z.2.2.2.2.2.2.2), ⟨(by (try simp only [nN_ph, nN_lec, nN_cpy, nN_cof, nN_wak, nN_hrs]); omega), (by (try simp only [nN_ph, nN_lec, nN_cpy, nN_cof, nN_wak, nN_hrs]); omega), (by (try simp only [nN_ph, nN_lec, nN_cpy, nN_cof, nN_wak, nN_hrs]); omega), (by (try simp only [nN_ph, nN_lec, nN_cpy, nN_cof, nN_wak, nN_hrs]); omega), (by (try simp only [nN_ph, nN_lec, nN_cpy, nN_cof, nN_wak, nN_hrs]); omega)⟩, rfl⟩
set_option maxHeartbeats 4000000 in
set_option maxRecDepth 100000 in
theorem tX5_forget (l : Launch) (x : Cx) (A a : Nat → Nat → Nat) (r : Nat → Nat) (ik : Bool) (hr ld : Nat) (g : PG) (u : NS) (v : SS) (uk : NS) (vk : SS) (hld : ld ≤ 40) (hg : g.2 ≤ 18) (hu : nN u ≤ 5) (hv : v.2.2 ≤ 6) (huk : nN uk ≤ 5) (hvk : vk.2.2 ≤ 6)  (z : ZS) (hz : zok z) : MC l x 10 0 0 yX5_forget cX5_forget 1 (some .int) [.ref ((A 0) 0)] (cw x A a r ((ik, hr, ld), g, u, v, uk, vk) z) (pS5 x A a r ((kForget (ik, hr, ld) g u v uk vk).1) ((kForget (ik, hr, ld) g u v uk vk).2)) := by
  have hw : nN z.1 ≤ 5 := hz.1
  have hw0 : nN z.2.2.1 ≤ 5 := hz.2.1
  have hw1 : nN z.2.2.2.1 ≤ 5 := hz.2.2.1
  have hw2 : nN z.2.2.2.2.1 ≤ 5 := hz.2.2.2.1
  have hw3 : nN z.2.2.2.2.2.2.2 ≤ 5 := hz.2.2.2.2
  refine MC.of (by decide) (Nat.le_of_ble_eq_true rfl) eXI_fit (fun M => ?_)
  show J M l x cX5_forget 1 yX5_forget 10 (pS5 x A a r ((kForget (ik, hr, ld) g u v uk vk).1) ((kForget (ik, hr, ld) g u v uk vk).2)) 0 0 0 [(0, .ref ((A 0) 0))] [] (fl [ob A (ik, hr, ld), pb x (A 1) g, nb x (A 2) u, sb x (A 3) v, nb x (A 4) uk, sb x (A 5) vk, nb x (A 6) z.1, lb x (A 7) a z.2.1, nb x (a 0) z.2.2.1, nb x (a 1) z.2.2.2.1, nb x (a 2) z.2.2.2.2.1, gb x (A 11) (A 13) r z.2.2.2.2.2.1, rowsB x r z.2.2.2.2.2.2.1, nb x (A 13) z.2.2.2.2.2.2.2])
  refine j_aload_n 0 dX5_forget_0 rfl rfl ?_
  refine j_get (v := .ref ((A 3) 0)) 0 dX5_forget_1 fX5_26 rfl rfl ?_
  refine j_cVi (As := []) (rest := []) (wr := fl [ob A (ik, hr, ld), pb x (A 1) g, nb x (A 2) u, nb x (A 4) uk, sb x (A 5) vk, nb x (A 6) z.1, lb x (A 7) a z.2.1, nb x (a 0) z.2.2.1, nb x (a 1) z.2.2.2.1, nb x (a 2) z.2.2.2.2.1, gb x (A 11) (A 13) r z.2.2.2.2.2.1, rowsB x r z.2.2.2.2.2.2.1, nb x (A 13) z.2.2.2.2.2.2.2]) (ws' := fl [sb x (A 3) (v.1, v.2.1, 0), ob A (ik, hr, ld), pb x (A 1) g, nb x (A 2) u, nb x (A 4) uk, sb x (A 5) vk, nb x (A 6) z.1, lb x (A 7) a z.2.1, nb x (a 0) z.2.2.1, nb x (a 1) z.2.2.2.1, nb x (a 2) z.2.2.2.2.1, gb x (A 11) (A 13) r z.2.2.2.2.2.1, rowsB x r z.2.2.2.2.2.2.1, nb x (A 13) z.2.2.2.2.2.2.2]) (uX4_empty l x (A 3) v (by omega)) kX4_empty 0 rfl rfl rfl vX5_90 dX5_forget_4 (by decide) rfl rfl (Nat.le_of_ble_eq_true rfl) (qm_1 14 3 [0, 1, 2, 4, 5, 6, 7, 8, 9, 10, 11, 12, 13] (by decide +kernel) rfl rfl rfl) rfl ?_
  refine j_perm (fl [ob A (ik, hr, ld), pb x (A 1) g, nb x (A 2) u, sb x (A 3) (v.1, v.2.1, 0), nb x (A 4) uk, sb x (A 5) vk, nb x (A 6) z.1, lb x (A 7) a z.2.1, nb x (a 0) z.2.2.1, nb x (a 1) z.2.2.2.1, nb x (a 2) z.2.2.2.2.1, gb x (A 11) (A 13) r z.2.2.2.2.2.1, rowsB x r z.2.2.2.2.2.2.1, nb x (A 13) z.2.2.2.2.2.2.2]) (qm_b 14 [1, 2, 3, 0, 4, 5, 6, 7, 8, 9, 10, 11, 12, 13] (by decide +kernel) rfl rfl) ?_
  rw [show kForget (ik, hr, ld) g u v uk vk = (nI v.2.2, ((ik, hr, ld), g, u, (v.1, v.2.1, 0), uk, vk)) from by rfl]
  exact j_iret _ dX5_forget_7 (List.Perm.refl _) ⟨rfl, (z.1, z.2.1, z.2.2.1, z.2.2.2.1, z.2.2.2.2.1, z.2.2.2.2.2.1, z.2.2.2.2.2.2.1, z.2.2.2.2.2.2.2), ⟨(by (try simp only [nN_ph, nN_lec, nN_cpy, nN_cof, nN_wak, nN_hrs]); omega), (by (try simp only [nN_ph, nN_lec, nN_cpy, nN_cof, nN_wak, nN_hrs]); omega), (by (try simp only [nN_ph, nN_lec, nN_cpy, nN_cof, nN_wak, nN_hrs]); omega), (by (try simp only [nN_ph, nN_lec, nN_cpy, nN_cof, nN_wak, nN_hrs]); omega), (by (try simp only [nN_ph, nN_lec, nN_cpy, nN_cof, nN_wak, nN_hrs]); omega)⟩, rfl⟩
set_option maxHeartbeats 4000000 in
set_option maxRecDepth 100000 in
theorem tX5_image (l : Launch) (x : Cx) (A a : Nat → Nat → Nat) (r : Nat → Nat) (ik : Bool) (hr ld : Nat) (g : PG) (u : NS) (v : SS) (uk : NS) (vk : SS) (hld : ld ≤ 40) (hg : g.2 ≤ 18) (hu : nN u ≤ 5) (hv : v.2.2 ≤ 6) (huk : nN uk ≤ 5) (hvk : vk.2.2 ≤ 6)  (z : ZS) (hz : zok z) : MC l x 10 0 0 yX5_image cX5_image 1 (some .int) [.ref ((A 0) 0)] (cw x A a r ((ik, hr, ld), g, u, v, uk, vk) z) (pS5 x A a r ((kImage (ik, hr, ld) g u v uk vk).1) ((kImage (ik, hr, ld) g u v uk vk).2)) := by
  have hw : nN z.1 ≤ 5 := hz.1
  have hw0 : nN z.2.2.1 ≤ 5 := hz.2.1
  have hw1 : nN z.2.2.2.1 ≤ 5 := hz.2.2.1
  have hw2 : nN z.2.2.2.2.1 ≤ 5 := hz.2.2.2.1
  have hw3 : nN z.2.2.2.2.2.2.2 ≤ 5 := hz.2.2.2.2
  refine MC.of (by decide) (Nat.le_of_ble_eq_true rfl) eXI_fit (fun M => ?_)
  show J M l x cX5_image 1 yX5_image 10 (pS5 x A a r ((kImage (ik, hr, ld) g u v uk vk).1) ((kImage (ik, hr, ld) g u v uk vk).2)) 0 0 0 [(0, .ref ((A 0) 0))] [] (fl [ob A (ik, hr, ld), pb x (A 1) g, nb x (A 2) u, sb x (A 3) v, nb x (A 4) uk, sb x (A 5) vk, nb x (A 6) z.1, lb x (A 7) a z.2.1, nb x (a 0) z.2.2.1, nb x (a 1) z.2.2.2.1, nb x (a 2) z.2.2.2.2.1, gb x (A 11) (A 13) r z.2.2.2.2.2.1, rowsB x r z.2.2.2.2.2.2.1, nb x (A 13) z.2.2.2.2.2.2.2])
  refine j_aload_n 0 dX5_image_0 rfl rfl ?_
  refine j_cVi (As := []) (rest := []) (wr := fl [pb x (A 1) g, sb x (A 3) v, nb x (A 4) uk, sb x (A 5) vk, nb x (A 6) z.1, lb x (A 7) a z.2.1, nb x (a 0) z.2.2.1, nb x (a 1) z.2.2.2.1, nb x (a 2) z.2.2.2.2.1, gb x (A 11) (A 13) r z.2.2.2.2.2.1, rowsB x r z.2.2.2.2.2.2.1, nb x (A 13) z.2.2.2.2.2.2.2]) (ws' := fl [ob A (ik, hr, ld), nb x (A 2) u, pb x (A 1) g, sb x (A 3) v, nb x (A 4) uk, sb x (A 5) vk, nb x (A 6) z.1, lb x (A 7) a z.2.1, nb x (a 0) z.2.2.1, nb x (a 1) z.2.2.2.1, nb x (a 2) z.2.2.2.2.1, gb x (A 11) (A 13) r z.2.2.2.2.2.1, rowsB x r z.2.2.2.2.2.2.1, nb x (A 13) z.2.2.2.2.2.2.2]) (tX5_hasHouse l x A ik hr ld u hu) kX5_hasHouse 0 rfl rfl rfl vX5_127 dX5_image_1 (by decide) rfl rfl (Nat.le_of_ble_eq_true rfl) (qm_c 14 [0, 2] [1, 3, 4, 5, 6, 7, 8, 9, 10, 11, 12, 13] (by decide +kernel) rfl rfl rfl) (fl_app _ _) ?_
  refine j_ifb_ne (b := decide (0 < nN u)) (tgt := 10) dX5_image_4 (by decide) (fun h4 => ?_) (fun h4 => ?_)
  · skip
    have h0 : ¬ nN u = 0 := by have := of_decide_eq_true h4; omega
    refine j_aload_n 0 dX5_image_10 rfl rfl ?_
    refine j_get (v := .ref ((A 4) 0)) 0 dX5_image_11 fX5_30 rfl rfl ?_
    refine j_aload_n 0 dX5_image_14 rfl rfl ?_
    refine j_get (v := .ref ((A 2) 0)) 0 dX5_image_15 fX5_19 rfl rfl ?_
    refine j_cVv (As := [.ref ((A 2) 0)]) (rest := []) (wr := fl [ob A (ik, hr, ld), pb x (A 1) g, sb x (A 3) v, sb x (A 5) vk, nb x (A 6) z.1, lb x (A 7) a z.2.1, nb x (a 0) z.2.2.1, nb x (a 1) z.2.2.2.1, nb x (a 2) z.2.2.2.2.1, gb x (A 11) (A 13) r z.2.2.2.2.2.1, rowsB x r z.2.2.2.2.2.2.1, nb x (A 13) z.2.2.2.2.2.2.2]) (ws' := fl [nb x (A 4) (cpy u uk), nb x (A 2) u, ob A (ik, hr, ld), pb x (A 1) g, sb x (A 3) v, sb x (A 5) vk, nb x (A 6) z.1, lb x (A 7) a z.2.1, nb x (a 0) z.2.2.1, nb x (a 1) z.2.2.2.1, nb x (a 2) z.2.2.2.2.1, gb x (A 11) (A 13) r z.2.2.2.2.2.1, rowsB x r z.2.2.2.2.2.2.1, nb x (A 13) z.2.2.2.2.2.2.2]) (uX2_copyFrom l x (A 4) uk (A 2) u (by (try simp only [nN_ph, nN_lec, nN_cpy, nN_cof, nN_wak, nN_hrs]); omega)) kX2_copyFrom 0 rfl rfl rfl vX5_167 dX5_image_18 (by decide) rfl rfl (Nat.le_of_ble_eq_true rfl) (qm_2 14 4 1 [0, 2, 3, 5, 6, 7, 8, 9, 10, 11, 12, 13] (by decide +kernel) rfl rfl rfl rfl) (List.append_assoc _ _ _) ?_
    refine j_aload_n 0 dX5_image_21 rfl rfl ?_
    refine j_get (v := .ref ((A 5) 0)) 10 dX5_image_22 fX5_33 rfl rfl ?_
    refine j_aload_n 0 dX5_image_25 rfl rfl ?_
    refine j_get (v := .ref ((A 3) 0)) 10 dX5_image_26 fX5_26 rfl rfl ?_
    refine j_cVv (As := [.ref ((A 3) 0)]) (rest := []) (wr := fl [nb x (A 4) (cpy u uk), nb x (A 2) u, ob A (ik, hr, ld), pb x (A 1) g, nb x (A 6) z.1, lb x (A 7) a z.2.1, nb x (a 0) z.2.2.1, nb x (a 1) z.2.2.2.1, nb x (a 2) z.2.2.2.2.1, gb x (A 11) (A 13) r z.2.2.2.2.2.1, rowsB x r z.2.2.2.2.2.2.1, nb x (A 13) z.2.2.2.2.2.2.2]) (ws' := fl [sb x (A 5) (scp v vk), sb x (A 3) v, nb x (A 4) (cpy u uk), nb x (A 2) u, ob A (ik, hr, ld), pb x (A 1) g, nb x (A 6) z.1, lb x (A 7) a z.2.1, nb x (a 0) z.2.2.1, nb x (a 1) z.2.2.2.1, nb x (a 2) z.2.2.2.2.1, gb x (A 11) (A 13) r z.2.2.2.2.2.1, rowsB x r z.2.2.2.2.2.2.1, nb x (A 13) z.2.2.2.2.2.2.2]) (uX4_copyFrom l x (A 5) vk (A 3) v (by omega)) kX4_copyFrom 0 rfl rfl rfl vX5_177 dX5_image_29 (by decide) rfl rfl (Nat.le_of_ble_eq_true rfl) (qm_2 14 5 4 [0, 1, 2, 3, 6, 7, 8, 9, 10, 11, 12, 13] (by decide +kernel) rfl rfl rfl rfl) (List.append_assoc _ _ _) ?_
    refine j_aload_n 0 dX5_image_32 rfl rfl ?_
    refine j_iconst (v := bI true) dX5_image_33 (by decide) ?_
    refine j_put (v := .int (bI true)) (ws' := fl [sb x (A 5) (scp v vk), sb x (A 3) v, nb x (A 4) (cpy u uk), nb x (A 2) u, ob A (true, hr, ld), pb x (A 1) g, nb x (A 6) z.1, lb x (A 7) a z.2.1, nb x (a 0) z.2.2.1, nb x (a 1) z.2.2.2.1, nb x (a 2) z.2.2.2.2.1, gb x (A 11) (A 13) r z.2.2.2.2.2.1, rowsB x r z.2.2.2.2.2.2.1, nb x (A 13) z.2.2.2.2.2.2.2]) 16 dX5_image_34 fX5_36 rfl (nar_bI true) (fit_bI true) (Nat.le_of_ble_eq_true rfl) rfl ?_
    refine j_aload_n 0 dX5_image_37 rfl rfl ?_
    refine j_get (v := .ref ((A 2) 0)) 16 dX5_image_38 fX5_19 rfl rfl ?_
    refine j_cVi (As := []) (rest := []) (wr := fl [sb x (A 5) (scp v vk), sb x (A 3) v, nb x (A 4) (cpy u uk), ob A (true, hr, ld), pb x (A 1) g, nb x (A 6) z.1, lb x (A 7) a z.2.1, nb x (a 0) z.2.2.1, nb x (a 1) z.2.2.2.1, nb x (a 2) z.2.2.2.2.1, gb x (A 11) (A 13) r z.2.2.2.2.2.1, rowsB x r z.2.2.2.2.2.2.1, nb x (A 13) z.2.2.2.2.2.2.2]) (ws' := fl [nb x (A 2) u, sb x (A 5) (scp v vk), sb x (A 3) v, nb x (A 4) (cpy u uk), ob A (true, hr, ld), pb x (A 1) g, nb x (A 6) z.1, lb x (A 7) a z.2.1, nb x (a 0) z.2.2.1, nb x (a 1) z.2.2.2.1, nb x (a 2) z.2.2.2.2.1, gb x (A 11) (A 13) r z.2.2.2.2.2.1, rowsB x r z.2.2.2.2.2.2.1, nb x (A 13) z.2.2.2.2.2.2.2]) (uX2_hoursPassed l x (A 2) u ) kX2_hoursPassed 0 rfl rfl rfl vX5_180 dX5_image_41 (by decide) rfl rfl (Nat.le_of_ble_eq_true rfl) (qm_1 14 3 [0, 1, 2, 4, 5, 6, 7, 8, 9, 10, 11, 12, 13] (by decide +kernel) rfl rfl rfl) rfl ?_
    refine j_perm (fl [ob A (true, hr, ld), pb x (A 1) g, nb x (A 2) u, sb x (A 3) v, nb x (A 4) (cpy u uk), sb x (A 5) (scp v vk), nb x (A 6) z.1, lb x (A 7) a z.2.1, nb x (a 0) z.2.2.1, nb x (a 1) z.2.2.2.1, nb x (a 2) z.2.2.2.2.1, gb x (A 11) (A 13) r z.2.2.2.2.2.1, rowsB x r z.2.2.2.2.2.2.1, nb x (A 13) z.2.2.2.2.2.2.2]) (qm_b 14 [4, 5, 0, 2, 3, 1, 6, 7, 8, 9, 10, 11, 12, 13] (by decide +kernel) rfl rfl) ?_
    rw [show kImage (ik, hr, ld) g u v uk vk = (nH u, ((true, hr, ld), g, u, v, (cpy u uk), (scp v vk))) from by simp [kImage, h0]]
    exact j_iret _ dX5_image_44 (List.Perm.refl _) ⟨rfl, (z.1, z.2.1, z.2.2.1, z.2.2.2.1, z.2.2.2.2.1, z.2.2.2.2.2.1, z.2.2.2.2.2.2.1, z.2.2.2.2.2.2.2), ⟨(by (try simp only [nN_ph, nN_lec, nN_cpy, nN_cof, nN_wak, nN_hrs]); omega), (by (try simp only [nN_ph, nN_lec, nN_cpy, nN_cof, nN_wak, nN_hrs]); omega), (by (try simp only [nN_ph, nN_lec, nN_cpy, nN_cof, nN_wak, nN_hrs]); omega), (by (try simp only [nN_ph, nN_lec, nN_cpy, nN_cof, nN_wak, nN_hrs]); omega), (by (try simp only [nN_ph, nN_lec, nN_cpy, nN_cof, nN_wak, nN_hrs]); omega)⟩, rfl⟩
  · skip
    have h0 : nN u = 0 := by simpa using h4
    refine j_bipush (v := (-103)) dX5_image_7 (by decide) ?_
    refine j_perm (fl [ob A (ik, hr, ld), pb x (A 1) g, nb x (A 2) u, sb x (A 3) v, nb x (A 4) uk, sb x (A 5) vk, nb x (A 6) z.1, lb x (A 7) a z.2.1, nb x (a 0) z.2.2.1, nb x (a 1) z.2.2.2.1, nb x (a 2) z.2.2.2.2.1, gb x (A 11) (A 13) r z.2.2.2.2.2.1, rowsB x r z.2.2.2.2.2.2.1, nb x (A 13) z.2.2.2.2.2.2.2]) (qm_b 14 [0, 2, 1, 3, 4, 5, 6, 7, 8, 9, 10, 11, 12, 13] (by decide +kernel) rfl rfl) ?_
    rw [show kImage (ik, hr, ld) g u v uk vk = ((-103), ((ik, hr, ld), g, u, v, uk, vk)) from by simp [kImage, h0]]
    exact j_iret _ dX5_image_9 (List.Perm.refl _) ⟨rfl, (z.1, z.2.1, z.2.2.1, z.2.2.2.1, z.2.2.2.2.1, z.2.2.2.2.2.1, z.2.2.2.2.2.2.1, z.2.2.2.2.2.2.2), ⟨(by (try simp only [nN_ph, nN_lec, nN_cpy, nN_cof, nN_wak, nN_hrs]); omega), (by (try simp only [nN_ph, nN_lec, nN_cpy, nN_cof, nN_wak, nN_hrs]); omega), (by (try simp only [nN_ph, nN_lec, nN_cpy, nN_cof, nN_wak, nN_hrs]); omega), (by (try simp only [nN_ph, nN_lec, nN_cpy, nN_cof, nN_wak, nN_hrs]); omega), (by (try simp only [nN_ph, nN_lec, nN_cpy, nN_cof, nN_wak, nN_hrs]); omega)⟩, rfl⟩
set_option maxHeartbeats 4000000 in
set_option maxRecDepth 100000 in
theorem tX5_restore (l : Launch) (x : Cx) (A a : Nat → Nat → Nat) (r : Nat → Nat) (ik : Bool) (hr ld : Nat) (g : PG) (u : NS) (v : SS) (uk : NS) (vk : SS) (hld : ld ≤ 40) (hg : g.2 ≤ 18) (hu : nN u ≤ 5) (hv : v.2.2 ≤ 6) (huk : nN uk ≤ 5) (hvk : vk.2.2 ≤ 6)  (z : ZS) (hz : zok z) : MC l x 10 0 0 yX5_restore cX5_restore 1 (some .int) [.ref ((A 0) 0)] (cw x A a r ((ik, hr, ld), g, u, v, uk, vk) z) (pS5 x A a r ((kRestore (ik, hr, ld) g u v uk vk).1) ((kRestore (ik, hr, ld) g u v uk vk).2)) := by
  have hw : nN z.1 ≤ 5 := hz.1
  have hw0 : nN z.2.2.1 ≤ 5 := hz.2.1
  have hw1 : nN z.2.2.2.1 ≤ 5 := hz.2.2.1
  have hw2 : nN z.2.2.2.2.1 ≤ 5 := hz.2.2.2.1
  have hw3 : nN z.2.2.2.2.2.2.2 ≤ 5 := hz.2.2.2.2
  refine MC.of (by decide) (Nat.le_of_ble_eq_true rfl) eXI_fit (fun M => ?_)
  show J M l x cX5_restore 1 yX5_restore 10 (pS5 x A a r ((kRestore (ik, hr, ld) g u v uk vk).1) ((kRestore (ik, hr, ld) g u v uk vk).2)) 0 0 0 [(0, .ref ((A 0) 0))] [] (fl [ob A (ik, hr, ld), pb x (A 1) g, nb x (A 2) u, sb x (A 3) v, nb x (A 4) uk, sb x (A 5) vk, nb x (A 6) z.1, lb x (A 7) a z.2.1, nb x (a 0) z.2.2.1, nb x (a 1) z.2.2.2.1, nb x (a 2) z.2.2.2.2.1, gb x (A 11) (A 13) r z.2.2.2.2.2.1, rowsB x r z.2.2.2.2.2.2.1, nb x (A 13) z.2.2.2.2.2.2.2])
  refine j_aload_n 0 dX5_restore_0 rfl rfl ?_
  refine j_get (v := .int (bI ik)) 0 dX5_restore_1 fX5_36 rfl rfl ?_
  refine j_ifb_ne (b := ik) (tgt := 10) dX5_restore_4 (by decide) (fun h4 => ?_) (fun h4 => ?_)
  · skip
    refine j_aload_n 0 dX5_restore_10 rfl rfl ?_
    refine j_get (v := .ref ((A 2) 0)) 0 dX5_restore_11 fX5_19 rfl rfl ?_
    refine j_aload_n 0 dX5_restore_14 rfl rfl ?_
    refine j_get (v := .ref ((A 4) 0)) 0 dX5_restore_15 fX5_30 rfl rfl ?_
    refine j_cVv (As := [.ref ((A 4) 0)]) (rest := []) (wr := fl [ob A (ik, hr, ld), pb x (A 1) g, sb x (A 3) v, sb x (A 5) vk, nb x (A 6) z.1, lb x (A 7) a z.2.1, nb x (a 0) z.2.2.1, nb x (a 1) z.2.2.2.1, nb x (a 2) z.2.2.2.2.1, gb x (A 11) (A 13) r z.2.2.2.2.2.1, rowsB x r z.2.2.2.2.2.2.1, nb x (A 13) z.2.2.2.2.2.2.2]) (ws' := fl [nb x (A 2) (cpy uk u), nb x (A 4) uk, ob A (ik, hr, ld), pb x (A 1) g, sb x (A 3) v, sb x (A 5) vk, nb x (A 6) z.1, lb x (A 7) a z.2.1, nb x (a 0) z.2.2.1, nb x (a 1) z.2.2.2.1, nb x (a 2) z.2.2.2.2.1, gb x (A 11) (A 13) r z.2.2.2.2.2.1, rowsB x r z.2.2.2.2.2.2.1, nb x (A 13) z.2.2.2.2.2.2.2]) (uX2_copyFrom l x (A 2) u (A 4) uk (by (try simp only [nN_ph, nN_lec, nN_cpy, nN_cof, nN_wak, nN_hrs]); omega)) kX2_copyFrom 0 rfl rfl rfl vX5_167 dX5_restore_18 (by decide) rfl rfl (Nat.le_of_ble_eq_true rfl) (qm_2 14 2 4 [0, 1, 3, 5, 6, 7, 8, 9, 10, 11, 12, 13] (by decide +kernel) rfl rfl rfl rfl) (List.append_assoc _ _ _) ?_
    refine j_aload_n 0 dX5_restore_21 rfl rfl ?_
    refine j_get (v := .ref ((A 3) 0)) 10 dX5_restore_22 fX5_26 rfl rfl ?_
    refine j_aload_n 0 dX5_restore_25 rfl rfl ?_
    refine j_get (v := .ref ((A 5) 0)) 10 dX5_restore_26 fX5_33 rfl rfl ?_
    refine j_cVv (As := [.ref ((A 5) 0)]) (rest := []) (wr := fl [nb x (A 2) (cpy uk u), nb x (A 4) uk, ob A (ik, hr, ld), pb x (A 1) g, nb x (A 6) z.1, lb x (A 7) a z.2.1, nb x (a 0) z.2.2.1, nb x (a 1) z.2.2.2.1, nb x (a 2) z.2.2.2.2.1, gb x (A 11) (A 13) r z.2.2.2.2.2.1, rowsB x r z.2.2.2.2.2.2.1, nb x (A 13) z.2.2.2.2.2.2.2]) (ws' := fl [sb x (A 3) (scp vk v), sb x (A 5) vk, nb x (A 2) (cpy uk u), nb x (A 4) uk, ob A (ik, hr, ld), pb x (A 1) g, nb x (A 6) z.1, lb x (A 7) a z.2.1, nb x (a 0) z.2.2.1, nb x (a 1) z.2.2.2.1, nb x (a 2) z.2.2.2.2.1, gb x (A 11) (A 13) r z.2.2.2.2.2.1, rowsB x r z.2.2.2.2.2.2.1, nb x (A 13) z.2.2.2.2.2.2.2]) (uX4_copyFrom l x (A 3) v (A 5) vk (by omega)) kX4_copyFrom 0 rfl rfl rfl vX5_177 dX5_restore_29 (by decide) rfl rfl (Nat.le_of_ble_eq_true rfl) (qm_2 14 4 5 [0, 1, 2, 3, 6, 7, 8, 9, 10, 11, 12, 13] (by decide +kernel) rfl rfl rfl rfl) (List.append_assoc _ _ _) ?_
    refine j_aload_n 0 dX5_restore_32 rfl rfl ?_
    refine j_get (v := .ref ((A 2) 0)) 16 dX5_restore_33 fX5_19 rfl rfl ?_
    refine j_cVi (As := []) (rest := []) (wr := fl [sb x (A 3) (scp vk v), sb x (A 5) vk, nb x (A 4) uk, ob A (ik, hr, ld), pb x (A 1) g, nb x (A 6) z.1, lb x (A 7) a z.2.1, nb x (a 0) z.2.2.1, nb x (a 1) z.2.2.2.1, nb x (a 2) z.2.2.2.2.1, gb x (A 11) (A 13) r z.2.2.2.2.2.1, rowsB x r z.2.2.2.2.2.2.1, nb x (A 13) z.2.2.2.2.2.2.2]) (ws' := fl [nb x (A 2) (cpy uk u), sb x (A 3) (scp vk v), sb x (A 5) vk, nb x (A 4) uk, ob A (ik, hr, ld), pb x (A 1) g, nb x (A 6) z.1, lb x (A 7) a z.2.1, nb x (a 0) z.2.2.1, nb x (a 1) z.2.2.2.1, nb x (a 2) z.2.2.2.2.1, gb x (A 11) (A 13) r z.2.2.2.2.2.1, rowsB x r z.2.2.2.2.2.2.1, nb x (A 13) z.2.2.2.2.2.2.2]) (uX2_hoursPassed l x (A 2) (cpy uk u) ) kX2_hoursPassed 0 rfl rfl rfl vX5_180 dX5_restore_36 (by decide) rfl rfl (Nat.le_of_ble_eq_true rfl) (qm_1 14 2 [0, 1, 3, 4, 5, 6, 7, 8, 9, 10, 11, 12, 13] (by decide +kernel) rfl rfl rfl) rfl ?_
    refine j_perm (fl [ob A (ik, hr, ld), pb x (A 1) g, nb x (A 2) (cpy uk u), sb x (A 3) (scp vk v), nb x (A 4) uk, sb x (A 5) vk, nb x (A 6) z.1, lb x (A 7) a z.2.1, nb x (a 0) z.2.2.1, nb x (a 1) z.2.2.2.1, nb x (a 2) z.2.2.2.2.1, gb x (A 11) (A 13) r z.2.2.2.2.2.1, rowsB x r z.2.2.2.2.2.2.1, nb x (A 13) z.2.2.2.2.2.2.2]) (qm_b 14 [4, 5, 0, 1, 3, 2, 6, 7, 8, 9, 10, 11, 12, 13] (by decide +kernel) rfl rfl) ?_
    rw [show kRestore (ik, hr, ld) g u v uk vk = (nH (cpy uk u), ((ik, hr, ld), g, (cpy uk u), (scp vk v), uk, vk)) from by simp [kRestore, h4]]
    exact j_iret _ dX5_restore_39 (List.Perm.refl _) ⟨rfl, (z.1, z.2.1, z.2.2.1, z.2.2.2.1, z.2.2.2.2.1, z.2.2.2.2.2.1, z.2.2.2.2.2.2.1, z.2.2.2.2.2.2.2), ⟨(by (try simp only [nN_ph, nN_lec, nN_cpy, nN_cof, nN_wak, nN_hrs]); omega), (by (try simp only [nN_ph, nN_lec, nN_cpy, nN_cof, nN_wak, nN_hrs]); omega), (by (try simp only [nN_ph, nN_lec, nN_cpy, nN_cof, nN_wak, nN_hrs]); omega), (by (try simp only [nN_ph, nN_lec, nN_cpy, nN_cof, nN_wak, nN_hrs]); omega), (by (try simp only [nN_ph, nN_lec, nN_cpy, nN_cof, nN_wak, nN_hrs]); omega)⟩, rfl⟩
  · skip
    refine j_bipush (v := (-103)) dX5_restore_7 (by decide) ?_
    rw [show kRestore (ik, hr, ld) g u v uk vk = ((-103), ((ik, hr, ld), g, u, v, uk, vk)) from by simp [kRestore, h4]]
    exact j_iret _ dX5_restore_9 (List.Perm.refl _) ⟨rfl, (z.1, z.2.1, z.2.2.1, z.2.2.2.1, z.2.2.2.2.1, z.2.2.2.2.2.1, z.2.2.2.2.2.2.1, z.2.2.2.2.2.2.2), ⟨(by (try simp only [nN_ph, nN_lec, nN_cpy, nN_cof, nN_wak, nN_hrs]); omega), (by (try simp only [nN_ph, nN_lec, nN_cpy, nN_cof, nN_wak, nN_hrs]); omega), (by (try simp only [nN_ph, nN_lec, nN_cpy, nN_cof, nN_wak, nN_hrs]); omega), (by (try simp only [nN_ph, nN_lec, nN_cpy, nN_cof, nN_wak, nN_hrs]); omega), (by (try simp only [nN_ph, nN_lec, nN_cpy, nN_cof, nN_wak, nN_hrs]); omega)⟩, rfl⟩
set_option maxHeartbeats 4000000 in
set_option maxRecDepth 100000 in
theorem tX5_count (l : Launch) (x : Cx) (A a : Nat → Nat → Nat) (r : Nat → Nat) (ik : Bool) (hr ld : Nat) (g : PG) (u : NS) (v : SS) (uk : NS) (vk : SS) (hld : ld ≤ 40) (hg : g.2 ≤ 18) (hu : nN u ≤ 5) (hv : v.2.2 ≤ 6) (huk : nN uk ≤ 5) (hvk : vk.2.2 ≤ 6) (e : Int32) (z : ZS) (hz : zok z) : MC l x 10 0 0 yX5_count cX5_count 2 (some .int) [.ref ((A 0) 0), .int e] (cw x A a r ((ik, hr, ld), g, u, v, uk, vk) z) (pS5 x A a r (kCount (ik, hr, ld) g u v e) (((ik, hr, ld), g, u, v, uk, vk))) := by
  have hw : nN z.1 ≤ 5 := hz.1
  have hw0 : nN z.2.2.1 ≤ 5 := hz.2.1
  have hw1 : nN z.2.2.2.1 ≤ 5 := hz.2.2.1
  have hw2 : nN z.2.2.2.2.1 ≤ 5 := hz.2.2.2.1
  have hw3 : nN z.2.2.2.2.2.2.2 ≤ 5 := hz.2.2.2.2
  refine MC.of (by decide) (Nat.le_of_ble_eq_true rfl) eXI_fit (fun M => ?_)
  show J M l x cX5_count 2 yX5_count 10 (pS5 x A a r (kCount (ik, hr, ld) g u v e) (((ik, hr, ld), g, u, v, uk, vk))) 0 0 0 [(0, .ref ((A 0) 0)), (1, .int e)] [] (fl [ob A (ik, hr, ld), pb x (A 1) g, nb x (A 2) u, sb x (A 3) v, nb x (A 4) uk, sb x (A 5) vk, nb x (A 6) z.1, lb x (A 7) a z.2.1, nb x (a 0) z.2.2.1, nb x (a 1) z.2.2.2.1, nb x (a 2) z.2.2.2.2.1, gb x (A 11) (A 13) r z.2.2.2.2.2.1, rowsB x r z.2.2.2.2.2.2.1, nb x (A 13) z.2.2.2.2.2.2.2])
  refine j_iload_n 1 dX5_count_0 rfl rfl ?_
  by_cases s1_0 : e = 0
  · refine j_tabC (0) 0 s1_0 (by decide) dX5_count_1 rfl (by decide : (1 : Int) + 51 = ((52 : Nat) : Int)) ?_
    refine j_aload_n 0 dX5_count_52 rfl rfl ?_
    refine j_get (v := .ref ((A 2) 0)) 0 dX5_count_53 fX5_19 rfl rfl ?_
    refine j_cVi (As := []) (rest := []) (wr := fl [ob A (ik, hr, ld), pb x (A 1) g, sb x (A 3) v, nb x (A 4) uk, sb x (A 5) vk, nb x (A 6) z.1, lb x (A 7) a z.2.1, nb x (a 0) z.2.2.1, nb x (a 1) z.2.2.2.1, nb x (a 2) z.2.2.2.2.1, gb x (A 11) (A 13) r z.2.2.2.2.2.1, rowsB x r z.2.2.2.2.2.2.1, nb x (A 13) z.2.2.2.2.2.2.2]) (ws' := fl [nb x (A 2) u, ob A (ik, hr, ld), pb x (A 1) g, sb x (A 3) v, nb x (A 4) uk, sb x (A 5) vk, nb x (A 6) z.1, lb x (A 7) a z.2.1, nb x (a 0) z.2.2.1, nb x (a 1) z.2.2.2.1, nb x (a 2) z.2.2.2.2.1, gb x (A 11) (A 13) r z.2.2.2.2.2.1, rowsB x r z.2.2.2.2.2.2.1, nb x (A 13) z.2.2.2.2.2.2.2]) (uX2_lodgers l x (A 2) u ) kX2_lodgers 0 rfl rfl rfl vX5_91 dX5_count_56 (by decide) rfl rfl (Nat.le_of_ble_eq_true rfl) (qm_1 14 2 [0, 1, 3, 4, 5, 6, 7, 8, 9, 10, 11, 12, 13] (by decide +kernel) rfl rfl rfl) rfl ?_
    refine j_perm (fl [ob A (ik, hr, ld), pb x (A 1) g, nb x (A 2) u, sb x (A 3) v, nb x (A 4) uk, sb x (A 5) vk, nb x (A 6) z.1, lb x (A 7) a z.2.1, nb x (a 0) z.2.2.1, nb x (a 1) z.2.2.2.1, nb x (a 2) z.2.2.2.2.1, gb x (A 11) (A 13) r z.2.2.2.2.2.1, rowsB x r z.2.2.2.2.2.2.1, nb x (A 13) z.2.2.2.2.2.2.2]) (qm_b 14 [1, 2, 0, 3, 4, 5, 6, 7, 8, 9, 10, 11, 12, 13] (by decide +kernel) rfl rfl) ?_
    rw [show kCount (ik, hr, ld) g u v e = nI (nN u) from by simp [kCount, s1_0]]
    exact j_iret _ dX5_count_59 (List.Perm.refl _) ⟨rfl, (z.1, z.2.1, z.2.2.1, z.2.2.2.1, z.2.2.2.2.1, z.2.2.2.2.2.1, z.2.2.2.2.2.2.1, z.2.2.2.2.2.2.2), ⟨(by (try simp only [nN_ph, nN_lec, nN_cpy, nN_cof, nN_wak, nN_hrs]); omega), (by (try simp only [nN_ph, nN_lec, nN_cpy, nN_cof, nN_wak, nN_hrs]); omega), (by (try simp only [nN_ph, nN_lec, nN_cpy, nN_cof, nN_wak, nN_hrs]); omega), (by (try simp only [nN_ph, nN_lec, nN_cpy, nN_cof, nN_wak, nN_hrs]); omega), (by (try simp only [nN_ph, nN_lec, nN_cpy, nN_cof, nN_wak, nN_hrs]); omega)⟩, rfl⟩
  by_cases s1_1 : e = 1
  · refine j_tabC (1) 1 s1_1 (by decide) dX5_count_1 rfl (by decide : (1 : Int) + 59 = ((60 : Nat) : Int)) ?_
    refine j_aload_n 0 dX5_count_60 rfl rfl ?_
    refine j_get (v := .ref ((A 2) 0)) 0 dX5_count_61 fX5_19 rfl rfl ?_
    refine j_cVi (As := []) (rest := []) (wr := fl [ob A (ik, hr, ld), pb x (A 1) g, sb x (A 3) v, nb x (A 4) uk, sb x (A 5) vk, nb x (A 6) z.1, lb x (A 7) a z.2.1, nb x (a 0) z.2.2.1, nb x (a 1) z.2.2.2.1, nb x (a 2) z.2.2.2.2.1, gb x (A 11) (A 13) r z.2.2.2.2.2.1, rowsB x r z.2.2.2.2.2.2.1, nb x (A 13) z.2.2.2.2.2.2.2]) (ws' := fl [nb x (A 2) u, ob A (ik, hr, ld), pb x (A 1) g, sb x (A 3) v, nb x (A 4) uk, sb x (A 5) vk, nb x (A 6) z.1, lb x (A 7) a z.2.1, nb x (a 0) z.2.2.1, nb x (a 1) z.2.2.2.1, nb x (a 2) z.2.2.2.2.1, gb x (A 11) (A 13) r z.2.2.2.2.2.1, rowsB x r z.2.2.2.2.2.2.1, nb x (A 13) z.2.2.2.2.2.2.2]) (uX2_drowse l x (A 2) u ) kX2_drowse 0 rfl rfl rfl vX5_183 dX5_count_64 (by decide) rfl rfl (Nat.le_of_ble_eq_true rfl) (qm_1 14 2 [0, 1, 3, 4, 5, 6, 7, 8, 9, 10, 11, 12, 13] (by decide +kernel) rfl rfl rfl) rfl ?_
    refine j_perm (fl [ob A (ik, hr, ld), pb x (A 1) g, nb x (A 2) u, sb x (A 3) v, nb x (A 4) uk, sb x (A 5) vk, nb x (A 6) z.1, lb x (A 7) a z.2.1, nb x (a 0) z.2.2.1, nb x (a 1) z.2.2.2.1, nb x (a 2) z.2.2.2.2.1, gb x (A 11) (A 13) r z.2.2.2.2.2.1, rowsB x r z.2.2.2.2.2.2.1, nb x (A 13) z.2.2.2.2.2.2.2]) (qm_b 14 [1, 2, 0, 3, 4, 5, 6, 7, 8, 9, 10, 11, 12, 13] (by decide +kernel) rfl rfl) ?_
    rw [show kCount (ik, hr, ld) g u v e = nD u from by simp [kCount, s1_0, s1_1]]
    exact j_iret _ dX5_count_67 (List.Perm.refl _) ⟨rfl, (z.1, z.2.1, z.2.2.1, z.2.2.2.1, z.2.2.2.2.1, z.2.2.2.2.2.1, z.2.2.2.2.2.2.1, z.2.2.2.2.2.2.2), ⟨(by (try simp only [nN_ph, nN_lec, nN_cpy, nN_cof, nN_wak, nN_hrs]); omega), (by (try simp only [nN_ph, nN_lec, nN_cpy, nN_cof, nN_wak, nN_hrs]); omega), (by (try simp only [nN_ph, nN_lec, nN_cpy, nN_cof, nN_wak, nN_hrs]); omega), (by (try simp only [nN_ph, nN_lec, nN_cpy, nN_cof, nN_wak, nN_hrs]); omega), (by (try simp only [nN_ph, nN_lec, nN_cpy, nN_cof, nN_wak, nN_hrs]); omega)⟩, rfl⟩
  by_cases s1_2 : e = 2
  · refine j_tabC (2) 2 s1_2 (by decide) dX5_count_1 rfl (by decide : (1 : Int) + 67 = ((68 : Nat) : Int)) ?_
    refine j_aload_n 0 dX5_count_68 rfl rfl ?_
    refine j_get (v := .ref ((A 2) 0)) 0 dX5_count_69 fX5_19 rfl rfl ?_
    refine j_cVi (As := []) (rest := []) (wr := fl [ob A (ik, hr, ld), pb x (A 1) g, sb x (A 3) v, nb x (A 4) uk, sb x (A 5) vk, nb x (A 6) z.1, lb x (A 7) a z.2.1, nb x (a 0) z.2.2.1, nb x (a 1) z.2.2.2.1, nb x (a 2) z.2.2.2.2.1, gb x (A 11) (A 13) r z.2.2.2.2.2.1, rowsB x r z.2.2.2.2.2.2.1, nb x (A 13) z.2.2.2.2.2.2.2]) (ws' := fl [nb x (A 2) u, ob A (ik, hr, ld), pb x (A 1) g, sb x (A 3) v, nb x (A 4) uk, sb x (A 5) vk, nb x (A 6) z.1, lb x (A 7) a z.2.1, nb x (a 0) z.2.2.1, nb x (a 1) z.2.2.2.1, nb x (a 2) z.2.2.2.2.1, gb x (A 11) (A 13) r z.2.2.2.2.2.1, rowsB x r z.2.2.2.2.2.2.1, nb x (A 13) z.2.2.2.2.2.2.2]) (uX2_sleepers l x (A 2) u (by (try simp only [nN_ph, nN_lec, nN_cpy, nN_cof, nN_wak, nN_hrs]); omega)) kX2_sleepers 0 rfl rfl rfl vX5_140 dX5_count_72 (by decide) rfl rfl (Nat.le_of_ble_eq_true rfl) (qm_1 14 2 [0, 1, 3, 4, 5, 6, 7, 8, 9, 10, 11, 12, 13] (by decide +kernel) rfl rfl rfl) rfl ?_
    refine j_perm (fl [ob A (ik, hr, ld), pb x (A 1) g, nb x (A 2) u, sb x (A 3) v, nb x (A 4) uk, sb x (A 5) vk, nb x (A 6) z.1, lb x (A 7) a z.2.1, nb x (a 0) z.2.2.1, nb x (a 1) z.2.2.2.1, nb x (a 2) z.2.2.2.2.1, gb x (A 11) (A 13) r z.2.2.2.2.2.1, rowsB x r z.2.2.2.2.2.2.1, nb x (A 13) z.2.2.2.2.2.2.2]) (qm_b 14 [1, 2, 0, 3, 4, 5, 6, 7, 8, 9, 10, 11, 12, 13] (by decide +kernel) rfl rfl) ?_
    rw [show kCount (ik, hr, ld) g u v e = nI (cntS u.2.2.1 (nN u)) from by simp [kCount, s1_0, s1_1, s1_2]]
    exact j_iret _ dX5_count_75 (List.Perm.refl _) ⟨rfl, (z.1, z.2.1, z.2.2.1, z.2.2.2.1, z.2.2.2.2.1, z.2.2.2.2.2.1, z.2.2.2.2.2.2.1, z.2.2.2.2.2.2.2), ⟨(by (try simp only [nN_ph, nN_lec, nN_cpy, nN_cof, nN_wak, nN_hrs]); omega), (by (try simp only [nN_ph, nN_lec, nN_cpy, nN_cof, nN_wak, nN_hrs]); omega), (by (try simp only [nN_ph, nN_lec, nN_cpy, nN_cof, nN_wak, nN_hrs]); omega), (by (try simp only [nN_ph, nN_lec, nN_cpy, nN_cof, nN_wak, nN_hrs]); omega), (by (try simp only [nN_ph, nN_lec, nN_cpy, nN_cof, nN_wak, nN_hrs]); omega)⟩, rfl⟩
  by_cases s1_3 : e = 3
  · refine j_tabC (3) 3 s1_3 (by decide) dX5_count_1 rfl (by decide : (1 : Int) + 75 = ((76 : Nat) : Int)) ?_
    refine j_aload_n 0 dX5_count_76 rfl rfl ?_
    refine j_get (v := .ref ((A 2) 0)) 0 dX5_count_77 fX5_19 rfl rfl ?_
    refine j_cVi (As := []) (rest := []) (wr := fl [ob A (ik, hr, ld), pb x (A 1) g, sb x (A 3) v, nb x (A 4) uk, sb x (A 5) vk, nb x (A 6) z.1, lb x (A 7) a z.2.1, nb x (a 0) z.2.2.1, nb x (a 1) z.2.2.2.1, nb x (a 2) z.2.2.2.2.1, gb x (A 11) (A 13) r z.2.2.2.2.2.1, rowsB x r z.2.2.2.2.2.2.1, nb x (A 13) z.2.2.2.2.2.2.2]) (ws' := fl [nb x (A 2) u, ob A (ik, hr, ld), pb x (A 1) g, sb x (A 3) v, nb x (A 4) uk, sb x (A 5) vk, nb x (A 6) z.1, lb x (A 7) a z.2.1, nb x (a 0) z.2.2.1, nb x (a 1) z.2.2.2.1, nb x (a 2) z.2.2.2.2.1, gb x (A 11) (A 13) r z.2.2.2.2.2.1, rowsB x r z.2.2.2.2.2.2.1, nb x (A 13) z.2.2.2.2.2.2.2]) (uX2_hoursPassed l x (A 2) u ) kX2_hoursPassed 0 rfl rfl rfl vX5_180 dX5_count_80 (by decide) rfl rfl (Nat.le_of_ble_eq_true rfl) (qm_1 14 2 [0, 1, 3, 4, 5, 6, 7, 8, 9, 10, 11, 12, 13] (by decide +kernel) rfl rfl rfl) rfl ?_
    refine j_perm (fl [ob A (ik, hr, ld), pb x (A 1) g, nb x (A 2) u, sb x (A 3) v, nb x (A 4) uk, sb x (A 5) vk, nb x (A 6) z.1, lb x (A 7) a z.2.1, nb x (a 0) z.2.2.1, nb x (a 1) z.2.2.2.1, nb x (a 2) z.2.2.2.2.1, gb x (A 11) (A 13) r z.2.2.2.2.2.1, rowsB x r z.2.2.2.2.2.2.1, nb x (A 13) z.2.2.2.2.2.2.2]) (qm_b 14 [1, 2, 0, 3, 4, 5, 6, 7, 8, 9, 10, 11, 12, 13] (by decide +kernel) rfl rfl) ?_
    rw [show kCount (ik, hr, ld) g u v e = nH u from by simp [kCount, s1_0, s1_1, s1_2, s1_3]]
    exact j_iret _ dX5_count_83 (List.Perm.refl _) ⟨rfl, (z.1, z.2.1, z.2.2.1, z.2.2.2.1, z.2.2.2.2.1, z.2.2.2.2.2.1, z.2.2.2.2.2.2.1, z.2.2.2.2.2.2.2), ⟨(by (try simp only [nN_ph, nN_lec, nN_cpy, nN_cof, nN_wak, nN_hrs]); omega), (by (try simp only [nN_ph, nN_lec, nN_cpy, nN_cof, nN_wak, nN_hrs]); omega), (by (try simp only [nN_ph, nN_lec, nN_cpy, nN_cof, nN_wak, nN_hrs]); omega), (by (try simp only [nN_ph, nN_lec, nN_cpy, nN_cof, nN_wak, nN_hrs]); omega), (by (try simp only [nN_ph, nN_lec, nN_cpy, nN_cof, nN_wak, nN_hrs]); omega)⟩, rfl⟩
  by_cases s1_4 : e = 4
  · refine j_tabC (4) 4 s1_4 (by decide) dX5_count_1 rfl (by decide : (1 : Int) + 83 = ((84 : Nat) : Int)) ?_
    refine j_aload_n 0 dX5_count_84 rfl rfl ?_
    refine j_get (v := .ref ((A 2) 0)) 0 dX5_count_85 fX5_19 rfl rfl ?_
    refine j_cVi (As := []) (rest := []) (wr := fl [ob A (ik, hr, ld), pb x (A 1) g, sb x (A 3) v, nb x (A 4) uk, sb x (A 5) vk, nb x (A 6) z.1, lb x (A 7) a z.2.1, nb x (a 0) z.2.2.1, nb x (a 1) z.2.2.2.1, nb x (a 2) z.2.2.2.2.1, gb x (A 11) (A 13) r z.2.2.2.2.2.1, rowsB x r z.2.2.2.2.2.2.1, nb x (A 13) z.2.2.2.2.2.2.2]) (ws' := fl [nb x (A 2) u, ob A (ik, hr, ld), pb x (A 1) g, sb x (A 3) v, nb x (A 4) uk, sb x (A 5) vk, nb x (A 6) z.1, lb x (A 7) a z.2.1, nb x (a 0) z.2.2.1, nb x (a 1) z.2.2.2.1, nb x (a 2) z.2.2.2.2.1, gb x (A 11) (A 13) r z.2.2.2.2.2.1, rowsB x r z.2.2.2.2.2.2.1, nb x (A 13) z.2.2.2.2.2.2.2]) (uX2_tiredTogether l x (A 2) u (by (try simp only [nN_ph, nN_lec, nN_cpy, nN_cof, nN_wak, nN_hrs]); omega)) kX2_tiredTogether 0 rfl rfl rfl vX5_186 dX5_count_88 (by decide) rfl rfl (Nat.le_of_ble_eq_true rfl) (qm_1 14 2 [0, 1, 3, 4, 5, 6, 7, 8, 9, 10, 11, 12, 13] (by decide +kernel) rfl rfl rfl) rfl ?_
    refine j_perm (fl [ob A (ik, hr, ld), pb x (A 1) g, nb x (A 2) u, sb x (A 3) v, nb x (A 4) uk, sb x (A 5) vk, nb x (A 6) z.1, lb x (A 7) a z.2.1, nb x (a 0) z.2.2.1, nb x (a 1) z.2.2.2.1, nb x (a 2) z.2.2.2.2.1, gb x (A 11) (A 13) r z.2.2.2.2.2.1, rowsB x r z.2.2.2.2.2.2.1, nb x (A 13) z.2.2.2.2.2.2.2]) (qm_b 14 [1, 2, 0, 3, 4, 5, 6, 7, 8, 9, 10, 11, 12, 13] (by decide +kernel) rfl rfl) ?_
    rw [show kCount (ik, hr, ld) g u v e = sumT u.2.1 (nN u) from by simp [kCount, s1_0, s1_1, s1_2, s1_3, s1_4]]
    exact j_iret _ dX5_count_91 (List.Perm.refl _) ⟨rfl, (z.1, z.2.1, z.2.2.1, z.2.2.2.1, z.2.2.2.2.1, z.2.2.2.2.2.1, z.2.2.2.2.2.2.1, z.2.2.2.2.2.2.2), ⟨(by (try simp only [nN_ph, nN_lec, nN_cpy, nN_cof, nN_wak, nN_hrs]); omega), (by (try simp only [nN_ph, nN_lec, nN_cpy, nN_cof, nN_wak, nN_hrs]); omega), (by (try simp only [nN_ph, nN_lec, nN_cpy, nN_cof, nN_wak, nN_hrs]); omega), (by (try simp only [nN_ph, nN_lec, nN_cpy, nN_cof, nN_wak, nN_hrs]); omega), (by (try simp only [nN_ph, nN_lec, nN_cpy, nN_cof, nN_wak, nN_hrs]); omega)⟩, rfl⟩
  by_cases s1_5 : e = 5
  · refine j_tabC (5) 5 s1_5 (by decide) dX5_count_1 rfl (by decide : (1 : Int) + 91 = ((92 : Nat) : Int)) ?_
    refine j_aload_n 0 dX5_count_92 rfl rfl ?_
    refine j_get (v := .ref ((A 3) 0)) 0 dX5_count_93 fX5_26 rfl rfl ?_
    refine j_cVi (As := []) (rest := []) (wr := fl [ob A (ik, hr, ld), pb x (A 1) g, nb x (A 2) u, nb x (A 4) uk, sb x (A 5) vk, nb x (A 6) z.1, lb x (A 7) a z.2.1, nb x (a 0) z.2.2.1, nb x (a 1) z.2.2.2.1, nb x (a 2) z.2.2.2.2.1, gb x (A 11) (A 13) r z.2.2.2.2.2.1, rowsB x r z.2.2.2.2.2.2.1, nb x (A 13) z.2.2.2.2.2.2.2]) (ws' := fl [sb x (A 3) v, ob A (ik, hr, ld), pb x (A 1) g, nb x (A 2) u, nb x (A 4) uk, sb x (A 5) vk, nb x (A 6) z.1, lb x (A 7) a z.2.1, nb x (a 0) z.2.2.1, nb x (a 1) z.2.2.2.1, nb x (a 2) z.2.2.2.2.1, gb x (A 11) (A 13) r z.2.2.2.2.2.1, rowsB x r z.2.2.2.2.2.2.1, nb x (A 13) z.2.2.2.2.2.2.2]) (uX4_size l x (A 3) v (by omega)) kX4_size 0 rfl rfl rfl vX5_162 dX5_count_96 (by decide) rfl rfl (Nat.le_of_ble_eq_true rfl) (qm_1 14 3 [0, 1, 2, 4, 5, 6, 7, 8, 9, 10, 11, 12, 13] (by decide +kernel) rfl rfl rfl) rfl ?_
    refine j_perm (fl [ob A (ik, hr, ld), pb x (A 1) g, nb x (A 2) u, sb x (A 3) v, nb x (A 4) uk, sb x (A 5) vk, nb x (A 6) z.1, lb x (A 7) a z.2.1, nb x (a 0) z.2.2.1, nb x (a 1) z.2.2.2.1, nb x (a 2) z.2.2.2.2.1, gb x (A 11) (A 13) r z.2.2.2.2.2.1, rowsB x r z.2.2.2.2.2.2.1, nb x (A 13) z.2.2.2.2.2.2.2]) (qm_b 14 [1, 2, 3, 0, 4, 5, 6, 7, 8, 9, 10, 11, 12, 13] (by decide +kernel) rfl rfl) ?_
    rw [show kCount (ik, hr, ld) g u v e = nI v.2.2 from by simp [kCount, s1_0, s1_1, s1_2, s1_3, s1_4, s1_5]]
    exact j_iret _ dX5_count_99 (List.Perm.refl _) ⟨rfl, (z.1, z.2.1, z.2.2.1, z.2.2.2.1, z.2.2.2.2.1, z.2.2.2.2.2.1, z.2.2.2.2.2.2.1, z.2.2.2.2.2.2.2), ⟨(by (try simp only [nN_ph, nN_lec, nN_cpy, nN_cof, nN_wak, nN_hrs]); omega), (by (try simp only [nN_ph, nN_lec, nN_cpy, nN_cof, nN_wak, nN_hrs]); omega), (by (try simp only [nN_ph, nN_lec, nN_cpy, nN_cof, nN_wak, nN_hrs]); omega), (by (try simp only [nN_ph, nN_lec, nN_cpy, nN_cof, nN_wak, nN_hrs]); omega), (by (try simp only [nN_ph, nN_lec, nN_cpy, nN_cof, nN_wak, nN_hrs]); omega)⟩, rfl⟩
  by_cases s1_6 : e = 6
  · refine j_tabC (6) 6 s1_6 (by decide) dX5_count_1 rfl (by decide : (1 : Int) + 99 = ((100 : Nat) : Int)) ?_
    refine j_aload_n 0 dX5_count_100 rfl rfl ?_
    refine j_get (v := .ref ((A 1) 0)) 0 dX5_count_101 fX5_10 rfl rfl ?_
    refine j_cVi (As := []) (rest := []) (wr := fl [ob A (ik, hr, ld), nb x (A 2) u, sb x (A 3) v, nb x (A 4) uk, sb x (A 5) vk, nb x (A 6) z.1, lb x (A 7) a z.2.1, nb x (a 0) z.2.2.1, nb x (a 1) z.2.2.2.1, nb x (a 2) z.2.2.2.2.1, gb x (A 11) (A 13) r z.2.2.2.2.2.1, rowsB x r z.2.2.2.2.2.2.1, nb x (A 13) z.2.2.2.2.2.2.2]) (ws' := fl [pb x (A 1) g, ob A (ik, hr, ld), nb x (A 2) u, sb x (A 3) v, nb x (A 4) uk, sb x (A 5) vk, nb x (A 6) z.1, lb x (A 7) a z.2.1, nb x (a 0) z.2.2.1, nb x (a 1) z.2.2.2.1, nb x (a 2) z.2.2.2.2.1, gb x (A 11) (A 13) r z.2.2.2.2.2.1, rowsB x r z.2.2.2.2.2.2.1, nb x (A 13) z.2.2.2.2.2.2.2]) (uX3_length l x (A 1) g (by omega)) kX3_length 0 rfl rfl rfl vX5_68 dX5_count_104 (by decide) rfl rfl (Nat.le_of_ble_eq_true rfl) (qm_1 14 1 [0, 2, 3, 4, 5, 6, 7, 8, 9, 10, 11, 12, 13] (by decide +kernel) rfl rfl rfl) rfl ?_
    refine j_perm (fl [ob A (ik, hr, ld), pb x (A 1) g, nb x (A 2) u, sb x (A 3) v, nb x (A 4) uk, sb x (A 5) vk, nb x (A 6) z.1, lb x (A 7) a z.2.1, nb x (a 0) z.2.2.1, nb x (a 1) z.2.2.2.1, nb x (a 2) z.2.2.2.2.1, gb x (A 11) (A 13) r z.2.2.2.2.2.1, rowsB x r z.2.2.2.2.2.2.1, nb x (A 13) z.2.2.2.2.2.2.2]) (qm_b 14 [1, 0, 2, 3, 4, 5, 6, 7, 8, 9, 10, 11, 12, 13] (by decide +kernel) rfl rfl) ?_
    rw [show kCount (ik, hr, ld) g u v e = nI g.2 from by simp [kCount, s1_0, s1_1, s1_2, s1_3, s1_4, s1_5, s1_6]]
    exact j_iret _ dX5_count_107 (List.Perm.refl _) ⟨rfl, (z.1, z.2.1, z.2.2.1, z.2.2.2.1, z.2.2.2.2.1, z.2.2.2.2.2.1, z.2.2.2.2.2.2.1, z.2.2.2.2.2.2.2), ⟨(by (try simp only [nN_ph, nN_lec, nN_cpy, nN_cof, nN_wak, nN_hrs]); omega), (by (try simp only [nN_ph, nN_lec, nN_cpy, nN_cof, nN_wak, nN_hrs]); omega), (by (try simp only [nN_ph, nN_lec, nN_cpy, nN_cof, nN_wak, nN_hrs]); omega), (by (try simp only [nN_ph, nN_lec, nN_cpy, nN_cof, nN_wak, nN_hrs]); omega), (by (try simp only [nN_ph, nN_lec, nN_cpy, nN_cof, nN_wak, nN_hrs]); omega)⟩, rfl⟩
  by_cases s1_7 : e = 7
  · refine j_tabC (7) 7 s1_7 (by decide) dX5_count_1 rfl (by decide : (1 : Int) + 107 = ((108 : Nat) : Int)) ?_
    refine j_aload_n 0 dX5_count_108 rfl rfl ?_
    refine j_get (v := .int (nI hr)) 0 dX5_count_109 fX5_57 rfl rfl ?_
    rw [show kCount (ik, hr, ld) g u v e = nI hr from by simp [kCount, s1_0, s1_1, s1_2, s1_3, s1_4, s1_5, s1_6, s1_7]]
    exact j_iret _ dX5_count_112 (List.Perm.refl _) ⟨rfl, (z.1, z.2.1, z.2.2.1, z.2.2.2.1, z.2.2.2.2.1, z.2.2.2.2.2.1, z.2.2.2.2.2.2.1, z.2.2.2.2.2.2.2), ⟨(by (try simp only [nN_ph, nN_lec, nN_cpy, nN_cof, nN_wak, nN_hrs]); omega), (by (try simp only [nN_ph, nN_lec, nN_cpy, nN_cof, nN_wak, nN_hrs]); omega), (by (try simp only [nN_ph, nN_lec, nN_cpy, nN_cof, nN_wak, nN_hrs]); omega), (by (try simp only [nN_ph, nN_lec, nN_cpy, nN_cof, nN_wak, nN_hrs]); omega), (by (try simp only [nN_ph, nN_lec, nN_cpy, nN_cof, nN_wak, nN_hrs]); omega)⟩, rfl⟩
  by_cases s1_8 : e = 8
  · refine j_tabC (8) 8 s1_8 (by decide) dX5_count_1 rfl (by decide : (1 : Int) + 112 = ((113 : Nat) : Int)) ?_
    refine j_aload_n 0 dX5_count_113 rfl rfl ?_
    refine j_get (v := .int (nI ld)) 0 dX5_count_114 fX5_61 rfl rfl ?_
    rw [show kCount (ik, hr, ld) g u v e = nI ld from by simp [kCount, s1_0, s1_1, s1_2, s1_3, s1_4, s1_5, s1_6, s1_7, s1_8]]
    exact j_iret _ dX5_count_117 (List.Perm.refl _) ⟨rfl, (z.1, z.2.1, z.2.2.1, z.2.2.2.1, z.2.2.2.2.1, z.2.2.2.2.2.1, z.2.2.2.2.2.2.1, z.2.2.2.2.2.2.2), ⟨(by (try simp only [nN_ph, nN_lec, nN_cpy, nN_cof, nN_wak, nN_hrs]); omega), (by (try simp only [nN_ph, nN_lec, nN_cpy, nN_cof, nN_wak, nN_hrs]); omega), (by (try simp only [nN_ph, nN_lec, nN_cpy, nN_cof, nN_wak, nN_hrs]); omega), (by (try simp only [nN_ph, nN_lec, nN_cpy, nN_cof, nN_wak, nN_hrs]); omega), (by (try simp only [nN_ph, nN_lec, nN_cpy, nN_cof, nN_wak, nN_hrs]); omega)⟩, rfl⟩
  refine j_tabD dX5_count_1 (fun j hj => match j, hj with | 0, _ => Or.inr (lv_neT s1_0 (by decide)) | 1, _ => Or.inr (lv_neT s1_1 (by decide)) | 2, _ => Or.inr (lv_neT s1_2 (by decide)) | 3, _ => Or.inr (lv_neT s1_3 (by decide)) | 4, _ => Or.inr (lv_neT s1_4 (by decide)) | 5, _ => Or.inr (lv_neT s1_5 (by decide)) | 6, _ => Or.inr (lv_neT s1_6 (by decide)) | 7, _ => Or.inr (lv_neT s1_7 (by decide)) | 8, _ => Or.inr (lv_neT s1_8 (by decide)) | j + 9, hj => absurd hj (by omega)) (by decide : (1 : Int) + 117 = ((118 : Nat) : Int)) ?_
  refine j_bipush (v := (-102)) dX5_count_118 (by decide) ?_
  rw [show kCount (ik, hr, ld) g u v e = (-102) from by simp [kCount, s1_0, s1_1, s1_2, s1_3, s1_4, s1_5, s1_6, s1_7, s1_8]]
  exact j_iret _ dX5_count_120 (List.Perm.refl _) ⟨rfl, (z.1, z.2.1, z.2.2.1, z.2.2.2.1, z.2.2.2.2.1, z.2.2.2.2.2.1, z.2.2.2.2.2.2.1, z.2.2.2.2.2.2.2), ⟨(by (try simp only [nN_ph, nN_lec, nN_cpy, nN_cof, nN_wak, nN_hrs]); omega), (by (try simp only [nN_ph, nN_lec, nN_cpy, nN_cof, nN_wak, nN_hrs]); omega), (by (try simp only [nN_ph, nN_lec, nN_cpy, nN_cof, nN_wak, nN_hrs]); omega), (by (try simp only [nN_ph, nN_lec, nN_cpy, nN_cof, nN_wak, nN_hrs]); omega), (by (try simp only [nN_ph, nN_lec, nN_cpy, nN_cof, nN_wak, nN_hrs]); omega)⟩, rfl⟩
