set_option maxHeartbeats 4000000 in
set_option maxRecDepth 100000 in
theorem lp_ie2 {M : Mx} (l : Launch) (x : Cx) (q : Nat → Nat) (u : NS) (v : SS) (g : PG) (pw : Bool × Nat) (kp : KS) (o : OS) (hk : okN u) (j : Nat) (hj : j < nN u) (cups many : Nat) (hcu : cups ≤ 4) (hm1 : 1 ≤ many) (hm6 : many ≤ 6) (R : Bool) {k0 n0 : Nat}  : ∀ (m : Nat) (k : Nat) (b : Bool) (w : NS), k ≤ many → R = (b && kbt (many - k) w j) → okN w → frm u w → many - k < m → J M l x cX6_isEnough 6 yX6_isEnough 2 (pM x q u v g pw kp o (bI R)) k0 n0 42 [(0, .ref (q 0)), (1, .int (nI j)), (2, .int (nI cups)), (3, .int (nI many)), (4, .int (bI b)), (5, .int (nI k))] [] (mb x q w v g pw kp (bgO u o)) := by
  intro m; induction m with
  | zero => intro k b w hc0 hc1 hc2 hc3 hm; exact absurd hm (Nat.not_lt_zero _)
  | succ m ih =>
    intro k b w hc0 hc1 hc2 hc3 hm
    have hn5 : nN u ≤ 5 := hk.1
    have hkw := hc2
    have hfw := hc3
    refine j_iload 5 dX6_isEnough_42 rfl ?_
    refine j_iload_n 3 dX6_isEnough_44 rfl rfl ?_
    refine j_icmpN_ge (a := k) (b := many) (by omega) (by omega) (tgt := 78) dX6_isEnough_45 (by decide) (fun h45 => ?_) (fun h45 => ?_)
    · skip
      refine j_aload_n 0 dX6_isEnough_78 rfl rfl ?_
      refine j_cVv (As := []) (rest := []) (wr := []) (ws' := mb x q (enU w (bgO u o)) v g pw kp (bgO u o)) (uX6_end l x q w v g pw kp (bgO u o) ) kX6_end 0 rfl rfl rfl vX6_135 dX6_isEnough_79 (by decide) rfl rfl (Nat.le_of_ble_eq_true rfl) (pm_0 _) (List.append_nil _) ?_
      refine j_iload 4 dX6_isEnough_82 rfl ?_
      exact j_iret _ dX6_isEnough_84 (List.Perm.refl _) ⟨by rw [hc1, show many - k = 0 by omega]; simp [kbt], ⟨(enU w (bgO u o)), (bgO u o), sim_bg hk.1 hfw, rfl⟩⟩
    · skip
      refine j_aload_n 0 dX6_isEnough_48 rfl rfl ?_
      refine j_cVv (As := []) (rest := []) (wr := []) (ws' := mb x q (ph w) v g pw kp (bgO u o)) (uX6_goHour l x q w v g pw kp (bgO u o) hkw) kX6_goHour 0 rfl rfl rfl vX6_126 dX6_isEnough_49 (by decide) rfl rfl (Nat.le_of_ble_eq_true rfl) (pm_0 _) (List.append_nil _) ?_
      refine j_iload 4 dX6_isEnough_52 rfl ?_
      refine j_ifb_eq (b := b) (tgt := 69) dX6_isEnough_54 (by decide) (fun h54 => ?_) (fun h54 => ?_)
      · skip
        refine j_iconst (v := bI false) dX6_isEnough_69 (by decide) ?_
        refine j_istore (lv' := [(4, .int (bI false)), (0, .ref (q 0)), (1, .int (nI j)), (2, .int (nI cups)), (3, .int (nI many)), (5, .int (nI k))]) dX6_isEnough_70 (by decide) rfl ?_
        refine j_iinc (v := nI (k + 1)) (lv' := [(5, .int (nI (k + 1))), (4, .int (bI false)), (0, .ref (q 0)), (1, .int (nI j)), (2, .int (nI cups)), (3, .int (nI many))]) 5 dX6_isEnough_72 rfl (nI_1 k) (by decide) rfl ?_
        refine j_goto (tgt := 42) dX6_isEnough_75 (by decide) ?_
        refine j_lv [2, 3, 4, 5, 1, 0] (lv' := [(0, .ref (q 0)), (1, .int (nI j)), (2, .int (nI cups)), (3, .int (nI many)), (4, .int (bI false)), (5, .int (nI (k + 1)))]) rfl ?_
        exact ih (k + 1) false (ph w) (by omega) (by rw [hc1, show many - k = (many - (k + 1)) + 1 by omega, kbt]; first | (simp [h54]; done) | (simp [h54, eb]; done)) (okN_ph hkw) (frm.ph hfw) (by omega)
      · skip
        refine j_aload_n 0 dX6_isEnough_57 rfl rfl ?_
        refine j_cVi (As := []) (rest := []) (wr := []) (ws' := mb x q (ph w) v g pw kp (bgO u o)) (uX6_whose l x q (ph w) v g pw kp (bgO u o) (okN_ph hkw)) kX6_whose 0 rfl rfl rfl vX6_92 dX6_isEnough_58 (by decide) rfl rfl (Nat.le_of_ble_eq_true rfl) (pm_0 _) (List.append_nil _) ?_
        refine j_iload_n 1 dX6_isEnough_61 rfl rfl ?_
        refine j_icmp_ne (tgt := 69) dX6_isEnough_62 (by decide) (fun h62 => ?_) (fun h62 => ?_)
        · skip
          have eb : (wbU (ph w) == some j) = false := wq_f ((okN_ph hkw)).1 (by omega) h62
          refine j_iconst (v := bI false) dX6_isEnough_69 (by decide) ?_
          refine j_istore (lv' := [(4, .int (bI false)), (0, .ref (q 0)), (1, .int (nI j)), (2, .int (nI cups)), (3, .int (nI many)), (5, .int (nI k))]) dX6_isEnough_70 (by decide) rfl ?_
          refine j_iinc (v := nI (k + 1)) (lv' := [(5, .int (nI (k + 1))), (4, .int (bI false)), (0, .ref (q 0)), (1, .int (nI j)), (2, .int (nI cups)), (3, .int (nI many))]) 5 dX6_isEnough_72 rfl (nI_1 k) (by decide) rfl ?_
          refine j_goto (tgt := 42) dX6_isEnough_75 (by decide) ?_
          refine j_lv [2, 3, 4, 5, 1, 0] (lv' := [(0, .ref (q 0)), (1, .int (nI j)), (2, .int (nI cups)), (3, .int (nI many)), (4, .int (bI false)), (5, .int (nI (k + 1)))]) rfl ?_
          exact ih (k + 1) false (ph w) (by omega) (by rw [hc1, show many - k = (many - (k + 1)) + 1 by omega, kbt]; first | (simp [h54]; done) | (simp [h54, eb]; done)) (okN_ph hkw) (frm.ph hfw) (by omega)
        · skip
          have eb : (wbU (ph w) == some j) = true := wq_t ((okN_ph hkw)).1 (by omega) h62
          refine j_iconst (v := bI true) dX6_isEnough_65 (by decide) ?_
          refine j_goto (tgt := 70) dX6_isEnough_66 (by decide) ?_
          refine j_istore (lv' := [(4, .int (bI true)), (0, .ref (q 0)), (1, .int (nI j)), (2, .int (nI cups)), (3, .int (nI many)), (5, .int (nI k))]) dX6_isEnough_70 (by decide) rfl ?_
          refine j_iinc (v := nI (k + 1)) (lv' := [(5, .int (nI (k + 1))), (4, .int (bI true)), (0, .ref (q 0)), (1, .int (nI j)), (2, .int (nI cups)), (3, .int (nI many))]) 5 dX6_isEnough_72 rfl (nI_1 k) (by decide) rfl ?_
          refine j_goto (tgt := 42) dX6_isEnough_75 (by decide) ?_
          refine j_lv [2, 3, 4, 5, 1, 0] (lv' := [(0, .ref (q 0)), (1, .int (nI j)), (2, .int (nI cups)), (3, .int (nI many)), (4, .int (bI true)), (5, .int (nI (k + 1)))]) rfl ?_
          exact ih (k + 1) true (ph w) (by omega) (by rw [hc1, show many - k = (many - (k + 1)) + 1 by omega, kbt]; first | (simp [h54]; done) | (simp [h54, eb]; done)) (okN_ph hkw) (frm.ph hfw) (by omega)
set_option maxHeartbeats 4000000 in
set_option maxRecDepth 100000 in
theorem lp_ie1 {M : Mx} (l : Launch) (x : Cx) (q : Nat → Nat) (u : NS) (v : SS) (g : PG) (pw : Bool × Nat) (kp : KS) (o : OS) (hk : okN u) (j : Nat) (hj : j < nN u) (cups many : Nat) (hcu : cups ≤ 4) (hm1 : 1 ≤ many) (hm6 : many ≤ 6) {k0 n0 : Nat}  : ∀ (m : Nat) (k : Nat), k ≤ cups → cups - k < m → J M l x cX6_isEnough 6 yX6_isEnough 2 (pM x q u v g pw kp o (bI (kb (many - 1) (cfs cups u j) j))) k0 n0 7 [(0, .ref (q 0)), (1, .int (nI j)), (2, .int (nI cups)), (3, .int (nI many)), (4, .int (nI k))] [] (mb x q (cfs k u j) v g pw kp (bgO u o)) := by
  intro m; induction m with
  | zero => intro k hc0 hm; exact absurd hm (Nat.not_lt_zero _)
  | succ m ih =>
    intro k hc0 hm
    have hn5 : nN u ≤ 5 := hk.1
    refine j_iload 4 dX6_isEnough_7 rfl ?_
    refine j_iload_n 2 dX6_isEnough_9 rfl rfl ?_
    refine j_icmpN_ge (a := k) (b := cups) (by omega) (by omega) (tgt := 24) dX6_isEnough_10 (by decide) (fun h10 => ?_) (fun h10 => ?_)
    · skip
      refine j_aload_n 0 dX6_isEnough_24 rfl rfl ?_
      refine j_cVi (As := []) (rest := []) (wr := []) (ws' := mb x q (cfs k u j) v g pw kp (bgO u o)) (uX6_whose l x q (cfs k u j) v g pw kp (bgO u o) (okN_cfs hk j (by (try simp only [nN_ph, nN_lec, nN_cof, nN_cfs, nN_hrs, nN_wak]); omega) k)) kX6_whose 0 rfl rfl rfl vX6_92 dX6_isEnough_25 (by decide) rfl rfl (Nat.le_of_ble_eq_true rfl) (pm_0 _) (List.append_nil _) ?_
      refine j_iload_n 1 dX6_isEnough_28 rfl rfl ?_
      refine j_icmp_ne (tgt := 36) dX6_isEnough_29 (by decide) (fun h29 => ?_) (fun h29 => ?_)
      · skip
        have eb : (wbU (cfs k u j) == some j) = false := wq_f ((okN_cfs hk j (by (try simp only [nN_ph, nN_lec, nN_cof, nN_cfs, nN_hrs, nN_wak]); omega) k)).1 (by omega) h29
        refine j_iconst (v := bI false) dX6_isEnough_36 (by decide) ?_
        refine j_istore (lv' := [(4, .int (bI false)), (0, .ref (q 0)), (1, .int (nI j)), (2, .int (nI cups)), (3, .int (nI many))]) dX6_isEnough_37 (by decide) rfl ?_
        refine j_iconst (v := nI 1) dX6_isEnough_39 (by decide) ?_
        refine j_istore (lv' := [(5, .int (nI 1)), (4, .int (bI false)), (0, .ref (q 0)), (1, .int (nI j)), (2, .int (nI cups)), (3, .int (nI many))]) dX6_isEnough_40 (by decide) rfl ?_
        refine j_lv [2, 3, 4, 5, 1, 0] (lv' := [(0, .ref (q 0)), (1, .int (nI j)), (2, .int (nI cups)), (3, .int (nI many)), (4, .int (bI false)), (5, .int (nI 1))]) rfl ?_
        exact lp_ie2 l x q u v g pw kp o hk j hj cups many hcu hm1 hm6 _ (many + 1) 1 false (cfs k u j) (by omega) (by rw [show cups = k by omega, kb_kbt, eb]) (okN_cfs hk j (by (try simp only [nN_ph, nN_lec, nN_cof, nN_cfs, nN_hrs, nN_wak]); omega) k) (frm.cfs (frm.rf u) j k) (by omega)
      · skip
        have eb : (wbU (cfs k u j) == some j) = true := wq_t ((okN_cfs hk j (by (try simp only [nN_ph, nN_lec, nN_cof, nN_cfs, nN_hrs, nN_wak]); omega) k)).1 (by omega) h29
        refine j_iconst (v := bI true) dX6_isEnough_32 (by decide) ?_
        refine j_goto (tgt := 37) dX6_isEnough_33 (by decide) ?_
        refine j_istore (lv' := [(4, .int (bI true)), (0, .ref (q 0)), (1, .int (nI j)), (2, .int (nI cups)), (3, .int (nI many))]) dX6_isEnough_37 (by decide) rfl ?_
        refine j_iconst (v := nI 1) dX6_isEnough_39 (by decide) ?_
        refine j_istore (lv' := [(5, .int (nI 1)), (4, .int (bI true)), (0, .ref (q 0)), (1, .int (nI j)), (2, .int (nI cups)), (3, .int (nI many))]) dX6_isEnough_40 (by decide) rfl ?_
        refine j_lv [2, 3, 4, 5, 1, 0] (lv' := [(0, .ref (q 0)), (1, .int (nI j)), (2, .int (nI cups)), (3, .int (nI many)), (4, .int (bI true)), (5, .int (nI 1))]) rfl ?_
        exact lp_ie2 l x q u v g pw kp o hk j hj cups many hcu hm1 hm6 _ (many + 1) 1 true (cfs k u j) (by omega) (by rw [show cups = k by omega, kb_kbt, eb]) (okN_cfs hk j (by (try simp only [nN_ph, nN_lec, nN_cof, nN_cfs, nN_hrs, nN_wak]); omega) k) (frm.cfs (frm.rf u) j k) (by omega)
    · skip
      refine j_aload_n 0 dX6_isEnough_13 rfl rfl ?_
      refine j_iload_n 1 dX6_isEnough_14 rfl rfl ?_
      refine j_cVv (As := [.int (nI j)]) (rest := []) (wr := []) (ws' := mb x q (cof (cfs k u j) j) v g pw kp (bgO u o)) (uX6_drink l x q (cfs k u j) v g pw kp (bgO u o) (okN_cfs hk j (by (try simp only [nN_ph, nN_lec, nN_cof, nN_cfs, nN_hrs, nN_wak]); omega) k) j (by (try simp only [nN_ph, nN_lec, nN_cof, nN_cfs, nN_hrs, nN_wak]); omega)) kX6_drink 0 rfl rfl rfl vX6_120 dX6_isEnough_15 (by decide) rfl rfl (Nat.le_of_ble_eq_true rfl) (pm_0 _) (List.append_nil _) ?_
      refine j_iinc (v := nI (k + 1)) (lv' := [(4, .int (nI (k + 1))), (0, .ref (q 0)), (1, .int (nI j)), (2, .int (nI cups)), (3, .int (nI many))]) 4 dX6_isEnough_18 rfl (nI_1 k) (by decide) rfl ?_
      refine j_goto (tgt := 7) dX6_isEnough_21 (by decide) ?_
      refine j_lv [1, 2, 3, 4, 0] (lv' := [(0, .ref (q 0)), (1, .int (nI j)), (2, .int (nI cups)), (3, .int (nI many)), (4, .int (nI (k + 1)))]) rfl ?_
      exact ih (k + 1) (by omega) (by omega)
set_option maxHeartbeats 4000000 in
set_option maxRecDepth 100000 in
theorem tX6_isEnough (l : Launch) (x : Cx) (q : Nat → Nat) (u : NS) (v : SS) (g : PG) (pw : Bool × Nat) (kp : KS) (o : OS) (hk : okN u) (j : Nat) (hj : j < nN u) (cups many : Nat) (hcu : cups ≤ 4) (hm1 : 1 ≤ many) (hm6 : many ≤ 6) : MC l x 2 0 0 yX6_isEnough cX6_isEnough 6 (some .boolean) [.ref (q 0), .int (nI j), .int (nI cups), .int (nI many)] (mb x q u v g pw kp o) (pM x q u v g pw kp o (bI (kb (many - 1) (cfs cups u j) j))) := by
  refine MC.of (by decide) (Nat.le_of_ble_eq_true rfl) eXB_fit (fun M => ?_)
  show J M l x cX6_isEnough 6 yX6_isEnough 2 (pM x q u v g pw kp o (bI (kb (many - 1) (cfs cups u j) j))) 0 0 0 [(0, .ref (q 0)), (1, .int (nI j)), (2, .int (nI cups)), (3, .int (nI many))] [] (mb x q u v g pw kp o)
  have hn5 : nN u ≤ 5 := hk.1
  refine j_aload_n 0 dX6_isEnough_0 rfl rfl ?_
  refine j_cVv (As := []) (rest := []) (wr := []) (ws' := mb x q u v g pw kp (bgO u o)) (uX6_begin l x q u v g pw kp o ) kX6_begin 0 rfl rfl rfl vX6_132 dX6_isEnough_1 (by decide) rfl rfl (Nat.le_of_ble_eq_true rfl) (pm_0 _) (List.append_nil _) ?_
  refine j_iconst (v := nI 0) dX6_isEnough_4 (by decide) ?_
  refine j_istore (lv' := [(4, .int (nI 0)), (0, .ref (q 0)), (1, .int (nI j)), (2, .int (nI cups)), (3, .int (nI many))]) dX6_isEnough_5 (by decide) rfl ?_
  refine j_lv [1, 2, 3, 4, 0] (lv' := [(0, .ref (q 0)), (1, .int (nI j)), (2, .int (nI cups)), (3, .int (nI many)), (4, .int (nI 0))]) rfl ?_
  exact lp_ie1 l x q u v g pw kp o hk j hj cups many hcu hm1 hm6 (cups + 1) 0 (by omega) (by omega)
set_option maxHeartbeats 4000000 in
set_option maxRecDepth 100000 in
theorem lp_cn {M : Mx} (l : Launch) (x : Cx) (q : Nat → Nat) (u : NS) (v : SS) (g : PG) (pw : Bool × Nat) (kp : KS) (o : OS) (hk : okN u) (j : Nat) (hj : j < nN u) (many : Nat) (hm1 : 1 ≤ many) (hm6 : many ≤ 6) (r : Option Nat) {k0 n0 : Nat}  : ∀ (m : Nat) (c : Nat) (u' : NS) (o' : OS), c ≤ 5 → fcr u j many (5 - c) c = r → sim u o u' o' → 5 - c < m → J M l x cX6_cupsNow 4 yX6_cupsNow 3 (pM x q u v g pw kp o (oI r)) k0 n0 2 [(0, .ref (q 0)), (1, .int (nI j)), (2, .int (nI many)), (3, .int (nI c))] [] (mb x q u' v g pw kp o') := by
  intro m; induction m with
  | zero => intro c u' o' hc0 hc1 hc2 hm; exact absurd hm (Nat.not_lt_zero _)
  | succ m ih =>
    intro c u' o' hc0 hc1 hc2 hm
    have hn5 : nN u ≤ 5 := hk.1
    have hku' : okN u' := okN_eq hc2.1.symm hk
    have hnn := hc2.1.nE
    refine j_iload_n 3 dX6_cupsNow_2 rfl rfl ?_
    refine j_iconst (v := 4) dX6_cupsNow_3 (by decide) ?_
    refine j_icmpN_gt (a := c) (b := 4) (by omega) (by omega) (tgt := 25) dX6_cupsNow_4 (by decide) (fun h4 => ?_) (fun h4 => ?_)
    · skip
      refine j_iconst (v := (-1)) dX6_cupsNow_25 (by decide) ?_
      exact j_iret _ dX6_cupsNow_26 (List.Perm.refl _) ⟨by rw [← hc1, show 5 - c = 0 by omega]; rfl, u', o', hc2, rfl⟩
    · skip
      refine j_aload_n 0 dX6_cupsNow_7 rfl rfl ?_
      refine j_iload_n 1 dX6_cupsNow_8 rfl rfl ?_
      refine j_iload_n 3 dX6_cupsNow_9 rfl rfl ?_
      refine j_iload_n 2 dX6_cupsNow_10 rfl rfl ?_
      refine j_callV (As := [.int (nI j), .int (nI c), .int (nI many)]) (rest := []) (wr := []) (tX6_isEnough l x q u' v g pw kp o' hku' j (by (try simp only [nN_ph, nN_lec, nN_cof, nN_cfs, nN_hrs, nN_wak]); omega) c many (by omega) (by omega) (by omega)) kX6_isEnough vX6_138 0 rfl rfl rfl dX6_cupsNow_11 (by decide) (Nat.le_of_eq (Nat.zero_add _)) (Nat.le_of_eq (Nat.zero_add _)) rfl rfl (Nat.le_of_ble_eq_true rfl) (pm_0 _) (fun v9 w9 hv9 => ?_)
      obtain ⟨rfl, u19, o19, hs19, rfl⟩ := hv9
      refine j_eq (lv' := [(0, .ref (q 0)), (1, .int (nI j)), (2, .int (nI many)), (3, .int (nI c))]) (st' := [.int (bI (kb (many - 1) (cfs c u' j) j))]) (ws' := mb x q u19 v g pw kp o19) rfl rfl (List.append_nil _) ?_
      have hku19 : okN u19 := okN_eq hs19.1.symm hku'
      refine j_topi (b := bI (kb (many - 1) (cfs c u j) j)) (congrArg bI ((hc2.1.fE (by omega) c).bE)) ?_
      refine j_ifb_eq (b := kb (many - 1) (cfs c u j) j) (tgt := 19) dX6_cupsNow_14 (by decide) (fun h14 => ?_) (fun h14 => ?_)
      · skip
        refine j_iinc (v := nI (c + 1)) (lv' := [(3, .int (nI (c + 1))), (0, .ref (q 0)), (1, .int (nI j)), (2, .int (nI many))]) 3 dX6_cupsNow_19 rfl (nI_1 c) (by decide) rfl ?_
        refine j_goto (tgt := 2) dX6_cupsNow_22 (by decide) ?_
        refine j_lv [1, 2, 3, 0] (lv' := [(0, .ref (q 0)), (1, .int (nI j)), (2, .int (nI many)), (3, .int (nI (c + 1)))]) rfl ?_
        exact ih (c + 1) u19 o19 (by omega) (by rw [← hc1, show 5 - c = (5 - (c + 1)) + 1 by omega, fcr, if_neg (by rw [h14]; decide)]) (hc2.trans hs19) (by omega)
      · skip
        refine j_iload_n 3 dX6_cupsNow_17 rfl rfl ?_
        exact j_iret _ dX6_cupsNow_18 (List.Perm.refl _) ⟨by rw [← hc1, show 5 - c = (5 - (c + 1)) + 1 by omega, fcr, if_pos h14]; rfl, u19, o19, hc2.trans hs19, rfl⟩
set_option maxHeartbeats 4000000 in
set_option maxRecDepth 100000 in
theorem tX6_cupsNow (l : Launch) (x : Cx) (q : Nat → Nat) (u : NS) (v : SS) (g : PG) (pw : Bool × Nat) (kp : KS) (o : OS) (hk : okN u) (j : Nat) (hj : j < nN u) (many : Nat) (hm1 : 1 ≤ many) (hm6 : many ≤ 6) : MC l x 3 0 0 yX6_cupsNow cX6_cupsNow 4 (some .int) [.ref (q 0), .int (nI j), .int (nI many)] (mb x q u v g pw kp o) (pM x q u v g pw kp o (oI (fcU u j many))) := by
  refine MC.of (by decide) (Nat.le_of_ble_eq_true rfl) eXI_fit (fun M => ?_)
  show J M l x cX6_cupsNow 4 yX6_cupsNow 3 (pM x q u v g pw kp o (oI (fcU u j many))) 0 0 0 [(0, .ref (q 0)), (1, .int (nI j)), (2, .int (nI many))] [] (mb x q u v g pw kp o)
  have hn5 : nN u ≤ 5 := hk.1
  refine j_iconst (v := nI 0) dX6_cupsNow_0 (by decide) ?_
  refine j_istore_n (lv' := [(3, .int (nI 0)), (0, .ref (q 0)), (1, .int (nI j)), (2, .int (nI many))]) dX6_cupsNow_1 rfl (by decide) rfl ?_
  refine j_lv [1, 2, 3, 0] (lv' := [(0, .ref (q 0)), (1, .int (nI j)), (2, .int (nI many)), (3, .int (nI 0))]) rfl ?_
  exact lp_cn l x q u v g pw kp o hk j hj many hm1 hm6 _ 6 0 u o (by omega) rfl (sim.rf u o) (by omega)
set_option maxHeartbeats 4000000 in
set_option maxRecDepth 100000 in
theorem tX6_cups (l : Launch) (x : Cx) (q : Nat → Nat) (u : NS) (v : SS) (g : PG) (pw : Bool × Nat) (kp : KS) (o : OS) (hk : okN u) (l9 e : Int32) : MC l x 4 0 0 yX6_cups cX6_cups 3 (some .int) [.ref (q 0), .int l9, .int e] (mb x q u v g pw kp o) (pM x q u v g pw kp o (kCups u l9 e)) := by
  refine MC.of (by decide) (Nat.le_of_ble_eq_true rfl) eXI_fit (fun M => ?_)
  show J M l x cX6_cups 3 yX6_cups 4 (pM x q u v g pw kp o (kCups u l9 e)) 0 0 0 [(0, .ref (q 0)), (1, .int l9), (2, .int e)] [] (mb x q u v g pw kp o)
  have hn5 : nN u ≤ 5 := hk.1
  refine j_aload_n 0 dX6_cups_0 rfl rfl ?_
  refine j_iload_n 1 dX6_cups_1 rfl rfl ?_
  refine j_cVi (As := [.int l9]) (rest := []) (wr := []) (ws' := mb x q u v g pw kp o) (uX6_isLodger l x q u v g pw kp o (hk).1 l9) kX6_isLodger 0 rfl rfl rfl vX6_112 dX6_cups_2 (by decide) rfl rfl (Nat.le_of_ble_eq_true rfl) (pm_0 _) (List.append_nil _) ?_
  refine j_ifb_ne (b := kn (nN u) l9) (tgt := 11) dX6_cups_5 (by decide) (fun h5 => ?_) (fun h5 => ?_)
  · skip
    obtain ⟨j, hj, rfl, hjc⟩ := kn_j h5 (by omega)
    refine j_iload_n 2 dX6_cups_11 rfl rfl ?_
    refine j_iconst (v := 1) dX6_cups_12 (by decide) ?_
    refine j_bipush (v := 6) dX6_cups_13 (by decide) ?_
    refine j_cSi (As := [.int e, .int 1, .int 6]) (rest := []) (wr := mb x q u v g pw kp o) (ws' := mb x q u v g pw kp o) (tX6_within l x e 1 6) kX6_within sX6_51 dX6_cups_15 (by decide) rfl rfl (Nat.le_of_ble_eq_true rfl) (List.Perm.refl _) rfl ?_
    refine j_ifb_ne (b := isW e 1 6) (tgt := 24) dX6_cups_18 (by decide) (fun h18 => ?_) (fun h18 => ?_)
    · skip
      obtain ⟨hh, hlo, hhi, rfl⟩ := isW_nat (lo := 1) (hi := 6) (by decide) (by decide) h18
      have hhc : (nI hh).toNatClampNeg = hh := nI_clamp (by omega)
      refine j_aload_n 0 dX6_cups_24 rfl rfl ?_
      refine j_get (v := .ref (q 3)) 0 dX6_cups_25 fX6_16 rfl rfl ?_
      refine j_iload_n 1 dX6_cups_28 rfl rfl ?_
      refine j_zaldB (i := j) (f := u.2.2.1) 3 dX6_cups_29 rfl (by omega) (by decide) ?_
      refine j_ifb_eq (b := u.2.2.1 j) (tgt := 38) dX6_cups_30 (by decide) (fun h30 => ?_) (fun h30 => ?_)
      · skip
        refine j_aload_n 0 dX6_cups_38 rfl rfl ?_
        refine j_iload_n 1 dX6_cups_39 rfl rfl ?_
        refine j_iload_n 2 dX6_cups_40 rfl rfl ?_
        refine j_callV (As := [.int (nI j), .int (nI hh)]) (rest := []) (wr := []) (tX6_cupsNow l x q u v g pw kp o hk j (by (try simp only [nN_ph, nN_lec, nN_cof, nN_cfs, nN_hrs, nN_wak]); omega) hh (by omega) (by omega)) kX6_cupsNow vX6_141 0 rfl rfl rfl dX6_cups_41 (by decide) (Nat.le_of_eq (Nat.zero_add _)) (Nat.le_of_eq (Nat.zero_add _)) rfl rfl (Nat.le_of_ble_eq_true rfl) (pm_0 _) (fun v9 w9 hv9 => ?_)
        obtain ⟨rfl, u19, o19, hs19, rfl⟩ := hv9
        refine j_eq (lv' := [(0, .ref (q 0)), (1, .int (nI j)), (2, .int (nI hh))]) (st' := [.int (oI (fcU u j hh))]) (ws' := mb x q u19 v g pw kp o19) rfl rfl (List.append_nil _) ?_
        have hku19 : okN u19 := okN_eq hs19.1.symm hk
        exact j_iret _ dX6_cups_44 (List.Perm.refl _) ⟨by simp [kCups, h5, hjc, h18, hhc, h30], u19, o19, hs19, rfl⟩
      · skip
        refine j_bipush (v := (-103)) dX6_cups_33 (by decide) ?_
        refine j_goto (tgt := 44) dX6_cups_35 (by decide) ?_
        exact j_iret _ dX6_cups_44 (List.Perm.refl _) ⟨by simp [kCups, h5, hjc, h18, hhc, h30], u, o, sim.rf u o, rfl⟩
    · skip
      refine j_bipush (v := (-102)) dX6_cups_21 (by decide) ?_
      exact j_iret _ dX6_cups_23 (List.Perm.refl _) ⟨by simp [kCups, h5, hjc, h18], u, o, sim.rf u o, rfl⟩
  · skip
    refine j_bipush (v := (-101)) dX6_cups_8 (by decide) ?_
    exact j_iret _ dX6_cups_10 (List.Perm.refl _) ⟨by simp [kCups, h5], u, o, sim.rf u o, rfl⟩
