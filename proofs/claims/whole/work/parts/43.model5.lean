set_option maxHeartbeats 4000000 in
set_option maxRecDepth 100000 in
theorem tX6_draw (l : Launch) (x : Cx) (q : Nat → Nat) (u : NS) (v : SS) (g : PG) (pw : Bool × Nat) (kp : KS) (o : OS) (s : Int32) (n : Nat) (h0 : 0 < n) (hn : n < 2 ^ 31) : MC l x 0 0 0 yX6_draw cX6_draw 2 (some .int) [.ref (q 0), .int (nI n)] (mb x q u v g pw kp (setS o s.toInt64)) (eI (nI (drN (nxS s) n)) (mb x q u v g pw kp (setS o (nxS s).toInt64))) := by
  refine MC.of (by decide) (Nat.le_of_ble_eq_true rfl) eI_fit (fun M => ?_)
  show J M l x cX6_draw 2 yX6_draw 0 (eI (nI (drN (nxS s) n)) (mb x q u v g pw kp (setS o (nxS s).toInt64))) 0 0 0 [(0, .ref (q 0)), (1, .int (nI n))] [] (mb x q u v g pw kp (setS o s.toInt64))
  refine j_aload_n 0 dX6_draw_0 rfl rfl ?_
  refine j_ldc2 dX6_draw_1 pX6_177 ?_
  refine j_aload_n 0 dX6_draw_4 rfl rfl ?_
  refine j_get (v := .long ((setS o s.toInt64).2.2.2.2.2.1)) 0 dX6_draw_5 fX6_179 rfl rfl ?_
  refine j_lmul dX6_draw_8 ?_
  refine j_ldc2 dX6_draw_9 pX6_183 ?_
  refine j_ladd dX6_draw_12 ?_
  refine j_ldc2 dX6_draw_13 pX6_185 ?_
  refine j_land dX6_draw_16 ?_
  refine j_put (v := .long (((1103515245 * ((setS o s.toInt64).2.2.2.2.2.1)) + 12345) &&& 2147483647)) (ws' := mb x q u v g pw kp ((setS o s.toInt64).1, (setS o s.toInt64).2.1, (setS o s.toInt64).2.2.1, (setS o s.toInt64).2.2.2.1, (setS o s.toInt64).2.2.2.2.1, ((1103515245 * ((setS o s.toInt64).2.2.2.2.2.1)) + 12345) &&& 2147483647, (setS o s.toInt64).2.2.2.2.2.2)) 0 dX6_draw_17 fX6_179 rfl rfl rfl (Nat.le_of_ble_eq_true rfl) rfl ?_
  refine j_aload_n 0 dX6_draw_20 rfl rfl ?_
  refine j_get (v := .long (((1103515245 * ((setS o s.toInt64).2.2.2.2.2.1)) + 12345) &&& 2147483647)) 0 dX6_draw_21 fX6_179 rfl rfl ?_
  refine j_ldc2 dX6_draw_24 pX6_187 ?_
  refine j_ldiv dX6_draw_27 (by decide) ?_
  refine j_iload_n 1 dX6_draw_28 rfl rfl ?_
  refine j_i2l dX6_draw_29 ?_
  refine j_lrem dX6_draw_30 (lg_n0 h0 hn) ?_
  refine j_l2i dX6_draw_31 ?_
  exact j_iret _ dX6_draw_32 (List.Perm.refl _) ⟨by rw [show ((setS o s.toInt64).2.2.2.2.2.1 : Int64) = s.toInt64 from rfl, nx_long, dr_long (nxS_nn s) h0 hn], by (rw [show ((setS o s.toInt64).2.2.2.2.2.1 : Int64) = s.toInt64 from rfl, nx_long]; rfl)⟩
theorem isW2 {e : Int32} (h : isW e 0 2 = true) (h0 : ¬ e = 0) (h1 : ¬ e = 1) : e = 2 := by
  obtain ⟨k, _, hk, rfl⟩ := isW_nat (lo := 0) (hi := 2) (by decide) (by decide) h
  have a : ¬ k = 0 := fun z => h0 (by rw [z]; rfl)
  have b : ¬ k = 1 := fun z => h1 (by rw [z]; rfl)
  rw [show k = 2 by omega]; rfl
theorem isW6 {e : Int32} (h : isW e 0 6 = true) (h0 : ¬ e = 0) (h1 : ¬ e = 1) (h2 : ¬ e = 2) (h3 : ¬ e = 3) (h4 : ¬ e = 4) (h5 : ¬ e = 5) : e = 6 := by
  obtain ⟨k, _, hk, rfl⟩ := isW_nat (lo := 0) (hi := 6) (by decide) (by decide) h
  have a0 : ¬ k = 0 := fun z => h0 (by rw [z]; rfl)
  have a1 : ¬ k = 1 := fun z => h1 (by rw [z]; rfl)
  have a2 : ¬ k = 2 := fun z => h2 (by rw [z]; rfl)
  have a3 : ¬ k = 3 := fun z => h3 (by rw [z]; rfl)
  have a4 : ¬ k = 4 := fun z => h4 (by rw [z]; rfl)
  have a5 : ¬ k = 5 := fun z => h5 (by rw [z]; rfl)
  rw [show k = 6 by omega]; rfl
set_option maxHeartbeats 4000000 in
set_option maxRecDepth 100000 in
theorem lp_nn {M : Mx} (l : Launch) (x : Cx) (q : Nat → Nat) (u : NS) (v : SS) (g : PG) (pw : Bool × Nat) (kp : KS) (o : OS) (hk : okN u) (h0 : 0 < nN u) (hh : Nat) (hhi : hh ≤ 60) (e : Int32) (he : isW e 0 2 = true) (s9 : Int32) (R : Int32 × NS × Int32) {k0 n0 : Nat}  : ∀ (m : Nat) (k : Nat) (s c : Int32) (w : NS), k ≤ hh → ngI (hh - k) (s, w, c) = R → okN w → frm u w → hh - k < m → J M l x cX6_nightsNow 6 yX6_nightsNow 2 (pM x q u v g pw kp o ((if e = 2 then R.1 else if e = 0 then R.2.2 else nI (cntS R.2.1.2.2.1 (nN R.2.1))))) k0 n0 16 [(0, .ref (q 0)), (1, .int (nI hh)), (2, .int s9), (3, .int e), (4, .int c), (5, .int (nI k))] [] (mb x q w v g pw kp (setS (bgO u o) s.toInt64)) := by
  intro m; induction m with
  | zero => intro k s c w hc0 hc1 hc2 hc3 hm; exact absurd hm (Nat.not_lt_zero _)
  | succ m ih =>
    intro k s c w hc0 hc1 hc2 hc3 hm
    have hn5 : nN u ≤ 5 := hk.1
    have hkw := hc2
    have hfw := hc3
    have hnw := hfw.nE
    have hd1 := drN_lt (nxS s) (n := nN w) (by omega)
    have hd2 := drN_lt (nxS (nxS s)) (n := nN w) (by omega)
    refine j_iload 5 dX6_nightsNow_16 rfl ?_
    refine j_iload_n 1 dX6_nightsNow_18 rfl rfl ?_
    refine j_icmpN_ge (a := k) (b := hh) (by omega) (by omega) (tgt := 73) dX6_nightsNow_19 (by decide) (fun h19 => ?_) (fun h19 => ?_)
    · skip
      refine j_aload_n 0 dX6_nightsNow_73 rfl rfl ?_
      refine j_cVi (As := []) (rest := []) (wr := []) (ws' := mb x q w v g pw kp (setS (bgO u o) s.toInt64)) (uX6_sleeping l x q w v g pw kp (setS (bgO u o) s.toInt64) (hkw).1) kX6_sleeping 0 rfl rfl rfl vX6_129 dX6_nightsNow_74 (by decide) rfl rfl (Nat.le_of_ble_eq_true rfl) (pm_0 _) (List.append_nil _) ?_
      refine j_istore (lv' := [(5, .int (nI (cntS w.2.2.1 (nN w)))), (0, .ref (q 0)), (1, .int (nI hh)), (2, .int s9), (3, .int e), (4, .int c)]) dX6_nightsNow_77 (by decide) rfl ?_
      refine j_aload_n 1 dX6_nightsNow_79 rfl rfl ?_
      refine j_cVv (As := []) (rest := []) (wr := []) (ws' := mb x q (enU w (setS (bgO u o) s.toInt64)) v g pw kp (setS (bgO u o) s.toInt64)) (uX6_end l x q w v g pw kp (setS (bgO u o) s.toInt64) ) kX6_end 0 rfl rfl rfl vX6_135 dX6_nightsNow_80 (by decide) rfl rfl (Nat.le_of_ble_eq_true rfl) (pm_0 _) (List.append_nil _) ?_
      refine j_iload_n 4 dX6_nightsNow_83 rfl rfl ?_
      refine j_if_ne (tgt := 92) dX6_nightsNow_84 (by decide) (fun h84 => ?_) (fun h84 => ?_)
      · skip
        refine j_iload_n 4 dX6_nightsNow_92 rfl rfl ?_
        refine j_iconst (v := 1) dX6_nightsNow_93 (by decide) ?_
        refine j_icmp_ne (tgt := 102) dX6_nightsNow_94 (by decide) (fun h94 => ?_) (fun h94 => ?_)
        · skip
          refine j_aload_n 1 dX6_nightsNow_102 rfl rfl ?_
          refine j_get (v := .long ((setS (bgO u o) s.toInt64).2.2.2.2.2.1)) 0 dX6_nightsNow_103 fX6_179 rfl rfl ?_
          refine j_l2i dX6_nightsNow_106 ?_
          rw [show hh - k = 0 by omega] at hc1
          have hR : R = (s, w, c) := hc1.symm
          exact j_iret _ dX6_nightsNow_107 (List.Perm.refl _) ⟨by first | (rw [if_neg (by rw [h84]; decide), if_pos h84, hR]; done) | (rw [if_neg (by rw [h94]; decide), if_neg h84, hR]; done) | (rw [if_pos (isW2 he h84 h94), hR, show ((setS (bgO u o) s.toInt64).2.2.2.2.2.1 : Int64) = s.toInt64 from rfl, toI32_64]; done), _, _, sim_bgS hn5 hfw, rfl⟩
        · skip
          refine j_iload 0 dX6_nightsNow_97 rfl ?_
          refine j_goto (tgt := 107) dX6_nightsNow_99 (by decide) ?_
          rw [show hh - k = 0 by omega] at hc1
          have hR : R = (s, w, c) := hc1.symm
          exact j_iret _ dX6_nightsNow_107 (List.Perm.refl _) ⟨by first | (rw [if_neg (by rw [h84]; decide), if_pos h84, hR]; done) | (rw [if_neg (by rw [h94]; decide), if_neg h84, hR]; done) | (rw [if_pos (isW2 he h84 h94), hR, show ((setS (bgO u o) s.toInt64).2.2.2.2.2.1 : Int64) = s.toInt64 from rfl, toI32_64]; done), _, _, sim_bgS hn5 hfw, rfl⟩
      · skip
        refine j_iload 5 dX6_nightsNow_87 rfl ?_
        refine j_goto (tgt := 107) dX6_nightsNow_89 (by decide) ?_
        rw [show hh - k = 0 by omega] at hc1
        have hR : R = (s, w, c) := hc1.symm
        exact j_iret _ dX6_nightsNow_107 (List.Perm.refl _) ⟨by first | (rw [if_neg (by rw [h84]; decide), if_pos h84, hR]; done) | (rw [if_neg (by rw [h94]; decide), if_neg h84, hR]; done) | (rw [if_pos (isW2 he h84 h94), hR, show ((setS (bgO u o) s.toInt64).2.2.2.2.2.1 : Int64) = s.toInt64 from rfl, toI32_64]; done), _, _, sim_bgS hn5 hfw, rfl⟩
    · skip
      refine j_aload_n 0 dX6_nightsNow_22 rfl rfl ?_
      refine j_aload_n 0 dX6_nightsNow_23 rfl rfl ?_
      refine j_aload_n 0 dX6_nightsNow_24 rfl rfl ?_
      refine j_get (v := .int (nI (nN w))) 0 dX6_nightsNow_25 fX6_77 rfl rfl ?_
      refine j_cVi (As := [.int (nI (nN w))]) (rest := [.ref (q 0)]) (wr := []) (ws' := mb x q w v g pw kp (setS (bgO u o) (nxS s).toInt64)) (tX6_draw l x q w v g pw kp (bgO u o) s (nN w) (by omega) (by omega)) kX6_draw 0 rfl rfl rfl vX6_189 dX6_nightsNow_28 (by decide) rfl rfl (Nat.le_of_ble_eq_true rfl) (pm_0 _) (List.append_nil _) ?_
      refine j_cVv (As := [.int (nI (drN (nxS s) (nN w)))]) (rest := []) (wr := []) (ws' := mb x q (cof w (drN (nxS s) (nN w))) v g pw kp (setS (bgO u o) (nxS s).toInt64)) (uX6_drink l x q w v g pw kp (setS (bgO u o) (nxS s).toInt64) hkw (drN (nxS s) (nN w)) hd1) kX6_drink 0 rfl rfl rfl vX6_120 dX6_nightsNow_31 (by decide) rfl rfl (Nat.le_of_ble_eq_true rfl) (pm_0 _) (List.append_nil _) ?_
      refine j_aload_n 0 dX6_nightsNow_34 rfl rfl ?_
      refine j_aload_n 0 dX6_nightsNow_35 rfl rfl ?_
      refine j_aload_n 0 dX6_nightsNow_36 rfl rfl ?_
      refine j_get (v := .int (nI (nN (cof w (drN (nxS s) (nN w)))))) 0 dX6_nightsNow_37 fX6_77 rfl rfl ?_
      refine j_topi (b := nI (nN w)) (by rw [nN_cof]) ?_
      refine j_cVi (As := [.int (nI (nN w))]) (rest := [.ref (q 0)]) (wr := []) (ws' := mb x q (cof w (drN (nxS s) (nN w))) v g pw kp (setS (bgO u o) (nxS (nxS s)).toInt64)) (tX6_draw l x q (cof w (drN (nxS s) (nN w))) v g pw kp (bgO u o) (nxS s) (nN w) (by omega) (by omega)) kX6_draw 0 rfl rfl rfl vX6_189 dX6_nightsNow_40 (by decide) rfl rfl (Nat.le_of_ble_eq_true rfl) (pm_0 _) (List.append_nil _) ?_
      refine j_cVv (As := [.int (nI (drN (nxS (nxS s)) (nN w)))]) (rest := []) (wr := []) (ws' := mb x q (lec (cof w (drN (nxS s) (nN w))) (some (drN (nxS (nxS s)) (nN w)))) v g pw kp (setS (bgO u o) (nxS (nxS s)).toInt64)) (uX6_hearLecture l x q (cof w (drN (nxS s) (nN w))) v g pw kp (setS (bgO u o) (nxS (nxS s)).toInt64) (okN_cof hkw (drN (nxS s) (nN w)) (by (try simp only [nN_ph, nN_lec, nN_cof, nN_cfs, nN_hrs, nN_wak]); omega)) (drN (nxS (nxS s)) (nN w)) (by rw [nN_cof]; exact hd2)) kX6_hearLecture 0 rfl rfl rfl vX6_123 dX6_nightsNow_43 (by decide) rfl rfl (Nat.le_of_ble_eq_true rfl) (pm_0 _) (List.append_nil _) ?_
      refine j_iload 4 dX6_nightsNow_46 rfl ?_
      refine j_aload_n 0 dX6_nightsNow_48 rfl rfl ?_
      refine j_cVi (As := []) (rest := [.int c]) (wr := []) (ws' := mb x q (lec (cof w (drN (nxS s) (nN w))) (some (drN (nxS (nxS s)) (nN w)))) v g pw kp (setS (bgO u o) (nxS (nxS s)).toInt64)) (uX6_whose l x q (lec (cof w (drN (nxS s) (nN w))) (some (drN (nxS (nxS s)) (nN w)))) v g pw kp (setS (bgO u o) (nxS (nxS s)).toInt64) (okN_lec (okN_cof hkw (drN (nxS s) (nN w)) (by (try simp only [nN_ph, nN_lec, nN_cof, nN_cfs, nN_hrs, nN_wak]); omega)) (some (drN (nxS (nxS s)) (nN w))))) kX6_whose 0 rfl rfl rfl vX6_92 dX6_nightsNow_49 (by decide) rfl rfl (Nat.le_of_ble_eq_true rfl) (pm_0 _) (List.append_nil _) ?_
      refine j_if_ne (tgt := 59) dX6_nightsNow_52 (by decide) (fun h52 => ?_) (fun h52 => ?_)
      · skip
        have eb : (wbU (lec (cof w (drN (nxS s) (nN w))) (some (drN (nxS (nxS s)) (nN w)))) == some 0) = false := wq_0f ((okN_lec (okN_cof hkw _ (drN_lt _ (by omega))) _)).1 h52
        refine j_iconst (v := 0) dX6_nightsNow_59 (by decide) ?_
        refine j_iadd dX6_nightsNow_60 ?_
        refine j_topi (b := c + bI (wbU (lec (cof w (drN (nxS s) (nN w))) (some (drN (nxS (nxS s)) (nN w)))) == some 0)) (by rw [eb]; rfl) ?_
        refine j_istore (lv' := [(4, .int (c + bI (wbU (lec (cof w (drN (nxS s) (nN w))) (some (drN (nxS (nxS s)) (nN w)))) == some 0))), (0, .ref (q 0)), (1, .int (nI hh)), (2, .int s9), (3, .int e), (5, .int (nI k))]) dX6_nightsNow_61 (by decide) rfl ?_
        refine j_aload_n 1 dX6_nightsNow_63 rfl rfl ?_
        refine j_cVv (As := []) (rest := []) (wr := []) (ws' := mb x q (ph (lec (cof w (drN (nxS s) (nN w))) (some (drN (nxS (nxS s)) (nN w))))) v g pw kp (setS (bgO u o) (nxS (nxS s)).toInt64)) (uX6_goHour l x q (lec (cof w (drN (nxS s) (nN w))) (some (drN (nxS (nxS s)) (nN w)))) v g pw kp (setS (bgO u o) (nxS (nxS s)).toInt64) (okN_lec (okN_cof hkw (drN (nxS s) (nN w)) (by (try simp only [nN_ph, nN_lec, nN_cof, nN_cfs, nN_hrs, nN_wak]); omega)) (some (drN (nxS (nxS s)) (nN w))))) kX6_goHour 0 rfl rfl rfl vX6_126 dX6_nightsNow_64 (by decide) rfl rfl (Nat.le_of_ble_eq_true rfl) (pm_0 _) (List.append_nil _) ?_
        refine j_iinc (v := nI (k + 1)) (lv' := [(5, .int (nI (k + 1))), (4, .int (c + bI (wbU (lec (cof w (drN (nxS s) (nN w))) (some (drN (nxS (nxS s)) (nN w)))) == some 0))), (0, .ref (q 0)), (1, .int (nI hh)), (2, .int s9), (3, .int e)]) 5 dX6_nightsNow_67 rfl (nI_1 k) (by decide) rfl ?_
        refine j_goto (tgt := 16) dX6_nightsNow_70 (by decide) ?_
        refine j_lv [2, 3, 4, 5, 1, 0] (lv' := [(0, .ref (q 0)), (1, .int (nI hh)), (2, .int s9), (3, .int e), (4, .int (c + bI (wbU (lec (cof w (drN (nxS s) (nN w))) (some (drN (nxS (nxS s)) (nN w)))) == some 0))), (5, .int (nI (k + 1)))]) rfl ?_
        exact ih (k + 1) (nxS (nxS s)) (c + bI (wbU (lec (cof w (drN (nxS s) (nN w))) (some (drN (nxS (nxS s)) (nN w)))) == some 0)) (ph (lec (cof w (drN (nxS s) (nN w))) (some (drN (nxS (nxS s)) (nN w))))) (by omega) (by rw [← hc1, show hh - k = (hh - (k + 1)) + 1 by omega]; rfl) (okN_ph (okN_lec (okN_cof hkw _ (drN_lt _ (by omega))) _)) (frm.ph (frm.lec (frm.cof hfw (drN (nxS s) (nN w))) (some (drN (nxS (nxS s)) (nN w))))) (by omega)
      · skip
        have eb : (wbU (lec (cof w (drN (nxS s) (nN w))) (some (drN (nxS (nxS s)) (nN w)))) == some 0) = true := wq_0t ((okN_lec (okN_cof hkw _ (drN_lt _ (by omega))) _)).1 h52
        refine j_iconst (v := 1) dX6_nightsNow_55 (by decide) ?_
        refine j_goto (tgt := 60) dX6_nightsNow_56 (by decide) ?_
        refine j_iadd dX6_nightsNow_60 ?_
        refine j_topi (b := c + bI (wbU (lec (cof w (drN (nxS s) (nN w))) (some (drN (nxS (nxS s)) (nN w)))) == some 0)) (by rw [eb]; rfl) ?_
        refine j_istore (lv' := [(4, .int (c + bI (wbU (lec (cof w (drN (nxS s) (nN w))) (some (drN (nxS (nxS s)) (nN w)))) == some 0))), (0, .ref (q 0)), (1, .int (nI hh)), (2, .int s9), (3, .int e), (5, .int (nI k))]) dX6_nightsNow_61 (by decide) rfl ?_
        refine j_aload_n 1 dX6_nightsNow_63 rfl rfl ?_
        refine j_cVv (As := []) (rest := []) (wr := []) (ws' := mb x q (ph (lec (cof w (drN (nxS s) (nN w))) (some (drN (nxS (nxS s)) (nN w))))) v g pw kp (setS (bgO u o) (nxS (nxS s)).toInt64)) (uX6_goHour l x q (lec (cof w (drN (nxS s) (nN w))) (some (drN (nxS (nxS s)) (nN w)))) v g pw kp (setS (bgO u o) (nxS (nxS s)).toInt64) (okN_lec (okN_cof hkw (drN (nxS s) (nN w)) (by (try simp only [nN_ph, nN_lec, nN_cof, nN_cfs, nN_hrs, nN_wak]); omega)) (some (drN (nxS (nxS s)) (nN w))))) kX6_goHour 0 rfl rfl rfl vX6_126 dX6_nightsNow_64 (by decide) rfl rfl (Nat.le_of_ble_eq_true rfl) (pm_0 _) (List.append_nil _) ?_
        refine j_iinc (v := nI (k + 1)) (lv' := [(5, .int (nI (k + 1))), (4, .int (c + bI (wbU (lec (cof w (drN (nxS s) (nN w))) (some (drN (nxS (nxS s)) (nN w)))) == some 0))), (0, .ref (q 0)), (1, .int (nI hh)), (2, .int s9), (3, .int e)]) 5 dX6_nightsNow_67 rfl (nI_1 k) (by decide) rfl ?_
        refine j_goto (tgt := 16) dX6_nightsNow_70 (by decide) ?_
        refine j_lv [2, 3, 4, 5, 1, 0] (lv' := [(0, .ref (q 0)), (1, .int (nI hh)), (2, .int s9), (3, .int e), (4, .int (c + bI (wbU (lec (cof w (drN (nxS s) (nN w))) (some (drN (nxS (nxS s)) (nN w)))) == some 0))), (5, .int (nI (k + 1)))]) rfl ?_
        exact ih (k + 1) (nxS (nxS s)) (c + bI (wbU (lec (cof w (drN (nxS s) (nN w))) (some (drN (nxS (nxS s)) (nN w)))) == some 0)) (ph (lec (cof w (drN (nxS s) (nN w))) (some (drN (nxS (nxS s)) (nN w))))) (by omega) (by rw [← hc1, show hh - k = (hh - (k + 1)) + 1 by omega]; rfl) (okN_ph (okN_lec (okN_cof hkw _ (drN_lt _ (by omega))) _)) (frm.ph (frm.lec (frm.cof hfw (drN (nxS s) (nN w))) (some (drN (nxS (nxS s)) (nN w))))) (by omega)
set_option maxHeartbeats 4000000 in
set_option maxRecDepth 100000 in
theorem tX6_nightsNow (l : Launch) (x : Cx) (q : Nat → Nat) (u : NS) (v : SS) (g : PG) (pw : Bool × Nat) (kp : KS) (o : OS) (hk : okN u) (h0 : 0 < nN u) (hh : Nat) (hhi : hh ≤ 60) (e : Int32) (he : isW e 0 2 = true) (s9 : Int32) : MC l x 2 0 0 yX6_nightsNow cX6_nightsNow 6 (some .int) [.ref (q 0), .int (nI hh), .int s9, .int e] (mb x q u v g pw kp o) (pM x q u v g pw kp o (kNights u hh s9 e)) := by
  refine MC.of (by decide) (Nat.le_of_ble_eq_true rfl) eXI_fit (fun M => ?_)
  show J M l x cX6_nightsNow 6 yX6_nightsNow 2 (pM x q u v g pw kp o (kNights u hh s9 e)) 0 0 0 [(0, .ref (q 0)), (1, .int (nI hh)), (2, .int s9), (3, .int e)] [] (mb x q u v g pw kp o)
  have hn5 : nN u ≤ 5 := hk.1
  refine j_aload_n 0 dX6_nightsNow_0 rfl rfl ?_
  refine j_cVv (As := []) (rest := []) (wr := []) (ws' := mb x q u v g pw kp (bgO u o)) (uX6_begin l x q u v g pw kp o ) kX6_begin 0 rfl rfl rfl vX6_132 dX6_nightsNow_1 (by decide) rfl rfl (Nat.le_of_ble_eq_true rfl) (pm_0 _) (List.append_nil _) ?_
  refine j_aload_n 0 dX6_nightsNow_4 rfl rfl ?_
  refine j_iload_n 2 dX6_nightsNow_5 rfl rfl ?_
  refine j_i2l dX6_nightsNow_6 ?_
  refine j_put (v := .long s9.toInt64) (ws' := mb x q u v g pw kp ((bgO u o).1, (bgO u o).2.1, (bgO u o).2.2.1, (bgO u o).2.2.2.1, (bgO u o).2.2.2.2.1, s9.toInt64, (bgO u o).2.2.2.2.2.2)) 0 dX6_nightsNow_7 fX6_179 rfl rfl rfl (Nat.le_of_ble_eq_true rfl) rfl ?_
  refine j_iconst (v := 0) dX6_nightsNow_10 (by decide) ?_
  refine j_istore (lv' := [(4, .int 0), (0, .ref (q 0)), (1, .int (nI hh)), (2, .int s9), (3, .int e)]) dX6_nightsNow_11 (by decide) rfl ?_
  refine j_iconst (v := nI 0) dX6_nightsNow_13 (by decide) ?_
  refine j_istore (lv' := [(5, .int (nI 0)), (4, .int 0), (0, .ref (q 0)), (1, .int (nI hh)), (2, .int s9), (3, .int e)]) dX6_nightsNow_14 (by decide) rfl ?_
  refine j_lv [2, 3, 4, 5, 1, 0] (lv' := [(0, .ref (q 0)), (1, .int (nI hh)), (2, .int s9), (3, .int e), (4, .int 0), (5, .int (nI 0))]) rfl ?_
  refine j_ws (ws' := mb x q u v g pw kp (setS (bgO u o) s9.toInt64)) rfl ?_
  have hl := lp_nn (M := M) (k0 := 0) (n0 := 0) l x q u v g pw kp o hk h0 hh hhi e he s9 _ (hh + 1) 0 s9 0 u (by omega) rfl hk (frm.rf u) (by omega)
  rw [Nat.sub_zero] at hl
  exact hl
set_option maxHeartbeats 4000000 in
set_option maxRecDepth 100000 in
theorem tX6_nights (l : Launch) (x : Cx) (q : Nat → Nat) (u : NS) (v : SS) (g : PG) (pw : Bool × Nat) (kp : KS) (o : OS) (hk : okN u) (e s9 f : Int32) : MC l x 3 0 0 yX6_nights cX6_nights 4 (some .int) [.ref (q 0), .int e, .int s9, .int f] (mb x q u v g pw kp o) (pM x q u v g pw kp o (kNightsR u e s9 f)) := by
  refine MC.of (by decide) (Nat.le_of_ble_eq_true rfl) eXI_fit (fun M => ?_)
  show J M l x cX6_nights 4 yX6_nights 3 (pM x q u v g pw kp o (kNightsR u e s9 f)) 0 0 0 [(0, .ref (q 0)), (1, .int e), (2, .int s9), (3, .int f)] [] (mb x q u v g pw kp o)
  have hn5 : nN u ≤ 5 := hk.1
  refine j_iload_n 1 dX6_nights_0 rfl rfl ?_
  refine j_iconst (v := 1) dX6_nights_1 (by decide) ?_
  refine j_bipush (v := 60) dX6_nights_2 (by decide) ?_
  refine j_cSi (As := [.int e, .int 1, .int 60]) (rest := []) (wr := mb x q u v g pw kp o) (ws' := mb x q u v g pw kp o) (tX6_within l x e 1 60) kX6_within sX6_51 dX6_nights_4 (by decide) rfl rfl (Nat.le_of_ble_eq_true rfl) (List.Perm.refl _) rfl ?_
  refine j_ifb_eq (b := isW e 1 60) (tgt := 23) dX6_nights_7 (by decide) (fun h7 => ?_) (fun h7 => ?_)
  · skip
    refine j_bipush (v := (-102)) dX6_nights_23 (by decide) ?_
    exact j_iret _ dX6_nights_25 (List.Perm.refl _) ⟨by first | (simp [kNightsR, h7]; done) | (simp [kNightsR, h7, h11]; done) | (simp [kNightsR, h7, h11, h20]; done), u, o, sim.rf u o, rfl⟩
  · skip
    obtain ⟨hh, hlo, hhi, rfl⟩ := isW_nat (lo := 1) (hi := 60) (by decide) (by decide) h7
    have hhc : (nI hh).toNatClampNeg = hh := nI_clamp (by omega)
    refine j_iload_n 2 dX6_nights_10 rfl rfl ?_
    refine j_if_lt (tgt := 23) dX6_nights_11 (by decide) (fun h11 => ?_) (fun h11 => ?_)
    · skip
      refine j_bipush (v := (-102)) dX6_nights_23 (by decide) ?_
      exact j_iret _ dX6_nights_25 (List.Perm.refl _) ⟨by first | (simp [kNightsR, h7]; done) | (simp [kNightsR, h7, h11]; done) | (simp [kNightsR, h7, h11, h20]; done), u, o, sim.rf u o, rfl⟩
    · skip
      refine j_iload_n 3 dX6_nights_14 rfl rfl ?_
      refine j_iconst (v := 0) dX6_nights_15 (by decide) ?_
      refine j_iconst (v := 2) dX6_nights_16 (by decide) ?_
      refine j_cSi (As := [.int f, .int 0, .int 2]) (rest := []) (wr := mb x q u v g pw kp o) (ws' := mb x q u v g pw kp o) (tX6_within l x f 0 2) kX6_within sX6_51 dX6_nights_17 (by decide) rfl rfl (Nat.le_of_ble_eq_true rfl) (List.Perm.refl _) rfl ?_
      refine j_ifb_ne (b := isW f 0 2) (tgt := 26) dX6_nights_20 (by decide) (fun h20 => ?_) (fun h20 => ?_)
      · skip
        refine j_aload_n 0 dX6_nights_26 rfl rfl ?_
        refine j_get (v := .int (nI (nN u))) 0 dX6_nights_27 fX6_77 rfl rfl ?_
        refine j_if_ne (tgt := 38) dX6_nights_30 (by decide) (fun h30 => ?_) (fun h30 => ?_)
        · skip
          have h0 : ¬ nN u = 0 := fun z9 => h30 (by rw [z9]; rfl)
          refine j_aload_n 0 dX6_nights_38 rfl rfl ?_
          refine j_iload_n 1 dX6_nights_39 rfl rfl ?_
          refine j_iload_n 2 dX6_nights_40 rfl rfl ?_
          refine j_iload_n 3 dX6_nights_41 rfl rfl ?_
          refine j_callV (As := [.int (nI hh), .int s9, .int f]) (rest := []) (wr := []) (tX6_nightsNow l x q u v g pw kp o hk (by omega) hh (by omega) f h20 s9) kX6_nightsNow vX6_192 0 rfl rfl rfl dX6_nights_42 (by decide) (Nat.le_of_eq (Nat.zero_add _)) (Nat.le_of_eq (Nat.zero_add _)) rfl rfl (Nat.le_of_ble_eq_true rfl) (pm_0 _) (fun v9 w9 hv9 => ?_)
          obtain ⟨rfl, u19, o19, hs19, rfl⟩ := hv9
          refine j_eq (lv' := [(0, .ref (q 0)), (1, .int (nI hh)), (2, .int s9), (3, .int f)]) (st' := [.int (kNights u hh s9 f)]) (ws' := mb x q u19 v g pw kp o19) rfl rfl (List.append_nil _) ?_
          have hku19 : okN u19 := okN_eq hs19.1.symm hk
          exact j_iret _ dX6_nights_45 (List.Perm.refl _) ⟨by first | (simp [kNightsR, h7, h11, h20, h0]; done) | (simp [kNightsR, h7, h11, h20, h0, hhc]; done), u19, o19, hs19, rfl⟩
        · skip
          have h0 : nN u = 0 := (nI_eq (a := nN u) (b := 0) (by omega) (by decide)).mp h30
          refine j_bipush (v := (-103)) dX6_nights_33 (by decide) ?_
          refine j_goto (tgt := 45) dX6_nights_35 (by decide) ?_
          exact j_iret _ dX6_nights_45 (List.Perm.refl _) ⟨by first | (simp [kNightsR, h7, h11, h20, h0]; done) | (simp [kNightsR, h7, h11, h20, h0, hhc]; done), u, o, sim.rf u o, rfl⟩
      · skip
        refine j_bipush (v := (-102)) dX6_nights_23 (by decide) ?_
        exact j_iret _ dX6_nights_25 (List.Perm.refl _) ⟨by first | (simp [kNightsR, h7]; done) | (simp [kNightsR, h7, h11]; done) | (simp [kNightsR, h7, h11, h20]; done), u, o, sim.rf u o, rfl⟩
set_option maxHeartbeats 4000000 in
set_option maxRecDepth 100000 in
theorem tX6_lodgerNow (l : Launch) (x : Cx) (q : Nat → Nat) (u : NS) (v : SS) (g : PG) (pw : Bool × Nat) (kp : KS) (o : OS) (hk : okN u) (hv : vok v) (j : Nat) (hj : j < nN u) (e : Int32) (he : isW e 0 6 = true) : MC l x 4 0 0 yX6_lodgerNow cX6_lodgerNow 3 (some .int) [.ref (q 0), .int (nI j), .int e] (mb x q u v g pw kp o) (pM x q u v g pw kp o (abU u v j e)) := by
  refine MC.of (by decide) (Nat.le_of_ble_eq_true rfl) eXI_fit (fun M => ?_)
  show J M l x cX6_lodgerNow 3 yX6_lodgerNow 4 (pM x q u v g pw kp o (abU u v j e)) 0 0 0 [(0, .ref (q 0)), (1, .int (nI j)), (2, .int e)] [] (mb x q u v g pw kp o)
  have hn5 : nN u ≤ 5 := hk.1
  refine j_iload_n 2 dX6_lodgerNow_0 rfl rfl ?_
  by_cases s1_0 : e = 0
  · refine j_tabC (0) 0 s1_0 (by decide) dX6_lodgerNow_1 rfl (by decide : (1 : Int) + 39 = ((40 : Nat) : Int)) ?_
    refine j_aload_n 0 dX6_lodgerNow_40 rfl rfl ?_
    refine j_get (v := .ref (q 1)) 0 dX6_lodgerNow_41 fX6_7 rfl rfl ?_
    refine j_iload_n 1 dX6_lodgerNow_44 rfl rfl ?_
    refine j_ialdN (i := j) (f := u.1) 1 dX6_lodgerNow_45 rfl (by omega) (by decide) ?_
    exact j_iret _ dX6_lodgerNow_46 (List.Perm.refl _) ⟨by rw [s1_0]; simp [abU], u, o, sim.rf u o, rfl⟩
  by_cases s1_1 : e = 1
  · refine j_tabC (1) 1 s1_1 (by decide) dX6_lodgerNow_1 rfl (by decide : (1 : Int) + 46 = ((47 : Nat) : Int)) ?_
    refine j_aload_n 0 dX6_lodgerNow_47 rfl rfl ?_
    refine j_get (v := .ref (q 2)) 0 dX6_lodgerNow_48 fX6_13 rfl rfl ?_
    refine j_iload_n 1 dX6_lodgerNow_51 rfl rfl ?_
    refine j_ialdN (i := j) (f := u.2.1) 2 dX6_lodgerNow_52 rfl (by omega) (by decide) ?_
    exact j_iret _ dX6_lodgerNow_53 (List.Perm.refl _) ⟨by rw [s1_1]; simp [abU], u, o, sim.rf u o, rfl⟩
  by_cases s1_2 : e = 2
  · refine j_tabC (2) 2 s1_2 (by decide) dX6_lodgerNow_1 rfl (by decide : (1 : Int) + 53 = ((54 : Nat) : Int)) ?_
    refine j_aload_n 0 dX6_lodgerNow_54 rfl rfl ?_
    refine j_get (v := .ref (q 3)) 0 dX6_lodgerNow_55 fX6_16 rfl rfl ?_
    refine j_iload_n 1 dX6_lodgerNow_58 rfl rfl ?_
    refine j_zaldB (i := j) (f := u.2.2.1) 3 dX6_lodgerNow_59 rfl (by omega) (by decide) ?_
    refine j_ifb_eq (b := u.2.2.1 j) (tgt := 67) dX6_lodgerNow_60 (by decide) (fun h60 => ?_) (fun h60 => ?_)
    · skip
      refine j_iconst (v := bI false) dX6_lodgerNow_67 (by decide) ?_
      exact j_iret _ dX6_lodgerNow_68 (List.Perm.refl _) ⟨by first | (simp [abU, s1_2, h60]; done), u, o, sim.rf u o, rfl⟩
    · skip
      refine j_iconst (v := bI true) dX6_lodgerNow_63 (by decide) ?_
      refine j_goto (tgt := 68) dX6_lodgerNow_64 (by decide) ?_
      exact j_iret _ dX6_lodgerNow_68 (List.Perm.refl _) ⟨by first | (simp [abU, s1_2, h60]; done), u, o, sim.rf u o, rfl⟩
  by_cases s1_3 : e = 3
  · refine j_tabC (3) 3 s1_3 (by decide) dX6_lodgerNow_1 rfl (by decide : (1 : Int) + 68 = ((69 : Nat) : Int)) ?_
    refine j_aload_n 0 dX6_lodgerNow_69 rfl rfl ?_
    refine j_cVi (As := []) (rest := []) (wr := []) (ws' := mb x q u v g pw kp o) (uX6_whose l x q u v g pw kp o hk) kX6_whose 0 rfl rfl rfl vX6_92 dX6_lodgerNow_70 (by decide) rfl rfl (Nat.le_of_ble_eq_true rfl) (pm_0 _) (List.append_nil _) ?_
    refine j_iload_n 1 dX6_lodgerNow_73 rfl rfl ?_
    refine j_icmp_ne (tgt := 81) dX6_lodgerNow_74 (by decide) (fun h74 => ?_) (fun h74 => ?_)
    · skip
      have eb : (wbU u == some j) = false := wq_f (hk).1 (by omega) h74
      refine j_iconst (v := bI false) dX6_lodgerNow_81 (by decide) ?_
      exact j_iret _ dX6_lodgerNow_82 (List.Perm.refl _) ⟨by simp [abU, s1_3, eb], u, o, sim.rf u o, rfl⟩
    · skip
      have eb : (wbU u == some j) = true := wq_t (hk).1 (by omega) h74
      refine j_iconst (v := bI true) dX6_lodgerNow_77 (by decide) ?_
      refine j_goto (tgt := 82) dX6_lodgerNow_78 (by decide) ?_
      exact j_iret _ dX6_lodgerNow_82 (List.Perm.refl _) ⟨by simp [abU, s1_3, eb], u, o, sim.rf u o, rfl⟩
  by_cases s1_4 : e = 4
  · refine j_tabC (4) 4 s1_4 (by decide) dX6_lodgerNow_1 rfl (by decide : (1 : Int) + 82 = ((83 : Nat) : Int)) ?_
    refine j_aload_n 0 dX6_lodgerNow_83 rfl rfl ?_
    refine j_get (v := .ref (q 4)) 0 dX6_lodgerNow_84 fX6_20 rfl rfl ?_
    refine j_iload_n 1 dX6_lodgerNow_87 rfl rfl ?_
    refine j_ialdN (i := j) (f := u.2.2.2.1) 4 dX6_lodgerNow_88 rfl (by omega) (by decide) ?_
    exact j_iret _ dX6_lodgerNow_89 (List.Perm.refl _) ⟨by rw [s1_4]; simp [abU], u, o, sim.rf u o, rfl⟩
  by_cases s1_5 : e = 5
  · refine j_tabC (5) 5 s1_5 (by decide) dX6_lodgerNow_1 rfl (by decide : (1 : Int) + 89 = ((90 : Nat) : Int)) ?_
    refine j_aload_n 0 dX6_lodgerNow_90 rfl rfl ?_
    refine j_iload_n 1 dX6_lodgerNow_91 rfl rfl ?_
    refine j_callV (As := [.int (nI j)]) (rest := []) (wr := []) (tX6_howTired l x q u v g pw kp o hk hv j (by (try simp only [nN_ph, nN_lec, nN_cof, nN_cfs, nN_hrs, nN_wak]); omega)) kX6_howTired vX6_106 0 rfl rfl rfl dX6_lodgerNow_92 (by decide) (Nat.le_of_eq (Nat.zero_add _)) (Nat.le_of_eq (Nat.zero_add _)) rfl rfl (Nat.le_of_ble_eq_true rfl) (pm_0 _) (fun v9 w9 hv9 => ?_)
    obtain ⟨rfl, u19, o19, hs19, rfl⟩ := hv9
    refine j_eq (lv' := [(0, .ref (q 0)), (1, .int (nI j)), (2, .int e)]) (st' := [.int (bitsU u v j)]) (ws' := mb x q u19 v g pw kp o19) rfl rfl (List.append_nil _) ?_
    have hku19 : okN u19 := okN_eq hs19.1.symm hk
    exact j_iret _ dX6_lodgerNow_95 (List.Perm.refl _) ⟨by rw [s1_5]; simp [abU], u19, o19, hs19, rfl⟩
  refine j_tabD dX6_lodgerNow_1 (fun j hj => match j, hj with | 0, _ => Or.inr (lv_neT s1_0 (by decide)) | 1, _ => Or.inr (lv_neT s1_1 (by decide)) | 2, _ => Or.inr (lv_neT s1_2 (by decide)) | 3, _ => Or.inr (lv_neT s1_3 (by decide)) | 4, _ => Or.inr (lv_neT s1_4 (by decide)) | 5, _ => Or.inr (lv_neT s1_5 (by decide)) | j + 6, hj => absurd hj (by omega)) (by decide : (1 : Int) + 95 = ((96 : Nat) : Int)) ?_
  refine j_aload_n 0 dX6_lodgerNow_96 rfl rfl ?_
  refine j_iload_n 1 dX6_lodgerNow_97 rfl rfl ?_
  refine j_callV (As := [.int (nI j)]) (rest := []) (wr := []) (tX6_lookOf l x q u v g pw kp o hk hv j (by (try simp only [nN_ph, nN_lec, nN_cof, nN_cfs, nN_hrs, nN_wak]); omega)) kX6_lookOf vX6_109 0 rfl rfl rfl dX6_lodgerNow_98 (by decide) (Nat.le_of_eq (Nat.zero_add _)) (Nat.le_of_eq (Nat.zero_add _)) rfl rfl (Nat.le_of_ble_eq_true rfl) (pm_0 _) (fun v9 w9 hv9 => ?_)
  obtain ⟨rfl, u39, o39, hs39, rfl⟩ := hv9
  refine j_eq (lv' := [(0, .ref (q 0)), (1, .int (nI j)), (2, .int e)]) (st' := [.int (lokB (bitsU u v j) (bed u j) (nN u))]) (ws' := mb x q u39 v g pw kp o39) rfl rfl (List.append_nil _) ?_
  have hku39 : okN u39 := okN_eq hs39.1.symm hk
  exact j_iret _ dX6_lodgerNow_101 (List.Perm.refl _) ⟨by rw [isW6 he s1_0 s1_1 s1_2 s1_3 s1_4 s1_5]; simp [abU], u39, o39, hs39, rfl⟩
theorem abU_out {u : NS} {v : SS} {j : Nat} {e : Int32} (h : isW e 0 6 = false) : abU u v j e = -102 := by
  have n : ∀ k : Nat, k ≤ 6 → ¬ e = nI k := fun k hk z => by
    subst z
    have : ∀ k, k < 7 → isW (nI k) 0 6 = true := by decide +kernel
    rw [this k (by omega)] at h
    cases h
  rw [abU, if_neg (show ¬ e = 0 from n 0 (by omega)), if_neg (show ¬ e = 1 from n 1 (by omega)), if_neg (show ¬ e = 2 from n 2 (by omega)), if_neg (show ¬ e = 3 from n 3 (by omega)), if_neg (show ¬ e = 4 from n 4 (by omega)), if_neg (show ¬ e = 5 from n 5 (by omega)), if_neg (show ¬ e = 6 from n 6 (by omega))]
set_option maxHeartbeats 4000000 in
set_option maxRecDepth 100000 in
theorem tX6_about (l : Launch) (x : Cx) (q : Nat → Nat) (u : NS) (v : SS) (g : PG) (pw : Bool × Nat) (kp : KS) (o : OS) (hk : okN u) (hv : vok v) (l9 e : Int32) : MC l x 5 0 0 yX6_about cX6_about 3 (some .int) [.ref (q 0), .int l9, .int e] (mb x q u v g pw kp o) (pM x q u v g pw kp o (kAbout u v l9 e)) := by
  refine MC.of (by decide) (Nat.le_of_ble_eq_true rfl) eXI_fit (fun M => ?_)
  show J M l x cX6_about 3 yX6_about 5 (pM x q u v g pw kp o (kAbout u v l9 e)) 0 0 0 [(0, .ref (q 0)), (1, .int l9), (2, .int e)] [] (mb x q u v g pw kp o)
  have hn5 : nN u ≤ 5 := hk.1
  refine j_aload_n 0 dX6_about_0 rfl rfl ?_
  refine j_iload_n 1 dX6_about_1 rfl rfl ?_
  refine j_cVi (As := [.int l9]) (rest := []) (wr := []) (ws' := mb x q u v g pw kp o) (uX6_isLodger l x q u v g pw kp o (hk).1 l9) kX6_isLodger 0 rfl rfl rfl vX6_112 dX6_about_2 (by decide) rfl rfl (Nat.le_of_ble_eq_true rfl) (pm_0 _) (List.append_nil _) ?_
  refine j_ifb_ne (b := kn (nN u) l9) (tgt := 13) dX6_about_5 (by decide) (fun h5 => ?_) (fun h5 => ?_)
  · skip
    obtain ⟨j, hj, rfl, hjc⟩ := kn_j h5 (by omega)
    refine j_iload_n 2 dX6_about_13 rfl rfl ?_
    refine j_iconst (v := 0) dX6_about_14 (by decide) ?_
    refine j_bipush (v := 6) dX6_about_15 (by decide) ?_
    refine j_cSi (As := [.int e, .int 0, .int 6]) (rest := []) (wr := mb x q u v g pw kp o) (ws' := mb x q u v g pw kp o) (tX6_within l x e 0 6) kX6_within sX6_51 dX6_about_17 (by decide) rfl rfl (Nat.le_of_ble_eq_true rfl) (List.Perm.refl _) rfl ?_
    refine j_ifb_eq (b := isW e 0 6) (tgt := 32) dX6_about_20 (by decide) (fun h20 => ?_) (fun h20 => ?_)
    · skip
      refine j_bipush (v := (-102)) dX6_about_32 (by decide) ?_
      exact j_iret _ dX6_about_34 (List.Perm.refl _) ⟨by first | (simp [kAbout, h5]; done) | (simp [kAbout, h5, hjc]; done) | (simp [kAbout, h5, hjc, abU_out h20]; done), u, o, sim.rf u o, rfl⟩
    · skip
      refine j_aload_n 0 dX6_about_23 rfl rfl ?_
      refine j_iload_n 1 dX6_about_24 rfl rfl ?_
      refine j_iload_n 2 dX6_about_25 rfl rfl ?_
      refine j_callV (As := [.int (nI j), .int e]) (rest := []) (wr := []) (tX6_lodgerNow l x q u v g pw kp o hk hv j (by (try simp only [nN_ph, nN_lec, nN_cof, nN_cfs, nN_hrs, nN_wak]); omega) e h20) kX6_lodgerNow vX6_116 0 rfl rfl rfl dX6_about_26 (by decide) (Nat.le_of_eq (Nat.zero_add _)) (Nat.le_of_eq (Nat.zero_add _)) rfl rfl (Nat.le_of_ble_eq_true rfl) (pm_0 _) (fun v9 w9 hv9 => ?_)
      obtain ⟨rfl, u19, o19, hs19, rfl⟩ := hv9
      refine j_eq (lv' := [(0, .ref (q 0)), (1, .int (nI j)), (2, .int e)]) (st' := [.int (abU u v j e)]) (ws' := mb x q u19 v g pw kp o19) rfl rfl (List.append_nil _) ?_
      have hku19 : okN u19 := okN_eq hs19.1.symm hk
      refine j_goto (tgt := 34) dX6_about_29 (by decide) ?_
      exact j_iret _ dX6_about_34 (List.Perm.refl _) ⟨by first | (simp [kAbout, h5]; done) | (simp [kAbout, h5, hjc]; done) | (simp [kAbout, h5, hjc, abU_out h20]; done), u19, o19, hs19, rfl⟩
  · skip
    refine j_bipush (v := (-101)) dX6_about_8 (by decide) ?_
    refine j_goto (tgt := 34) dX6_about_10 (by decide) ?_
    exact j_iret _ dX6_about_34 (List.Perm.refl _) ⟨by first | (simp [kAbout, h5]; done) | (simp [kAbout, h5, hjc]; done) | (simp [kAbout, h5, hjc, abU_out h20]; done), u, o, sim.rf u o, rfl⟩
set_option maxHeartbeats 4000000 in
set_option maxRecDepth 100000 in
theorem tX6_as (l : Launch) (x : Cx) (q : Nat → Nat) (u : NS) (v : SS) (g : PG) (pw : Bool × Nat) (kp : KS) (o : OS) (hk : okN u) (l9 e : Int32) : MC l x 2 0 0 yX6_as cX6_as 4 (some .int) [.ref (q 0), .int l9, .int e] (mb x q u v g pw kp o) (eI (kAs u l9 e) (mb x q u v g pw kp o)) := by
  refine MC.of (by decide) (Nat.le_of_ble_eq_true rfl) eI_fit (fun M => ?_)
  show J M l x cX6_as 4 yX6_as 2 (eI (kAs u l9 e) (mb x q u v g pw kp o)) 0 0 0 [(0, .ref (q 0)), (1, .int l9), (2, .int e)] [] (mb x q u v g pw kp o)
  have hn5 : nN u ≤ 5 := hk.1
  refine j_aload_n 0 dX6_as_0 rfl rfl ?_
  refine j_iload_n 1 dX6_as_1 rfl rfl ?_
  refine j_cVi (As := [.int l9]) (rest := []) (wr := []) (ws' := mb x q u v g pw kp o) (uX6_isLodger l x q u v g pw kp o (hk).1 l9) kX6_isLodger 0 rfl rfl rfl vX6_112 dX6_as_2 (by decide) rfl rfl (Nat.le_of_ble_eq_true rfl) (pm_0 _) (List.append_nil _) ?_
  refine j_ifb_ne (b := kn (nN u) l9) (tgt := 11) dX6_as_5 (by decide) (fun h5 => ?_) (fun h5 => ?_)
  · skip
    obtain ⟨j, hj, rfl, hjc⟩ := kn_j h5 (by omega)
    refine j_iload_n 2 dX6_as_11 rfl rfl ?_
    refine j_iconst (v := 0) dX6_as_12 (by decide) ?_
    refine j_iconst (v := 4) dX6_as_13 (by decide) ?_
    refine j_cSi (As := [.int e, .int 0, .int 4]) (rest := []) (wr := mb x q u v g pw kp o) (ws' := mb x q u v g pw kp o) (tX6_within l x e 0 4) kX6_within sX6_51 dX6_as_14 (by decide) rfl rfl (Nat.le_of_ble_eq_true rfl) (List.Perm.refl _) rfl ?_
    refine j_ifb_ne (b := isW e 0 4) (tgt := 23) dX6_as_17 (by decide) (fun h17 => ?_) (fun h17 => ?_)
    · skip
      refine j_aload_n 0 dX6_as_23 rfl rfl ?_
      refine j_get (v := .ref (q 1)) 0 dX6_as_24 fX6_7 rfl rfl ?_
      refine j_iload_n 1 dX6_as_27 rfl rfl ?_
      refine j_ialdN (i := j) (f := u.1) 1 dX6_as_28 rfl (by omega) (by decide) ?_
      refine j_istore_n (lv' := [(3, .int (u.1 j)), (0, .ref (q 0)), (1, .int (nI j)), (2, .int e)]) dX6_as_29 rfl (by decide) rfl ?_
      refine j_iload_n 3 dX6_as_30 rfl rfl ?_
      refine j_if_eq (tgt := 49) dX6_as_31 (by decide) (fun h31 => ?_) (fun h31 => ?_)
      · skip
        refine j_iload_n 2 dX6_as_49 rfl rfl ?_
        refine j_goto (tgt := 54) dX6_as_50 (by decide) ?_
        exact j_iret _ dX6_as_54 (List.Perm.refl _) ⟨by first | (simp [kAs, h5]; done) | (simp [kAs, h5, h17]; done) | (rw [kAs, if_pos h5, if_pos h17, hjc]; simp [alsoB, h31]; done) | (rw [kAs, if_pos h5, if_pos h17, hjc]; simp [alsoB, h36]; done) | (rw [kAs, if_pos h5, if_pos h17, hjc]; have h36b : ¬ e = u.1 j := fun z => h36 z.symm; simp [alsoB, h31, h36b, h41]; done) | (rw [kAs, if_pos h5, if_pos h17, hjc]; have h36b : ¬ e = u.1 j := fun z => h36 z.symm; simp [alsoB, h31, h36b, h41, h46]; done) | (rw [kAs, if_pos h5, if_pos h17, hjc]; have h36b : ¬ e = u.1 j := fun z => h36 z.symm; simp [alsoB, h41, h46]; done) | (rw [kAs, if_pos h5, if_pos h17, hjc]; have h36c : ¬ (2 : Int32) = u.1 j := fun z => h36 (z.symm.trans h41.symm); simp [alsoB, h41, h36c, h46]; done), by rfl⟩
      · skip
        refine j_iload_n 0 dX6_as_34 rfl rfl ?_
        refine j_iload_n 3 dX6_as_35 rfl rfl ?_
        refine j_icmp_eq (tgt := 49) dX6_as_36 (by decide) (fun h36 => ?_) (fun h36 => ?_)
        · skip
          refine j_iload_n 2 dX6_as_49 rfl rfl ?_
          refine j_goto (tgt := 54) dX6_as_50 (by decide) ?_
          exact j_iret _ dX6_as_54 (List.Perm.refl _) ⟨by first | (simp [kAs, h5]; done) | (simp [kAs, h5, h17]; done) | (rw [kAs, if_pos h5, if_pos h17, hjc]; simp [alsoB, h31]; done) | (rw [kAs, if_pos h5, if_pos h17, hjc]; simp [alsoB, h36]; done) | (rw [kAs, if_pos h5, if_pos h17, hjc]; have h36b : ¬ e = u.1 j := fun z => h36 z.symm; simp [alsoB, h31, h36b, h41]; done) | (rw [kAs, if_pos h5, if_pos h17, hjc]; have h36b : ¬ e = u.1 j := fun z => h36 z.symm; simp [alsoB, h31, h36b, h41, h46]; done) | (rw [kAs, if_pos h5, if_pos h17, hjc]; have h36b : ¬ e = u.1 j := fun z => h36 z.symm; simp [alsoB, h41, h46]; done) | (rw [kAs, if_pos h5, if_pos h17, hjc]; have h36c : ¬ (2 : Int32) = u.1 j := fun z => h36 (z.symm.trans h41.symm); simp [alsoB, h41, h36c, h46]; done), by rfl⟩
        · skip
          refine j_iload_n 3 dX6_as_39 rfl rfl ?_
          refine j_iconst (v := 2) dX6_as_40 (by decide) ?_
          refine j_icmp_ne (tgt := 53) dX6_as_41 (by decide) (fun h41 => ?_) (fun h41 => ?_)
          · skip
            refine j_iconst (v := (-1)) dX6_as_53 (by decide) ?_
            exact j_iret _ dX6_as_54 (List.Perm.refl _) ⟨by first | (simp [kAs, h5]; done) | (simp [kAs, h5, h17]; done) | (rw [kAs, if_pos h5, if_pos h17, hjc]; simp [alsoB, h31]; done) | (rw [kAs, if_pos h5, if_pos h17, hjc]; simp [alsoB, h36]; done) | (rw [kAs, if_pos h5, if_pos h17, hjc]; have h36b : ¬ e = u.1 j := fun z => h36 z.symm; simp [alsoB, h31, h36b, h41]; done) | (rw [kAs, if_pos h5, if_pos h17, hjc]; have h36b : ¬ e = u.1 j := fun z => h36 z.symm; simp [alsoB, h31, h36b, h41, h46]; done) | (rw [kAs, if_pos h5, if_pos h17, hjc]; have h36b : ¬ e = u.1 j := fun z => h36 z.symm; simp [alsoB, h41, h46]; done) | (rw [kAs, if_pos h5, if_pos h17, hjc]; have h36c : ¬ (2 : Int32) = u.1 j := fun z => h36 (z.symm.trans h41.symm); simp [alsoB, h41, h36c, h46]; done), by rfl⟩
          · skip
            refine j_iload_n 0 dX6_as_44 rfl rfl ?_
            refine j_iconst (v := 4) dX6_as_45 (by decide) ?_
            refine j_icmp_ne (tgt := 53) dX6_as_46 (by decide) (fun h46 => ?_) (fun h46 => ?_)
            · skip
              refine j_iconst (v := (-1)) dX6_as_53 (by decide) ?_
              exact j_iret _ dX6_as_54 (List.Perm.refl _) ⟨by first | (simp [kAs, h5]; done) | (simp [kAs, h5, h17]; done) | (rw [kAs, if_pos h5, if_pos h17, hjc]; simp [alsoB, h31]; done) | (rw [kAs, if_pos h5, if_pos h17, hjc]; simp [alsoB, h36]; done) | (rw [kAs, if_pos h5, if_pos h17, hjc]; have h36b : ¬ e = u.1 j := fun z => h36 z.symm; simp [alsoB, h31, h36b, h41]; done) | (rw [kAs, if_pos h5, if_pos h17, hjc]; have h36b : ¬ e = u.1 j := fun z => h36 z.symm; simp [alsoB, h31, h36b, h41, h46]; done) | (rw [kAs, if_pos h5, if_pos h17, hjc]; have h36b : ¬ e = u.1 j := fun z => h36 z.symm; simp [alsoB, h41, h46]; done) | (rw [kAs, if_pos h5, if_pos h17, hjc]; have h36c : ¬ (2 : Int32) = u.1 j := fun z => h36 (z.symm.trans h41.symm); simp [alsoB, h41, h36c, h46]; done), by rfl⟩
            · skip
              refine j_iload_n 2 dX6_as_49 rfl rfl ?_
              refine j_goto (tgt := 54) dX6_as_50 (by decide) ?_
              exact j_iret _ dX6_as_54 (List.Perm.refl _) ⟨by first | (simp [kAs, h5]; done) | (simp [kAs, h5, h17]; done) | (rw [kAs, if_pos h5, if_pos h17, hjc]; simp [alsoB, h31]; done) | (rw [kAs, if_pos h5, if_pos h17, hjc]; simp [alsoB, h36]; done) | (rw [kAs, if_pos h5, if_pos h17, hjc]; have h36b : ¬ e = u.1 j := fun z => h36 z.symm; simp [alsoB, h31, h36b, h41]; done) | (rw [kAs, if_pos h5, if_pos h17, hjc]; have h36b : ¬ e = u.1 j := fun z => h36 z.symm; simp [alsoB, h31, h36b, h41, h46]; done) | (rw [kAs, if_pos h5, if_pos h17, hjc]; have h36b : ¬ e = u.1 j := fun z => h36 z.symm; simp [alsoB, h41, h46]; done) | (rw [kAs, if_pos h5, if_pos h17, hjc]; have h36c : ¬ (2 : Int32) = u.1 j := fun z => h36 (z.symm.trans h41.symm); simp [alsoB, h41, h36c, h46]; done), by rfl⟩
    · skip
      refine j_bipush (v := (-102)) dX6_as_20 (by decide) ?_
      exact j_iret _ dX6_as_22 (List.Perm.refl _) ⟨by first | (simp [kAs, h5]; done) | (simp [kAs, h5, h17]; done) | (rw [kAs, if_pos h5, if_pos h17, hjc]; simp [alsoB, h31]; done) | (rw [kAs, if_pos h5, if_pos h17, hjc]; simp [alsoB, h36]; done) | (rw [kAs, if_pos h5, if_pos h17, hjc]; have h36b : ¬ e = u.1 j := fun z => h36 z.symm; simp [alsoB, h31, h36b, h41]; done) | (rw [kAs, if_pos h5, if_pos h17, hjc]; have h36b : ¬ e = u.1 j := fun z => h36 z.symm; simp [alsoB, h31, h36b, h41, h46]; done) | (rw [kAs, if_pos h5, if_pos h17, hjc]; have h36b : ¬ e = u.1 j := fun z => h36 z.symm; simp [alsoB, h41, h46]; done) | (rw [kAs, if_pos h5, if_pos h17, hjc]; have h36c : ¬ (2 : Int32) = u.1 j := fun z => h36 (z.symm.trans h41.symm); simp [alsoB, h41, h36c, h46]; done), by rfl⟩
  · skip
    refine j_bipush (v := (-101)) dX6_as_8 (by decide) ?_
    exact j_iret _ dX6_as_10 (List.Perm.refl _) ⟨by first | (simp [kAs, h5]; done) | (simp [kAs, h5, h17]; done) | (rw [kAs, if_pos h5, if_pos h17, hjc]; simp [alsoB, h31]; done) | (rw [kAs, if_pos h5, if_pos h17, hjc]; simp [alsoB, h36]; done) | (rw [kAs, if_pos h5, if_pos h17, hjc]; have h36b : ¬ e = u.1 j := fun z => h36 z.symm; simp [alsoB, h31, h36b, h41]; done) | (rw [kAs, if_pos h5, if_pos h17, hjc]; have h36b : ¬ e = u.1 j := fun z => h36 z.symm; simp [alsoB, h31, h36b, h41, h46]; done) | (rw [kAs, if_pos h5, if_pos h17, hjc]; have h36b : ¬ e = u.1 j := fun z => h36 z.symm; simp [alsoB, h41, h46]; done) | (rw [kAs, if_pos h5, if_pos h17, hjc]; have h36c : ¬ (2 : Int32) = u.1 j := fun z => h36 (z.symm.trans h41.symm); simp [alsoB, h41, h36c, h46]; done), by rfl⟩
set_option maxHeartbeats 4000000 in
set_option maxRecDepth 100000 in
theorem tX6_bed (l : Launch) (x : Cx) (q : Nat → Nat) (u : NS) (v : SS) (g : PG) (pw : Bool × Nat) (kp : KS) (o : OS) (hk : okN u) : MC l x 1 0 0 yX6_bed cX6_bed 1 (some .int) [.ref (q 0)] (mb x q u v g pw kp o) (eI (kBed u) (mb x q u v g pw kp o)) := by
  refine MC.of (by decide) (Nat.le_of_ble_eq_true rfl) eI_fit (fun M => ?_)
  show J M l x cX6_bed 1 yX6_bed 1 (eI (kBed u) (mb x q u v g pw kp o)) 0 0 0 [(0, .ref (q 0))] [] (mb x q u v g pw kp o)
  have hn5 : nN u ≤ 5 := hk.1
  refine j_aload_n 0 dX6_bed_0 rfl rfl ?_
  refine j_get (v := .int (nI (nN u))) 0 dX6_bed_1 fX6_77 rfl rfl ?_
  refine j_if_ne (tgt := 12) dX6_bed_4 (by decide) (fun h4 => ?_) (fun h4 => ?_)
  · skip
    have h0 : ¬ nN u = 0 := fun z9 => h4 (by rw [z9]; rfl)
    refine j_aload_n 0 dX6_bed_12 rfl rfl ?_
    refine j_cVi (As := []) (rest := []) (wr := []) (ws' := mb x q u v g pw kp o) (uX6_whose l x q u v g pw kp o hk) kX6_whose 0 rfl rfl rfl vX6_92 dX6_bed_13 (by decide) rfl rfl (Nat.le_of_ble_eq_true rfl) (pm_0 _) (List.append_nil _) ?_
    exact j_iret _ dX6_bed_16 (List.Perm.refl _) ⟨by first | (simp [kBed, h0]; done), by rfl⟩
  · skip
    have h0 : nN u = 0 := (nI_eq (a := nN u) (b := 0) (by omega) (by decide)).mp h4
    refine j_bipush (v := (-103)) dX6_bed_7 (by decide) ?_
    refine j_goto (tgt := 16) dX6_bed_9 (by decide) ?_
    exact j_iret _ dX6_bed_16 (List.Perm.refl _) ⟨by first | (simp [kBed, h0]; done), by rfl⟩
set_option maxHeartbeats 4000000 in
set_option maxRecDepth 100000 in
theorem tX6_coffee (l : Launch) (x : Cx) (q : Nat → Nat) (u : NS) (v : SS) (g : PG) (pw : Bool × Nat) (kp : KS) (o : OS) (hk : okN u) (l9 : Int32) : MC l x 2 0 0 yX6_coffee cX6_coffee 2 (some .int) [.ref (q 0), .int l9] (mb x q u v g pw kp o) (eI (kCoffee (false, o.1, o.2.1) g u v u v l9).1 (mb x q (kCoffee (false, o.1, o.2.1) g u v u v l9).2.2.2.1 v g pw kp o)) := by
  refine MC.of (by decide) (Nat.le_of_ble_eq_true rfl) eI_fit (fun M => ?_)
  show J M l x cX6_coffee 2 yX6_coffee 2 (eI (kCoffee (false, o.1, o.2.1) g u v u v l9).1 (mb x q (kCoffee (false, o.1, o.2.1) g u v u v l9).2.2.2.1 v g pw kp o)) 0 0 0 [(0, .ref (q 0)), (1, .int l9)] [] (mb x q u v g pw kp o)
  have hn5 : nN u ≤ 5 := hk.1
  refine j_aload_n 0 dX6_coffee_0 rfl rfl ?_
  refine j_iload_n 1 dX6_coffee_1 rfl rfl ?_
  refine j_cVi (As := [.int l9]) (rest := []) (wr := []) (ws' := mb x q u v g pw kp o) (uX6_isLodger l x q u v g pw kp o (hk).1 l9) kX6_isLodger 0 rfl rfl rfl vX6_112 dX6_coffee_2 (by decide) rfl rfl (Nat.le_of_ble_eq_true rfl) (pm_0 _) (List.append_nil _) ?_
  refine j_ifb_ne (b := kn (nN u) l9) (tgt := 11) dX6_coffee_5 (by decide) (fun h5 => ?_) (fun h5 => ?_)
  · skip
    obtain ⟨j, hj, rfl, hjc⟩ := kn_j h5 (by omega)
    refine j_aload_n 0 dX6_coffee_11 rfl rfl ?_
    refine j_get (v := .ref (q 3)) 0 dX6_coffee_12 fX6_16 rfl rfl ?_
    refine j_iload_n 1 dX6_coffee_15 rfl rfl ?_
    refine j_zaldB (i := j) (f := u.2.2.1) 3 dX6_coffee_16 rfl (by omega) (by decide) ?_
    refine j_ifb_eq (b := u.2.2.1 j) (tgt := 23) dX6_coffee_17 (by decide) (fun h17 => ?_) (fun h17 => ?_)
    · skip
      refine j_aload_n 0 dX6_coffee_23 rfl rfl ?_
      refine j_iload_n 1 dX6_coffee_24 rfl rfl ?_
      refine j_cVv (As := [.int (nI j)]) (rest := []) (wr := []) (ws' := mb x q (cof u j) v g pw kp o) (uX6_drink l x q u v g pw kp o hk j (by (try simp only [nN_ph, nN_lec, nN_cof, nN_cfs, nN_hrs, nN_wak]); omega)) kX6_drink 0 rfl rfl rfl vX6_120 dX6_coffee_25 (by decide) rfl rfl (Nat.le_of_ble_eq_true rfl) (pm_0 _) (List.append_nil _) ?_
      refine j_aload_n 0 dX6_coffee_28 rfl rfl ?_
      refine j_get (v := .ref (q 2)) 0 dX6_coffee_29 fX6_13 rfl rfl ?_
      refine j_iload_n 1 dX6_coffee_32 rfl rfl ?_
      refine j_ialdN (i := j) (f := (cof u j).2.1) 2 dX6_coffee_33 rfl (by omega) (by decide) ?_
      have hK1 : (kCoffee (false, o.1, o.2.1) g u v u v (nI j)).1 = ((cof u j).2.1) j := by simp [kCoffee, hjc, h5, h17]
      have hK2 : (kCoffee (false, o.1, o.2.1) g u v u v (nI j)).2.2.2.1 = (cof u j) := by simp [kCoffee, hjc, h5, h17]
      exact j_iret _ dX6_coffee_34 (List.Perm.refl _) ⟨by rw [hK1], by rw [hK2]⟩
    · skip
      refine j_bipush (v := (-103)) dX6_coffee_20 (by decide) ?_
      have hK1 : (kCoffee (false, o.1, o.2.1) g u v u v (nI j)).1 = (-103) := by simp [kCoffee, hjc, h5, h17]
      have hK2 : (kCoffee (false, o.1, o.2.1) g u v u v (nI j)).2.2.2.1 = u := by simp [kCoffee, hjc, h5, h17]
      exact j_iret _ dX6_coffee_22 (List.Perm.refl _) ⟨by rw [hK1], by rw [hK2]⟩
  · skip
    refine j_bipush (v := (-101)) dX6_coffee_8 (by decide) ?_
    have hK1 : (kCoffee (false, o.1, o.2.1) g u v u v l9).1 = (-101) := by simp [kCoffee, h5]
    have hK2 : (kCoffee (false, o.1, o.2.1) g u v u v l9).2.2.2.1 = u := by simp [kCoffee, h5]
    exact j_iret _ dX6_coffee_10 (List.Perm.refl _) ⟨by rw [hK1], by rw [hK2]⟩
set_option maxHeartbeats 4000000 in
set_option maxRecDepth 100000 in
theorem tX6_lecture (l : Launch) (x : Cx) (q : Nat → Nat) (u : NS) (v : SS) (g : PG) (pw : Bool × Nat) (kp : KS) (o : OS) (hk : okN u) (l9 : Int32) : MC l x 2 0 0 yX6_lecture cX6_lecture 2 (some .int) [.ref (q 0), .int l9] (mb x q u v g pw kp o) (eI (kLecture (false, o.1, o.2.1) g u v u v l9).1 (mb x q (kLecture (false, o.1, o.2.1) g u v u v l9).2.2.2.1 v g pw kp o)) := by
  refine MC.of (by decide) (Nat.le_of_ble_eq_true rfl) eI_fit (fun M => ?_)
  show J M l x cX6_lecture 2 yX6_lecture 2 (eI (kLecture (false, o.1, o.2.1) g u v u v l9).1 (mb x q (kLecture (false, o.1, o.2.1) g u v u v l9).2.2.2.1 v g pw kp o)) 0 0 0 [(0, .ref (q 0)), (1, .int l9)] [] (mb x q u v g pw kp o)
  have hn5 : nN u ≤ 5 := hk.1
  refine j_aload_n 0 dX6_lecture_0 rfl rfl ?_
  refine j_iload_n 1 dX6_lecture_1 rfl rfl ?_
  refine j_cVi (As := [.int l9]) (rest := []) (wr := []) (ws' := mb x q u v g pw kp o) (uX6_isLodger l x q u v g pw kp o (hk).1 l9) kX6_isLodger 0 rfl rfl rfl vX6_112 dX6_lecture_2 (by decide) rfl rfl (Nat.le_of_ble_eq_true rfl) (pm_0 _) (List.append_nil _) ?_
  refine j_ifb_ne (b := kn (nN u) l9) (tgt := 11) dX6_lecture_5 (by decide) (fun h5 => ?_) (fun h5 => ?_)
  · skip
    obtain ⟨j, hj, rfl, hjc⟩ := kn_j h5 (by omega)
    refine j_aload_n 0 dX6_lecture_11 rfl rfl ?_
    refine j_get (v := .ref (q 3)) 0 dX6_lecture_12 fX6_16 rfl rfl ?_
    refine j_iload_n 1 dX6_lecture_15 rfl rfl ?_
    refine j_zaldB (i := j) (f := u.2.2.1) 3 dX6_lecture_16 rfl (by omega) (by decide) ?_
    refine j_ifb_eq (b := u.2.2.1 j) (tgt := 23) dX6_lecture_17 (by decide) (fun h17 => ?_) (fun h17 => ?_)
    · skip
      refine j_aload_n 0 dX6_lecture_23 rfl rfl ?_
      refine j_iload_n 1 dX6_lecture_24 rfl rfl ?_
      refine j_cVv (As := [.int (nI j)]) (rest := []) (wr := []) (ws' := mb x q (lec u (some j)) v g pw kp o) (uX6_hearLecture l x q u v g pw kp o hk j (by (try simp only [nN_ph, nN_lec, nN_cof, nN_cfs, nN_hrs, nN_wak]); omega)) kX6_hearLecture 0 rfl rfl rfl vX6_123 dX6_lecture_25 (by decide) rfl rfl (Nat.le_of_ble_eq_true rfl) (pm_0 _) (List.append_nil _) ?_
      refine j_aload_n 0 dX6_lecture_28 rfl rfl ?_
      refine j_get (v := .ref (q 2)) 0 dX6_lecture_29 fX6_13 rfl rfl ?_
      refine j_iload_n 1 dX6_lecture_32 rfl rfl ?_
      refine j_ialdN (i := j) (f := (lec u (some j)).2.1) 2 dX6_lecture_33 rfl (by omega) (by decide) ?_
      have hK1 : (kLecture (false, o.1, o.2.1) g u v u v (nI j)).1 = ((lec u (some j)).2.1) j := by simp [kLecture, hjc, h5, h17]
      have hK2 : (kLecture (false, o.1, o.2.1) g u v u v (nI j)).2.2.2.1 = (lec u (some j)) := by simp [kLecture, hjc, h5, h17]
      exact j_iret _ dX6_lecture_34 (List.Perm.refl _) ⟨by rw [hK1], by rw [hK2]⟩
    · skip
      refine j_bipush (v := (-103)) dX6_lecture_20 (by decide) ?_
      have hK1 : (kLecture (false, o.1, o.2.1) g u v u v (nI j)).1 = (-103) := by simp [kLecture, hjc, h5, h17]
      have hK2 : (kLecture (false, o.1, o.2.1) g u v u v (nI j)).2.2.2.1 = u := by simp [kLecture, hjc, h5, h17]
      exact j_iret _ dX6_lecture_22 (List.Perm.refl _) ⟨by rw [hK1], by rw [hK2]⟩
  · skip
    refine j_bipush (v := (-101)) dX6_lecture_8 (by decide) ?_
    have hK1 : (kLecture (false, o.1, o.2.1) g u v u v l9).1 = (-101) := by simp [kLecture, h5]
    have hK2 : (kLecture (false, o.1, o.2.1) g u v u v l9).2.2.2.1 = u := by simp [kLecture, h5]
    exact j_iret _ dX6_lecture_10 (List.Perm.refl _) ⟨by rw [hK1], by rw [hK2]⟩
set_option maxHeartbeats 4000000 in
set_option maxRecDepth 100000 in
theorem tX6_hour (l : Launch) (x : Cx) (q : Nat → Nat) (u : NS) (v : SS) (g : PG) (pw : Bool × Nat) (kp : KS) (o : OS) (hk : okN u) : MC l x 2 0 0 yX6_hour cX6_hour 1 (some .int) [.ref (q 0)] (mb x q u v g pw kp o) (eI (kHour (false, o.1, o.2.1) g u v u v).1 (mb x q (kHour (false, o.1, o.2.1) g u v u v).2.2.2.1 v g pw kp o)) := by
  refine MC.of (by decide) (Nat.le_of_ble_eq_true rfl) eI_fit (fun M => ?_)
  show J M l x cX6_hour 1 yX6_hour 2 (eI (kHour (false, o.1, o.2.1) g u v u v).1 (mb x q (kHour (false, o.1, o.2.1) g u v u v).2.2.2.1 v g pw kp o)) 0 0 0 [(0, .ref (q 0))] [] (mb x q u v g pw kp o)
  have hn5 : nN u ≤ 5 := hk.1
  refine j_aload_n 0 dX6_hour_0 rfl rfl ?_
  refine j_get (v := .int (nI (nN u))) 0 dX6_hour_1 fX6_77 rfl rfl ?_
  refine j_if_ne (tgt := 10) dX6_hour_4 (by decide) (fun h4 => ?_) (fun h4 => ?_)
  · skip
    have h0 : ¬ nN u = 0 := fun z9 => h4 (by rw [z9]; rfl)
    refine j_aload_n 0 dX6_hour_10 rfl rfl ?_
    refine j_cVv (As := []) (rest := []) (wr := []) (ws' := mb x q (ph u) v g pw kp o) (uX6_goHour l x q u v g pw kp o hk) kX6_goHour 0 rfl rfl rfl vX6_126 dX6_hour_11 (by decide) rfl rfl (Nat.le_of_ble_eq_true rfl) (pm_0 _) (List.append_nil _) ?_
    refine j_aload_n 0 dX6_hour_14 rfl rfl ?_
    refine j_cVi (As := []) (rest := []) (wr := []) (ws' := mb x q (ph u) v g pw kp o) (uX6_sleeping l x q (ph u) v g pw kp o ((okN_ph hk)).1) kX6_sleeping 0 rfl rfl rfl vX6_129 dX6_hour_15 (by decide) rfl rfl (Nat.le_of_ble_eq_true rfl) (pm_0 _) (List.append_nil _) ?_
    have hK1 : (kHour (false, o.1, o.2.1) g u v u v).1 = nI (cntS (ph u).2.2.1 (nN (ph u))) := by simp [kHour, h0]
    have hK2 : (kHour (false, o.1, o.2.1) g u v u v).2.2.2.1 = (ph u) := by simp [kHour, h0]
    exact j_iret _ dX6_hour_18 (List.Perm.refl _) ⟨by rw [hK1], by rw [hK2]⟩
  · skip
    have h0 : nN u = 0 := (nI_eq (a := nN u) (b := 0) (by omega) (by decide)).mp h4
    refine j_bipush (v := (-103)) dX6_hour_7 (by decide) ?_
    have hK1 : (kHour (false, o.1, o.2.1) g u v u v).1 = (-103) := by simp [kHour, h0]
    have hK2 : (kHour (false, o.1, o.2.1) g u v u v).2.2.2.1 = u := by simp [kHour, h0]
    exact j_iret _ dX6_hour_9 (List.Perm.refl _) ⟨by rw [hK1], by rw [hK2]⟩
set_option maxHeartbeats 4000000 in
set_option maxRecDepth 100000 in
theorem tX6_howMany (l : Launch) (x : Cx) (q : Nat → Nat) (u : NS) (v : SS) (g : PG) (pw : Bool × Nat) (kp : KS) (o : OS) (hk : okN u) (e : Int32) : MC l x 1 0 0 yX6_howMany cX6_howMany 2 (some .int) [.ref (q 0), .int e] (mb x q u v g pw kp o) (eI (kCount (false, o.1, o.2.1) g u v e) (mb x q u v g pw kp o)) := by
  refine MC.of (by decide) (Nat.le_of_ble_eq_true rfl) eI_fit (fun M => ?_)
  show J M l x cX6_howMany 2 yX6_howMany 1 (eI (kCount (false, o.1, o.2.1) g u v e) (mb x q u v g pw kp o)) 0 0 0 [(0, .ref (q 0)), (1, .int e)] [] (mb x q u v g pw kp o)
  have hn5 : nN u ≤ 5 := hk.1
  refine j_iload_n 1 dX6_howMany_0 rfl rfl ?_
  by_cases s1_0 : e = 0
  · refine j_tabC (0) 0 s1_0 (by decide) dX6_howMany_1 rfl (by decide : (1 : Int) + 51 = ((52 : Nat) : Int)) ?_
    refine j_aload_n 0 dX6_howMany_52 rfl rfl ?_
    refine j_get (v := .int (nI (nN u))) 0 dX6_howMany_53 fX6_77 rfl rfl ?_
    exact j_iret _ dX6_howMany_56 (List.Perm.refl _) ⟨by simp [kCount, *], by rfl⟩
  by_cases s1_1 : e = 1
  · refine j_tabC (1) 1 s1_1 (by decide) dX6_howMany_1 rfl (by decide : (1 : Int) + 56 = ((57 : Nat) : Int)) ?_
    refine j_aload_n 0 dX6_howMany_57 rfl rfl ?_
    refine j_get (v := .int (nD u)) 0 dX6_howMany_58 fX6_80 rfl rfl ?_
    exact j_iret _ dX6_howMany_61 (List.Perm.refl _) ⟨by simp [kCount, *], by rfl⟩
  by_cases s1_2 : e = 2
  · refine j_tabC (2) 2 s1_2 (by decide) dX6_howMany_1 rfl (by decide : (1 : Int) + 61 = ((62 : Nat) : Int)) ?_
    refine j_aload_n 0 dX6_howMany_62 rfl rfl ?_
    refine j_cVi (As := []) (rest := []) (wr := []) (ws' := mb x q u v g pw kp o) (uX6_sleeping l x q u v g pw kp o (hk).1) kX6_sleeping 0 rfl rfl rfl vX6_129 dX6_howMany_63 (by decide) rfl rfl (Nat.le_of_ble_eq_true rfl) (pm_0 _) (List.append_nil _) ?_
    exact j_iret _ dX6_howMany_66 (List.Perm.refl _) ⟨by simp [kCount, *], by rfl⟩
  by_cases s1_3 : e = 3
  · refine j_tabC (3) 3 s1_3 (by decide) dX6_howMany_1 rfl (by decide : (1 : Int) + 66 = ((67 : Nat) : Int)) ?_
    refine j_aload_n 0 dX6_howMany_67 rfl rfl ?_
    refine j_get (v := .int (nH u)) 0 dX6_howMany_68 fX6_86 rfl rfl ?_
    exact j_iret _ dX6_howMany_71 (List.Perm.refl _) ⟨by simp [kCount, *], by rfl⟩
  by_cases s1_4 : e = 4
  · refine j_tabC (4) 4 s1_4 (by decide) dX6_howMany_1 rfl (by decide : (1 : Int) + 71 = ((72 : Nat) : Int)) ?_
    refine j_aload_n 0 dX6_howMany_72 rfl rfl ?_
    refine j_cVi (As := []) (rest := []) (wr := []) (ws' := mb x q u v g pw kp o) (uX6_tiredAll l x q u v g pw kp o (hk).1) kX6_tiredAll 0 rfl rfl rfl vX6_204 dX6_howMany_73 (by decide) rfl rfl (Nat.le_of_ble_eq_true rfl) (pm_0 _) (List.append_nil _) ?_
    exact j_iret _ dX6_howMany_76 (List.Perm.refl _) ⟨by simp [kCount, *], by rfl⟩
  by_cases s1_5 : e = 5
  · refine j_tabC (5) 5 s1_5 (by decide) dX6_howMany_1 rfl (by decide : (1 : Int) + 76 = ((77 : Nat) : Int)) ?_
    refine j_aload_n 0 dX6_howMany_77 rfl rfl ?_
    refine j_get (v := .int (nI v.2.2)) 0 dX6_howMany_78 fX6_89 rfl rfl ?_
    exact j_iret _ dX6_howMany_81 (List.Perm.refl _) ⟨by simp [kCount, *], by rfl⟩
  by_cases s1_6 : e = 6
  · refine j_tabC (6) 6 s1_6 (by decide) dX6_howMany_1 rfl (by decide : (1 : Int) + 81 = ((82 : Nat) : Int)) ?_
    refine j_aload_n 0 dX6_howMany_82 rfl rfl ?_
    refine j_get (v := .int (nI g.2)) 0 dX6_howMany_83 fX6_55 rfl rfl ?_
    exact j_iret _ dX6_howMany_86 (List.Perm.refl _) ⟨by simp [kCount, *], by rfl⟩
  by_cases s1_7 : e = 7
  · refine j_tabC (7) 7 s1_7 (by decide) dX6_howMany_1 rfl (by decide : (1 : Int) + 86 = ((87 : Nat) : Int)) ?_
    refine j_aload_n 0 dX6_howMany_87 rfl rfl ?_
    refine j_get (v := .int (nI o.1)) 0 dX6_howMany_88 fX6_83 rfl rfl ?_
    exact j_iret _ dX6_howMany_91 (List.Perm.refl _) ⟨by simp [kCount, *], by rfl⟩
  by_cases s1_8 : e = 8
  · refine j_tabC (8) 8 s1_8 (by decide) dX6_howMany_1 rfl (by decide : (1 : Int) + 91 = ((92 : Nat) : Int)) ?_
    refine j_aload_n 0 dX6_howMany_92 rfl rfl ?_
    refine j_get (v := .int (nI o.2.1)) 0 dX6_howMany_93 fX6_148 rfl rfl ?_
    exact j_iret _ dX6_howMany_96 (List.Perm.refl _) ⟨by simp [kCount, *], by rfl⟩
  refine j_tabD dX6_howMany_1 (fun j hj => match j, hj with | 0, _ => Or.inr (lv_neT s1_0 (by decide)) | 1, _ => Or.inr (lv_neT s1_1 (by decide)) | 2, _ => Or.inr (lv_neT s1_2 (by decide)) | 3, _ => Or.inr (lv_neT s1_3 (by decide)) | 4, _ => Or.inr (lv_neT s1_4 (by decide)) | 5, _ => Or.inr (lv_neT s1_5 (by decide)) | 6, _ => Or.inr (lv_neT s1_6 (by decide)) | 7, _ => Or.inr (lv_neT s1_7 (by decide)) | 8, _ => Or.inr (lv_neT s1_8 (by decide)) | j + 9, hj => absurd hj (by omega)) (by decide : (1 : Int) + 96 = ((97 : Nat) : Int)) ?_
  refine j_bipush (v := (-102)) dX6_howMany_97 (by decide) ?_
  exact j_iret _ dX6_howMany_99 (List.Perm.refl _) ⟨by simp [kCount, *], by rfl⟩
set_option maxHeartbeats 4000000 in
set_option maxRecDepth 100000 in
theorem tX6_count (l : Launch) (x : Cx) (q : Nat → Nat) (u : NS) (v : SS) (g : PG) (pw : Bool × Nat) (kp : KS) (o : OS) (hk : okN u) (e : Int32) : MC l x 2 0 0 yX6_count cX6_count 2 (some .int) [.ref (q 0), .int e] (mb x q u v g pw kp o) (eI (kCount (false, o.1, o.2.1) g u v e) (mb x q u v g pw kp o)) := by
  refine MC.of (by decide) (Nat.le_of_ble_eq_true rfl) eI_fit (fun M => ?_)
  show J M l x cX6_count 2 yX6_count 2 (eI (kCount (false, o.1, o.2.1) g u v e) (mb x q u v g pw kp o)) 0 0 0 [(0, .ref (q 0)), (1, .int e)] [] (mb x q u v g pw kp o)
  have hn5 : nN u ≤ 5 := hk.1
  refine j_aload_n 0 dX6_count_0 rfl rfl ?_
  refine j_iload_n 1 dX6_count_1 rfl rfl ?_
  refine j_cVi (As := [.int e]) (rest := []) (wr := []) (ws' := mb x q u v g pw kp o) (tX6_howMany l x q u v g pw kp o hk e) kX6_howMany 0 rfl rfl rfl vX6_207 dX6_count_2 (by decide) rfl rfl (Nat.le_of_ble_eq_true rfl) (pm_0 _) (List.append_nil _) ?_
  exact j_iret _ dX6_count_5 (List.Perm.refl _) ⟨by rfl, by rfl⟩
set_option maxHeartbeats 4000000 in
set_option maxRecDepth 100000 in
theorem tX6_mix (l : Launch) (x : Cx) (q : Nat → Nat) (u : NS) (v : SS) (g : PG) (pw : Bool × Nat) (kp : KS) (o : OS) (y : Int64) : MC l x 0 0 0 yX6_mix cX6_mix 3 none [.ref (q 0), .long y] (mb x q u v g pw kp o) (eV (mb x q u v g pw kp (setH o (31 * o.2.2.2.2.2.2 + y)))) := by
  refine MC.of (by decide) (Nat.le_of_ble_eq_true rfl) eV_fit (fun M => ?_)
  show J M l x cX6_mix 3 yX6_mix 0 (eV (mb x q u v g pw kp (setH o (31 * o.2.2.2.2.2.2 + y)))) 0 0 0 [(0, .ref (q 0)), (1, .long y)] [] (mb x q u v g pw kp o)
  refine j_aload_n 0 dX6_mix_0 rfl rfl ?_
  refine j_ldc2 dX6_mix_1 pX6_210 ?_
  refine j_aload_n 0 dX6_mix_4 rfl rfl ?_
  refine j_get (v := .long o.2.2.2.2.2.2) 0 dX6_mix_5 fX6_212 rfl rfl ?_
  refine j_lmul dX6_mix_8 ?_
  refine j_lload_n 1 dX6_mix_9 rfl rfl ?_
  refine j_ladd dX6_mix_10 ?_
  refine j_put (v := .long ((31 * o.2.2.2.2.2.2) + y)) (ws' := mb x q u v g pw kp (o.1, o.2.1, o.2.2.1, o.2.2.2.1, o.2.2.2.2.1, o.2.2.2.2.2.1, (31 * o.2.2.2.2.2.2) + y)) 0 dX6_mix_11 fX6_212 rfl rfl rfl (Nat.le_of_ble_eq_true rfl) rfl ?_
  exact j_vret _ dX6_mix_14 (List.Perm.refl _) ⟨rfl, by rfl⟩
theorem ctS {u u' : NS} {o o' : OS} {z : Int64} (h : sim u (setH o z) u' o') (g : PG) (v : SS) (a : Int32) : kCount (false, o'.1, o'.2.1) g u' v a = kCount (false, o.1, o.2.1) g u v a := by
  rw [h.1.ctE, h.2.1, h.2.2.1]; rfl
set_option maxHeartbeats 4000000 in
set_option maxRecDepth 100000 in
theorem lp_mdC {M : Mx} (l : Launch) (x : Cx) (q : Nat → Nat) (u : NS) (v : SS) (g : PG) (pw : Bool × Nat) (kp : KS) (o : OS) (hk : okN u) (hv : vok v) (hg : g.2 ≤ 18) {k0 n0 : Nat}  : ∀ (m : Nat) (b : Nat) (z : Int64) (u' : NS) (o' : OS), b ≤ 9 → itr (fun a h => mx h (kCount (false, o.1, o.2.1) g u v (nI a))) (9 - b) b z = kDigest (false, o.1, o.2.1) g u v → sim u (setH o z) u' o' → 9 - b < m → J M l x cX6_digest 3 yX6_digest 5 (fun v9 ws => v9 = some (.long (kDigest (false, o.1, o.2.1) g u v)) ∧ ∃ (z' : Int64) (u' : NS) (o' : OS), sim u (setH o z') u' o' ∧ ws = mb x q u' v g pw kp o') k0 n0 137 [(0, .ref (q 0)), (1, .int (nI b))] [] (mb x q u' v g pw kp o') := by
  intro m; induction m with
  | zero => intro b z u' o' hc0 hc1 hc2 hm; exact absurd hm (Nat.not_lt_zero _)
  | succ m ih =>
    intro b z u' o' hc0 hc1 hc2 hm
    have hcS := hc2
    have hn5 : nN u ≤ 5 := hk.1
    have hku' : okN u' := okN_eq hcS.1.symm hk
    have hnn := hcS.1.nE
    refine j_iload_n 1 dX6_digest_137 rfl rfl ?_
    refine j_bipush (v := 9) dX6_digest_138 (by decide) ?_
    refine j_icmpN_ge (a := b) (b := 9) (by omega) (by omega) (tgt := 159) dX6_digest_140 (by decide) (fun h140 => ?_) (fun h140 => ?_)
    · skip
      refine j_aload_n 0 dX6_digest_159 rfl rfl ?_
      refine j_get (v := .long o'.2.2.2.2.2.2) 0 dX6_digest_160 fX6_212 rfl rfl ?_
      exact j_lret _ dX6_digest_163 (List.Perm.refl _) ⟨by rw [hcS.hz, ← hc1, itr_end (n := 9) (b := b) (by omega)], z, u', o', hcS, rfl⟩
    · skip
      refine j_aload_n 0 dX6_digest_143 rfl rfl ?_
      refine j_aload_n 0 dX6_digest_144 rfl rfl ?_
      refine j_iload_n 1 dX6_digest_145 rfl rfl ?_
      refine j_cVi (As := [.int (nI b)]) (rest := [.ref (q 0)]) (wr := []) (ws' := mb x q u' v g pw kp o') (tX6_howMany l x q u' v g pw kp o' hku' (nI b)) kX6_howMany 0 rfl rfl rfl vX6_207 dX6_digest_146 (by decide) rfl rfl (Nat.le_of_ble_eq_true rfl) (pm_0 _) (List.append_nil _) ?_
      refine j_topi (b := kCount (false, o.1, o.2.1) g u v (nI b)) (ctS hcS g v _) ?_
      refine j_i2l dX6_digest_149 ?_
      refine j_cVv (As := [.long ((kCount (false, o.1, o.2.1) g u v (nI b)).toInt64)]) (rest := []) (wr := []) (ws' := mb x q u' v g pw kp (setH o' (31 * o'.2.2.2.2.2.2 + ((kCount (false, o.1, o.2.1) g u v (nI b)).toInt64)))) (tX6_mix l x q u' v g pw kp o' ((kCount (false, o.1, o.2.1) g u v (nI b)).toInt64)) kX6_mix 0 rfl rfl rfl vX6_217 dX6_digest_150 (by decide) rfl rfl (Nat.le_of_ble_eq_true rfl) (pm_0 _) (List.append_nil _) ?_
      refine j_iinc (v := nI (b + 1)) (lv' := [(1, .int (nI (b + 1))), (0, .ref (q 0))]) 1 dX6_digest_153 rfl (nI_1 b) (by decide) rfl ?_
      refine j_goto (tgt := 137) dX6_digest_156 (by decide) ?_
      refine j_lv [1, 0] (lv' := [(0, .ref (q 0)), (1, .int (nI (b + 1)))]) rfl ?_
      exact ih (b + 1) _ _ _ (by omega) (by rw [← hc1, itr_go (n := 9) (b := b) (by omega)]; rfl) (sim_mix hcS) (by omega)
set_option maxHeartbeats 4000000 in
set_option maxRecDepth 100000 in
theorem lp_mdP {M : Mx} (l : Launch) (x : Cx) (q : Nat → Nat) (u : NS) (v : SS) (g : PG) (pw : Bool × Nat) (kp : KS) (o : OS) (hk : okN u) (hv : vok v) (hg : g.2 ≤ 18) {k0 n0 : Nat}  : ∀ (m : Nat) (p : Nat) (z : Int64) (u' : NS) (o' : OS), p ≤ g.2 → itr (fun p h => mx h (g.1 p)) (g.2 - p) p z = dgP g (dgB u (itr (dgL u v) (nN u) 0 953)) → sim u (setH o z) u' o' → g.2 - p < m → J M l x cX6_digest 3 yX6_digest 5 (fun v9 ws => v9 = some (.long (kDigest (false, o.1, o.2.1) g u v)) ∧ ∃ (z' : Int64) (u' : NS) (o' : OS), sim u (setH o z') u' o' ∧ ws = mb x q u' v g pw kp o') k0 n0 110 [(0, .ref (q 0)), (1, .int (nI p))] [] (mb x q u' v g pw kp o') := by
  intro m; induction m with
  | zero => intro p z u' o' hc0 hc1 hc2 hm; exact absurd hm (Nat.not_lt_zero _)
  | succ m ih =>
    intro p z u' o' hc0 hc1 hc2 hm
    have hcS := hc2
    have hn5 : nN u ≤ 5 := hk.1
    have hku' : okN u' := okN_eq hcS.1.symm hk
    have hnn := hcS.1.nE
    refine j_iload_n 1 dX6_digest_110 rfl rfl ?_
    refine j_aload_n 0 dX6_digest_111 rfl rfl ?_
    refine j_get (v := .int (nI g.2)) 0 dX6_digest_112 fX6_55 rfl rfl ?_
    refine j_icmpN_ge (a := p) (b := g.2) (by omega) (by omega) (tgt := 135) dX6_digest_115 (by decide) (fun h115 => ?_) (fun h115 => ?_)
    · skip
      refine j_iconst (v := nI 0) dX6_digest_135 (by decide) ?_
      refine j_istore_n (lv' := [(1, .int (nI 0)), (0, .ref (q 0))]) dX6_digest_136 rfl (by decide) rfl ?_
      refine j_lv [1, 0] (lv' := [(0, .ref (q 0)), (1, .int (nI 0))]) rfl ?_
      exact lp_mdC l x q u v g pw kp o hk hv hg 10 0 z u' o' (by omega) (by rw [itr_end (n := g.2) (b := p) (by omega)] at hc1; rw [hc1]; rfl) hcS (by omega)
    · skip
      refine j_aload_n 0 dX6_digest_118 rfl rfl ?_
      refine j_aload_n 0 dX6_digest_119 rfl rfl ?_
      refine j_get (v := .ref (q 7)) 0 dX6_digest_120 fX6_29 rfl rfl ?_
      refine j_iload_n 1 dX6_digest_123 rfl rfl ?_
      refine j_baldN (i := p) (f := g.1) 7 dX6_digest_124 rfl (by omega) (by decide) ?_
      refine j_i2l dX6_digest_125 ?_
      refine j_cVv (As := [.long ((g.1 p).toInt64)]) (rest := []) (wr := []) (ws' := mb x q u' v g pw kp (setH o' (31 * o'.2.2.2.2.2.2 + ((g.1 p).toInt64)))) (tX6_mix l x q u' v g pw kp o' ((g.1 p).toInt64)) kX6_mix 0 rfl rfl rfl vX6_217 dX6_digest_126 (by decide) rfl rfl (Nat.le_of_ble_eq_true rfl) (pm_0 _) (List.append_nil _) ?_
      refine j_iinc (v := nI (p + 1)) (lv' := [(1, .int (nI (p + 1))), (0, .ref (q 0))]) 1 dX6_digest_129 rfl (nI_1 p) (by decide) rfl ?_
      refine j_goto (tgt := 110) dX6_digest_132 (by decide) ?_
      refine j_lv [1, 0] (lv' := [(0, .ref (q 0)), (1, .int (nI (p + 1)))]) rfl ?_
      exact ih (p + 1) _ _ _ (by omega) (by rw [← hc1, itr_go (n := g.2) (b := p) (by omega)]; rfl) (sim_mix hcS) (by omega)
set_option maxHeartbeats 4000000 in
set_option maxRecDepth 100000 in
theorem lp_mdA {M : Mx} (l : Launch) (x : Cx) (q : Nat → Nat) (u : NS) (v : SS) (g : PG) (pw : Bool × Nat) (kp : KS) (o : OS) (hk : okN u) (hv : vok v) (hg : g.2 ≤ 18) (j : Nat) (hj : j < nN u) (rr : Int64) {k0 n0 : Nat} (hK : ∀ (u' : NS) (o' : OS), sim u (setH o rr) u' o' → J M l x cX6_digest 3 yX6_digest 5 (fun v9 ws => v9 = some (.long (kDigest (false, o.1, o.2.1) g u v)) ∧ ∃ (z' : Int64) (u' : NS) (o' : OS), sim u (setH o z') u' o' ∧ ws = mb x q u' v g pw kp o') k0 n0 42 [(0, .ref (q 0)), (1, .int (nI j))] [] (mb x q u' v g pw kp o')) : ∀ (m : Nat) (b : Nat) (z : Int64) (u' : NS) (o' : OS), b ≤ 7 → itr (fun a h => mx h (abU u v j (nI a))) (7 - b) b z = rr → sim u (setH o z) u' o' → 7 - b < m → J M l x cX6_digest 3 yX6_digest 5 (fun v9 ws => v9 = some (.long (kDigest (false, o.1, o.2.1) g u v)) ∧ ∃ (z' : Int64) (u' : NS) (o' : OS), sim u (setH o z') u' o' ∧ ws = mb x q u' v g pw kp o') k0 n0 19 [(0, .ref (q 0)), (1, .int (nI j)), (2, .int (nI b))] [] (mb x q u' v g pw kp o') := by
  intro m; induction m with
  | zero => intro b z u' o' hc0 hc1 hc2 hm; exact absurd hm (Nat.not_lt_zero _)
  | succ m ih =>
    intro b z u' o' hc0 hc1 hc2 hm
    have hcS := hc2
    have hn5 : nN u ≤ 5 := hk.1
    have hku' : okN u' := okN_eq hcS.1.symm hk
    have hnn := hcS.1.nE
    have hw6 : ∀ b, b < 7 → isW (nI b) 0 6 = true := by decide +kernel
    refine j_iload_n 2 dX6_digest_19 rfl rfl ?_
    refine j_bipush (v := 7) dX6_digest_20 (by decide) ?_
    refine j_icmpN_ge (a := b) (b := 7) (by omega) (by omega) (tgt := 42) dX6_digest_22 (by decide) (fun h22 => ?_) (fun h22 => ?_)
    · skip
      refine j_lv [0, 1] (lv' := [(0, .ref (q 0)), (1, .int (nI j))]) rfl ?_
      rw [itr_end (n := 7) (b := b) (by omega)] at hc1
      subst hc1
      exact hK u' o' hcS
    · skip
      refine j_aload_n 0 dX6_digest_25 rfl rfl ?_
      refine j_aload_n 0 dX6_digest_26 rfl rfl ?_
      refine j_iload_n 1 dX6_digest_27 rfl rfl ?_
      refine j_iload_n 2 dX6_digest_28 rfl rfl ?_
      refine j_callV (As := [.int (nI j), .int (nI b)]) (rest := [.ref (q 0)]) (wr := []) (tX6_lodgerNow l x q u' v g pw kp o' hku' hv j (by (try simp only [nN_ph, nN_lec, nN_cof, nN_cfs, nN_hrs, nN_wak]); omega) (nI b) (hw6 b (by omega))) kX6_lodgerNow vX6_116 0 rfl rfl rfl dX6_digest_29 (by decide) (Nat.le_of_eq (Nat.zero_add _)) (Nat.le_of_eq (Nat.zero_add _)) rfl rfl (Nat.le_of_ble_eq_true rfl) (pm_0 _) (fun v9 w9 hv9 => ?_)
      obtain ⟨rfl, u19, o19, hs19, rfl⟩ := hv9
      refine j_eq (lv' := [(0, .ref (q 0)), (1, .int (nI j)), (2, .int (nI b))]) (st' := [.int (abU u' v j (nI b)), .ref (q 0)]) (ws' := mb x q u19 v g pw kp o19) rfl rfl (List.append_nil _) ?_
      have hku19 : okN u19 := okN_eq hs19.1.symm hku'
      refine j_topi (b := abU u v j (nI b)) (hcS.1.abE v (by omega) _) ?_
      refine j_i2l dX6_digest_32 ?_
      refine j_cVv (As := [.long ((abU u v j (nI b)).toInt64)]) (rest := []) (wr := []) (ws' := mb x q u19 v g pw kp (setH o19 (31 * o19.2.2.2.2.2.2 + ((abU u v j (nI b)).toInt64)))) (tX6_mix l x q u19 v g pw kp o19 ((abU u v j (nI b)).toInt64)) kX6_mix 0 rfl rfl rfl vX6_217 dX6_digest_33 (by decide) rfl rfl (Nat.le_of_ble_eq_true rfl) (pm_0 _) (List.append_nil _) ?_
      refine j_iinc (v := nI (b + 1)) (lv' := [(2, .int (nI (b + 1))), (0, .ref (q 0)), (1, .int (nI j))]) 2 dX6_digest_36 rfl (nI_1 b) (by decide) rfl ?_
      refine j_goto (tgt := 19) dX6_digest_39 (by decide) ?_
      refine j_lv [1, 2, 0] (lv' := [(0, .ref (q 0)), (1, .int (nI j)), (2, .int (nI (b + 1)))]) rfl ?_
      exact ih (b + 1) _ _ _ (by omega) (by rw [← hc1, itr_go (n := 7) (b := b) (by omega)]; rfl) (sim_mix (hcS.trans hs19)) (by omega)
set_option maxHeartbeats 4000000 in
set_option maxRecDepth 100000 in
theorem lp_mdL {M : Mx} (l : Launch) (x : Cx) (q : Nat → Nat) (u : NS) (v : SS) (g : PG) (pw : Bool × Nat) (kp : KS) (o : OS) (hk : okN u) (hv : vok v) (hg : g.2 ≤ 18) {k0 n0 : Nat}  : ∀ (m : Nat) (j : Nat) (z : Int64) (u' : NS) (o' : OS), j ≤ nN u → itr (dgL u v) (nN u - j) j z = itr (dgL u v) (nN u) 0 953 → sim u (setH o z) u' o' → nN u - j < m → J M l x cX6_digest 3 yX6_digest 5 (fun v9 ws => v9 = some (.long (kDigest (false, o.1, o.2.1) g u v)) ∧ ∃ (z' : Int64) (u' : NS) (o' : OS), sim u (setH o z') u' o' ∧ ws = mb x q u' v g pw kp o') k0 n0 9 [(0, .ref (q 0)), (1, .int (nI j))] [] (mb x q u' v g pw kp o') := by
  intro m; induction m with
  | zero => intro j z u' o' hc0 hc1 hc2 hm; exact absurd hm (Nat.not_lt_zero _)
  | succ m ih =>
    intro j z u' o' hc0 hc1 hc2 hm
    have hcS := hc2
    have hn5 : nN u ≤ 5 := hk.1
    have hku' : okN u' := okN_eq hcS.1.symm hk
    have hnn := hcS.1.nE
    refine j_iload_n 1 dX6_digest_9 rfl rfl ?_
    refine j_aload_n 0 dX6_digest_10 rfl rfl ?_
    refine j_get (v := .int (nI (nN u'))) 0 dX6_digest_11 fX6_77 rfl rfl ?_
    refine j_icmpN_ge (a := j) (b := nN u') (by omega) (by omega) (tgt := 72) dX6_digest_14 (by decide) (fun h14 => ?_) (fun h14 => ?_)
    · skip
      refine j_aload_n 0 dX6_digest_72 rfl rfl ?_
      refine j_get (v := .int (nI (nN u'))) 0 dX6_digest_73 fX6_77 rfl rfl ?_
      refine j_if_le (tgt := 108) dX6_digest_76 (by decide) (fun h76 => ?_) (fun h76 => ?_)
      · skip
        have h0 : nN u = 0 := by have := nI_le0 (by omega) h76; omega
        refine j_iconst (v := nI 0) dX6_digest_108 (by decide) ?_
        refine j_istore_n (lv' := [(1, .int (nI 0)), (0, .ref (q 0))]) dX6_digest_109 rfl (by decide) rfl ?_
        refine j_lv [1, 0] (lv' := [(0, .ref (q 0)), (1, .int (nI 0))]) rfl ?_
        exact lp_mdP l x q u v g pw kp o hk hv hg (g.2 + 1) 0 _ _ _ (by omega) (by rw [dgP, Nat.sub_zero]; exact congrArg (itr (fun p h => mx h (g.1 p)) g.2 0) (by rw [← hc1, itr_end (n := nN u) (b := j) (by omega)]; first | (rw [dgB, if_pos h0]; done) | (rw [dgB, if_neg h0]; rfl))) hcS (by omega)
      · skip
        have h0 : ¬ nN u = 0 := by have := nI_gt0 h76; omega
        refine j_aload_n 0 dX6_digest_79 rfl rfl ?_
        refine j_aload_n 0 dX6_digest_80 rfl rfl ?_
        refine j_cVi (As := []) (rest := [.ref (q 0)]) (wr := []) (ws' := mb x q u' v g pw kp o') (uX6_whose l x q u' v g pw kp o' hku') kX6_whose 0 rfl rfl rfl vX6_92 dX6_digest_81 (by decide) rfl rfl (Nat.le_of_ble_eq_true rfl) (pm_0 _) (List.append_nil _) ?_
        refine j_topi (b := oI (wbU u)) (by rw [hcS.1.wE]) ?_
        refine j_i2l dX6_digest_84 ?_
        refine j_cVv (As := [.long ((oI (wbU u)).toInt64)]) (rest := []) (wr := []) (ws' := mb x q u' v g pw kp (setH o' (31 * o'.2.2.2.2.2.2 + ((oI (wbU u)).toInt64)))) (tX6_mix l x q u' v g pw kp o' ((oI (wbU u)).toInt64)) kX6_mix 0 rfl rfl rfl vX6_217 dX6_digest_85 (by decide) rfl rfl (Nat.le_of_ble_eq_true rfl) (pm_0 _) (List.append_nil _) ?_
        refine j_aload_n 0 dX6_digest_88 rfl rfl ?_
        refine j_aload_n 0 dX6_digest_89 rfl rfl ?_
        refine j_iconst (v := 0) dX6_digest_90 (by decide) ?_
        refine j_cVi (As := [.int 0]) (rest := [.ref (q 0)]) (wr := []) (ws' := mb x q u' v g pw kp (setH o' (31 * o'.2.2.2.2.2.2 + ((oI (wbU u)).toInt64)))) (tX6_sundayNow l x q u' v g pw kp (setH o' (31 * o'.2.2.2.2.2.2 + ((oI (wbU u)).toInt64))) hku' 0) kX6_sundayNow 0 rfl rfl rfl vX6_160 dX6_digest_91 (by decide) rfl rfl (Nat.le_of_ble_eq_true rfl) (pm_0 _) (List.append_nil _) ?_
        refine j_topi (b := (prU u).1) (by rw [if_pos rfl, hcS.1.prE]) ?_
        refine j_i2l dX6_digest_94 ?_
        refine j_cVv (As := [.long (((prU u).1).toInt64)]) (rest := []) (wr := []) (ws' := mb x q u' v g pw kp (setH (setH o' (31 * o'.2.2.2.2.2.2 + ((oI (wbU u)).toInt64))) (31 * (setH o' (31 * o'.2.2.2.2.2.2 + ((oI (wbU u)).toInt64))).2.2.2.2.2.2 + (((prU u).1).toInt64)))) (tX6_mix l x q u' v g pw kp (setH o' (31 * o'.2.2.2.2.2.2 + ((oI (wbU u)).toInt64))) (((prU u).1).toInt64)) kX6_mix 0 rfl rfl rfl vX6_217 dX6_digest_95 (by decide) rfl rfl (Nat.le_of_ble_eq_true rfl) (pm_0 _) (List.append_nil _) ?_
        refine j_aload_n 0 dX6_digest_98 rfl rfl ?_
        refine j_aload_n 0 dX6_digest_99 rfl rfl ?_
        refine j_iconst (v := 1) dX6_digest_100 (by decide) ?_
        refine j_cVi (As := [.int 1]) (rest := [.ref (q 0)]) (wr := []) (ws' := mb x q u' v g pw kp (setH (setH o' (31 * o'.2.2.2.2.2.2 + ((oI (wbU u)).toInt64))) (31 * (setH o' (31 * o'.2.2.2.2.2.2 + ((oI (wbU u)).toInt64))).2.2.2.2.2.2 + (((prU u).1).toInt64)))) (tX6_sundayNow l x q u' v g pw kp (setH (setH o' (31 * o'.2.2.2.2.2.2 + ((oI (wbU u)).toInt64))) (31 * (setH o' (31 * o'.2.2.2.2.2.2 + ((oI (wbU u)).toInt64))).2.2.2.2.2.2 + (((prU u).1).toInt64))) hku' 1) kX6_sundayNow 0 rfl rfl rfl vX6_160 dX6_digest_101 (by decide) rfl rfl (Nat.le_of_ble_eq_true rfl) (pm_0 _) (List.append_nil _) ?_
        refine j_topi (b := (prU u).2) (by rw [if_neg (by decide), hcS.1.prE]) ?_
        refine j_i2l dX6_digest_104 ?_
        refine j_cVv (As := [.long (((prU u).2).toInt64)]) (rest := []) (wr := []) (ws' := mb x q u' v g pw kp (setH (setH (setH o' (31 * o'.2.2.2.2.2.2 + ((oI (wbU u)).toInt64))) (31 * (setH o' (31 * o'.2.2.2.2.2.2 + ((oI (wbU u)).toInt64))).2.2.2.2.2.2 + (((prU u).1).toInt64))) (31 * (setH (setH o' (31 * o'.2.2.2.2.2.2 + ((oI (wbU u)).toInt64))) (31 * (setH o' (31 * o'.2.2.2.2.2.2 + ((oI (wbU u)).toInt64))).2.2.2.2.2.2 + (((prU u).1).toInt64))).2.2.2.2.2.2 + (((prU u).2).toInt64)))) (tX6_mix l x q u' v g pw kp (setH (setH o' (31 * o'.2.2.2.2.2.2 + ((oI (wbU u)).toInt64))) (31 * (setH o' (31 * o'.2.2.2.2.2.2 + ((oI (wbU u)).toInt64))).2.2.2.2.2.2 + (((prU u).1).toInt64))) (((prU u).2).toInt64)) kX6_mix 0 rfl rfl rfl vX6_217 dX6_digest_105 (by decide) rfl rfl (Nat.le_of_ble_eq_true rfl) (pm_0 _) (List.append_nil _) ?_
        refine j_iconst (v := nI 0) dX6_digest_108 (by decide) ?_
        refine j_istore_n (lv' := [(1, .int (nI 0)), (0, .ref (q 0))]) dX6_digest_109 rfl (by decide) rfl ?_
        refine j_lv [1, 0] (lv' := [(0, .ref (q 0)), (1, .int (nI 0))]) rfl ?_
        exact lp_mdP l x q u v g pw kp o hk hv hg (g.2 + 1) 0 _ _ _ (by omega) (by rw [dgP, Nat.sub_zero]; exact congrArg (itr (fun p h => mx h (g.1 p)) g.2 0) (by rw [← hc1, itr_end (n := nN u) (b := j) (by omega)]; first | (rw [dgB, if_pos h0]; done) | (rw [dgB, if_neg h0]; rfl))) (sim_mix (sim_mix (sim_mix hcS))) (by omega)
    · skip
      refine j_iconst (v := nI 0) dX6_digest_17 (by decide) ?_
      refine j_istore_n (lv' := [(2, .int (nI 0)), (0, .ref (q 0)), (1, .int (nI j))]) dX6_digest_18 rfl (by decide) rfl ?_
      refine j_lv [1, 2, 0] (lv' := [(0, .ref (q 0)), (1, .int (nI j)), (2, .int (nI 0))]) rfl ?_
      refine lp_mdA l x q u v g pw kp o hk hv hg j (by omega) (dgA u v j z) (fun u' o' hcS => ?_) 8 0 z u' o' (by omega) rfl hcS (by omega)
      have hku' : okN u' := okN_eq hcS.1.symm hk
      have hnn := hcS.1.nE
      have esl : u'.2.2.1 j = u.2.2.1 j := (hcS.1.2 j (by omega)).2.2.1
      refine j_aload_n 0 dX6_digest_42 rfl rfl ?_
      refine j_aload_n 0 dX6_digest_43 rfl rfl ?_
      refine j_get (v := .ref (q 3)) 0 dX6_digest_44 fX6_16 rfl rfl ?_
      refine j_iload_n 1 dX6_digest_47 rfl rfl ?_
      refine j_zaldB (i := j) (f := u'.2.2.1) 3 dX6_digest_48 rfl (by omega) (by decide) ?_
      refine j_topi (b := bI (u.2.2.1 j)) (congrArg bI esl) ?_
      refine j_ifb_eq (b := u.2.2.1 j) (tgt := 56) dX6_digest_49 (by decide) (fun h49 => ?_) (fun h49 => ?_)
      · skip
        refine j_aload_n 0 dX6_digest_56 rfl rfl ?_
        refine j_iload_n 1 dX6_digest_57 rfl rfl ?_
        refine j_iconst (v := nI 3) dX6_digest_58 (by decide) ?_
        refine j_callV (As := [.int (nI j), .int (nI 3)]) (rest := [.ref (q 0)]) (wr := []) (tX6_cupsNow l x q u' v g pw kp o' hku' j (by (try simp only [nN_ph, nN_lec, nN_cof, nN_cfs, nN_hrs, nN_wak]); omega) 3 (by omega) (by omega)) kX6_cupsNow vX6_141 0 rfl rfl rfl dX6_digest_59 (by decide) (Nat.le_of_eq (Nat.zero_add _)) (Nat.le_of_eq (Nat.zero_add _)) rfl rfl (Nat.le_of_ble_eq_true rfl) (pm_0 _) (fun v9 w9 hv9 => ?_)
        obtain ⟨rfl, u19, o19, hs19, rfl⟩ := hv9
        refine j_eq (lv' := [(0, .ref (q 0)), (1, .int (nI j))]) (st' := [.int (oI (fcU u' j 3)), .ref (q 0)]) (ws' := mb x q u19 v g pw kp o19) rfl rfl (List.append_nil _) ?_
        have hku19 : okN u19 := okN_eq hs19.1.symm hku'
        refine j_topi (b := oI (fcU u j 3)) (congrArg oI (hcS.1.fuE (by omega) 3)) ?_
        refine j_i2l dX6_digest_62 ?_
        refine j_cVv (As := [.long ((oI (fcU u j 3)).toInt64)]) (rest := []) (wr := []) (ws' := mb x q u19 v g pw kp (setH o19 (31 * o19.2.2.2.2.2.2 + ((oI (fcU u j 3)).toInt64)))) (tX6_mix l x q u19 v g pw kp o19 ((oI (fcU u j 3)).toInt64)) kX6_mix 0 rfl rfl rfl vX6_217 dX6_digest_63 (by decide) rfl rfl (Nat.le_of_ble_eq_true rfl) (pm_0 _) (List.append_nil _) ?_
        refine j_iinc (v := nI (j + 1)) (lv' := [(1, .int (nI (j + 1))), (0, .ref (q 0))]) 1 dX6_digest_66 rfl (nI_1 j) (by decide) rfl ?_
        refine j_goto (tgt := 9) dX6_digest_69 (by decide) ?_
        refine j_lv [1, 0] (lv' := [(0, .ref (q 0)), (1, .int (nI (j + 1)))]) rfl ?_
        exact ih (j + 1) _ _ _ (by omega) (by rw [← hc1, itr_go (n := nN u) (b := j) (by omega)]; exact congrArg (itr (dgL u v) (nN u - (j + 1)) (j + 1)) (by first | (rw [dgL, if_pos h49, mx, toI64_0]; done) | (rw [dgL, if_neg (by rw [h49]; decide), mx]; done))) (sim_mix (hcS.trans hs19)) (by omega)
      · skip
        refine j_lconst (v := 0) dX6_digest_52 (by decide) ?_
        refine j_goto (tgt := 63) dX6_digest_53 (by decide) ?_
        refine j_cVv (As := [.long 0]) (rest := []) (wr := []) (ws' := mb x q u' v g pw kp (setH o' (31 * o'.2.2.2.2.2.2 + 0))) (tX6_mix l x q u' v g pw kp o' 0) kX6_mix 0 rfl rfl rfl vX6_217 dX6_digest_63 (by decide) rfl rfl (Nat.le_of_ble_eq_true rfl) (pm_0 _) (List.append_nil _) ?_
        refine j_iinc (v := nI (j + 1)) (lv' := [(1, .int (nI (j + 1))), (0, .ref (q 0))]) 1 dX6_digest_66 rfl (nI_1 j) (by decide) rfl ?_
        refine j_goto (tgt := 9) dX6_digest_69 (by decide) ?_
        refine j_lv [1, 0] (lv' := [(0, .ref (q 0)), (1, .int (nI (j + 1)))]) rfl ?_
        exact ih (j + 1) _ _ _ (by omega) (by rw [← hc1, itr_go (n := nN u) (b := j) (by omega)]; exact congrArg (itr (dgL u v) (nN u - (j + 1)) (j + 1)) (by first | (rw [dgL, if_pos h49, mx, toI64_0]; done) | (rw [dgL, if_neg (by rw [h49]; decide), mx]; done))) (sim_mix hcS) (by omega)
set_option maxHeartbeats 4000000 in
set_option maxRecDepth 100000 in
theorem tX6_digest (l : Launch) (x : Cx) (q : Nat → Nat) (u : NS) (v : SS) (g : PG) (pw : Bool × Nat) (kp : KS) (o : OS) (hk : okN u) (hv : vok v) (hg : g.2 ≤ 18) : MC l x 5 0 0 yX6_digest cX6_digest 3 (some .long) [.ref (q 0)] (mb x q u v g pw kp o) (fun v9 ws => v9 = some (.long (kDigest (false, o.1, o.2.1) g u v)) ∧ ∃ (z' : Int64) (u' : NS) (o' : OS), sim u (setH o z') u' o' ∧ ws = mb x q u' v g pw kp o') := by
  refine MC.of (by decide) (Nat.le_of_ble_eq_true rfl) (fun v ws h => Or.inr (Or.inr ⟨_, rfl, h.1⟩)) (fun M => ?_)
  show J M l x cX6_digest 3 yX6_digest 5 (fun v9 ws => v9 = some (.long (kDigest (false, o.1, o.2.1) g u v)) ∧ ∃ (z' : Int64) (u' : NS) (o' : OS), sim u (setH o z') u' o' ∧ ws = mb x q u' v g pw kp o') 0 0 0 [(0, .ref (q 0))] [] (mb x q u v g pw kp o)
  have hn5 : nN u ≤ 5 := hk.1
  refine j_aload_n 0 dX6_digest_0 rfl rfl ?_
  refine j_ldc2 dX6_digest_1 pX6_215 ?_
  refine j_put (v := .long 953) (ws' := mb x q u v g pw kp (o.1, o.2.1, o.2.2.1, o.2.2.2.1, o.2.2.2.2.1, o.2.2.2.2.2.1, 953)) 0 dX6_digest_4 fX6_212 rfl rfl rfl (Nat.le_of_ble_eq_true rfl) rfl ?_
  refine j_iconst (v := nI 0) dX6_digest_7 (by decide) ?_
  refine j_istore_n (lv' := [(1, .int (nI 0)), (0, .ref (q 0))]) dX6_digest_8 rfl (by decide) rfl ?_
  refine j_lv [1, 0] (lv' := [(0, .ref (q 0)), (1, .int (nI 0))]) rfl ?_
  refine j_ws (ws' := mb x q u v g pw kp (setH o 953)) rfl ?_
  exact lp_mdL l x q u v g pw kp o hk hv hg (nN u + 1) 0 953 u (setH o 953) (by omega) rfl (sim.rf u _) (by omega)
set_option maxHeartbeats 4000000 in
set_option maxRecDepth 100000 in
theorem lp_im2 {M : Mx} (l : Launch) (x : Cx) (q : Nat → Nat) (kf tf : Nat → Int32) (sl : Nat → Bool) (bf : Nat → Int32) (n : Nat) (d h : Int32) (hs wh : Nat → Int32) (vn : Nat) (g : PG) (pw : Bool × Nat) (ki : Bool) (kh ks : Nat) (kd khs kwh : Nat → Int32) (o : OS) (hn : n ≤ 5) (h0 : ¬ n = 0) {k0 n0 : Nat}  : ∀ (m : Nat) (i : Nat), i ≤ 6 → 6 - i < m → J M l x cX6_image 2 yX6_image 1 (eI (if n = 0 then -103 else h) (mb x q (kf, tf, sl, bf, n, d, h) (hs, wh, vn) g pw (if n = 0 then (ki, kh, ks, kd, khs, kwh) else imK (kf, tf, sl, bf, n, d, h) (hs, wh, vn) (ki, kh, ks, kd, khs, kwh) o.1) (if n = 0 then o else imO (kf, tf, sl, bf, n, d, h) o))) k0 n0 63 [(0, .ref (q 0)), (1, .int (nI i))] [] (mb x q (kf, tf, sl, bf, n, d, h) (hs, wh, vn) g pw (true, o.1, vn, mix 5 bf kd, mix i hs khs, mix i wh kwh) (svO 1 (kf, tf, sl, bf, n, d, h) o)) := by
  intro m; induction m with
  | zero => intro i hc0 hm; exact absurd hm (Nat.not_lt_zero _)
  | succ m ih =>
    intro i hc0 hm
    refine j_iload_n 1 dX6_image_63 rfl rfl ?_
    refine j_bipush (v := 6) dX6_image_64 (by decide) ?_
    refine j_icmpN_ge (a := i) (b := 6) (by omega) (by omega) (tgt := 99) dX6_image_66 (by decide) (fun h66 => ?_) (fun h66 => ?_)
    · skip
      refine j_aload_n 0 dX6_image_99 rfl rfl ?_
      refine j_get (v := .int h) 0 dX6_image_100 fX6_86 rfl rfl ?_
      exact j_iret _ dX6_image_103 (List.Perm.refl _) ⟨by rw [if_neg h0], by (rw [if_neg h0, if_neg h0, show i = 6 by omega]; rfl)⟩
    · skip
      refine j_aload_n 0 dX6_image_69 rfl rfl ?_
      refine j_get (v := .ref (q 12)) 0 dX6_image_70 fX6_45 rfl rfl ?_
      refine j_iload_n 1 dX6_image_73 rfl rfl ?_
      refine j_aload_n 0 dX6_image_74 rfl rfl ?_
      refine j_get (v := .ref (q 5)) 0 dX6_image_75 fX6_23 rfl rfl ?_
      refine j_iload_n 1 dX6_image_78 rfl rfl ?_
      refine j_ialdN (i := i) (f := hs) 5 dX6_image_79 rfl (by omega) (by decide) ?_
      refine j_iastN (i := i) (f := mix i hs khs) (ws' := mb x q (kf, tf, sl, bf, n, d, h) (hs, wh, vn) g pw (true, o.1, vn, mix 5 bf kd, upd (mix i hs khs) i (hs i), mix i wh kwh) (svO 1 (kf, tf, sl, bf, n, d, h) o)) 12 dX6_image_80 rfl (by omega) (by decide) rfl ?_
      refine j_aload_n 0 dX6_image_81 rfl rfl ?_
      refine j_get (v := .ref (q 13)) 0 dX6_image_82 fX6_48 rfl rfl ?_
      refine j_iload_n 1 dX6_image_85 rfl rfl ?_
      refine j_aload_n 0 dX6_image_86 rfl rfl ?_
      refine j_get (v := .ref (q 6)) 0 dX6_image_87 fX6_26 rfl rfl ?_
      refine j_iload_n 1 dX6_image_90 rfl rfl ?_
      refine j_ialdN (i := i) (f := wh) 6 dX6_image_91 rfl (by omega) (by decide) ?_
      refine j_iastN (i := i) (f := mix i wh kwh) (ws' := mb x q (kf, tf, sl, bf, n, d, h) (hs, wh, vn) g pw (true, o.1, vn, mix 5 bf kd, upd (mix i hs khs) i (hs i), upd (mix i wh kwh) i (wh i)) (svO 1 (kf, tf, sl, bf, n, d, h) o)) 13 dX6_image_92 rfl (by omega) (by decide) rfl ?_
      refine j_iinc (v := nI (i + 1)) (lv' := [(1, .int (nI (i + 1))), (0, .ref (q 0))]) 1 dX6_image_93 rfl (nI_1 i) (by decide) rfl ?_
      refine j_goto (tgt := 63) dX6_image_96 (by decide) ?_
      refine j_lv [1, 0] (lv' := [(0, .ref (q 0)), (1, .int (nI (i + 1)))]) rfl ?_
      refine j_ws (ws' := mb x q (kf, tf, sl, bf, n, d, h) (hs, wh, vn) g pw (true, o.1, vn, mix 5 bf kd, mix (i + 1) hs khs, mix (i + 1) wh kwh) (svO 1 (kf, tf, sl, bf, n, d, h) o)) (by rw [mix_upd _ _ _ rfl, mix_upd _ _ _ rfl]) ?_
      exact ih (i + 1) (by omega) (by omega)
set_option maxHeartbeats 4000000 in
set_option maxRecDepth 100000 in
theorem lp_im1 {M : Mx} (l : Launch) (x : Cx) (q : Nat → Nat) (kf tf : Nat → Int32) (sl : Nat → Bool) (bf : Nat → Int32) (n : Nat) (d h : Int32) (hs wh : Nat → Int32) (vn : Nat) (g : PG) (pw : Bool × Nat) (ki : Bool) (kh ks : Nat) (kd khs kwh : Nat → Int32) (o : OS) (hn : n ≤ 5) (h0 : ¬ n = 0) {k0 n0 : Nat}  : ∀ (m : Nat) (i : Nat), i ≤ 5 → 5 - i < m → J M l x cX6_image 2 yX6_image 1 (eI (if n = 0 then -103 else h) (mb x q (kf, tf, sl, bf, n, d, h) (hs, wh, vn) g pw (if n = 0 then (ki, kh, ks, kd, khs, kwh) else imK (kf, tf, sl, bf, n, d, h) (hs, wh, vn) (ki, kh, ks, kd, khs, kwh) o.1) (if n = 0 then o else imO (kf, tf, sl, bf, n, d, h) o))) k0 n0 38 [(0, .ref (q 0)), (1, .int (nI i))] [] (mb x q (kf, tf, sl, bf, n, d, h) (hs, wh, vn) g pw (true, o.1, vn, mix i bf kd, khs, kwh) (svO 1 (kf, tf, sl, bf, n, d, h) o)) := by
  intro m; induction m with
  | zero => intro i hc0 hm; exact absurd hm (Nat.not_lt_zero _)
  | succ m ih =>
    intro i hc0 hm
    refine j_iload_n 1 dX6_image_38 rfl rfl ?_
    refine j_iconst (v := 5) dX6_image_39 (by decide) ?_
    refine j_icmpN_ge (a := i) (b := 5) (by omega) (by omega) (tgt := 61) dX6_image_40 (by decide) (fun h40 => ?_) (fun h40 => ?_)
    · skip
      refine j_iconst (v := nI 0) dX6_image_61 (by decide) ?_
      refine j_istore_n (lv' := [(1, .int (nI 0)), (0, .ref (q 0))]) dX6_image_62 rfl (by decide) rfl ?_
      refine j_lv [1, 0] (lv' := [(0, .ref (q 0)), (1, .int (nI 0))]) rfl ?_
      refine j_ws (ws' := mb x q (kf, tf, sl, bf, n, d, h) (hs, wh, vn) g pw (true, o.1, vn, mix 5 bf kd, mix 0 hs khs, mix 0 wh kwh) (svO 1 (kf, tf, sl, bf, n, d, h) o)) (by rw [mix_0, mix_0, show i = 5 by omega]) ?_
      exact lp_im2 l x q kf tf sl bf n d h hs wh vn g pw ki kh ks kd khs kwh o hn h0 7 0 (by omega) (by omega)
    · skip
      refine j_aload_n 0 dX6_image_43 rfl rfl ?_
      refine j_get (v := .ref (q 11)) 0 dX6_image_44 fX6_42 rfl rfl ?_
      refine j_iload_n 1 dX6_image_47 rfl rfl ?_
      refine j_aload_n 0 dX6_image_48 rfl rfl ?_
      refine j_get (v := .ref (q 4)) 0 dX6_image_49 fX6_20 rfl rfl ?_
      refine j_iload_n 1 dX6_image_52 rfl rfl ?_
      refine j_ialdN (i := i) (f := bf) 4 dX6_image_53 rfl (by omega) (by decide) ?_
      refine j_iastN (i := i) (f := mix i bf kd) (ws' := mb x q (kf, tf, sl, bf, n, d, h) (hs, wh, vn) g pw (true, o.1, vn, upd (mix i bf kd) i (bf i), khs, kwh) (svO 1 (kf, tf, sl, bf, n, d, h) o)) 11 dX6_image_54 rfl (by omega) (by decide) rfl ?_
      refine j_iinc (v := nI (i + 1)) (lv' := [(1, .int (nI (i + 1))), (0, .ref (q 0))]) 1 dX6_image_55 rfl (nI_1 i) (by decide) rfl ?_
      refine j_goto (tgt := 38) dX6_image_58 (by decide) ?_
      refine j_lv [1, 0] (lv' := [(0, .ref (q 0)), (1, .int (nI (i + 1)))]) rfl ?_
      refine j_ws (ws' := mb x q (kf, tf, sl, bf, n, d, h) (hs, wh, vn) g pw (true, o.1, vn, mix (i + 1) bf kd, khs, kwh) (svO 1 (kf, tf, sl, bf, n, d, h) o)) (by rw [mix_upd _ _ _ rfl]) ?_
      exact ih (i + 1) (by omega) (by omega)
set_option maxHeartbeats 4000000 in
set_option maxRecDepth 100000 in
theorem tX6_image (l : Launch) (x : Cx) (q : Nat → Nat) (kf tf : Nat → Int32) (sl : Nat → Bool) (bf : Nat → Int32) (n : Nat) (d h : Int32) (hs wh : Nat → Int32) (vn : Nat) (g : PG) (pw : Bool × Nat) (ki : Bool) (kh ks : Nat) (kd khs kwh : Nat → Int32) (o : OS) (hn : n ≤ 5) : MC l x 1 0 0 yX6_image cX6_image 2 (some .int) [.ref (q 0)] (mb x q (kf, tf, sl, bf, n, d, h) (hs, wh, vn) g pw (ki, kh, ks, kd, khs, kwh) o) (eI (if n = 0 then -103 else h) (mb x q (kf, tf, sl, bf, n, d, h) (hs, wh, vn) g pw (if n = 0 then (ki, kh, ks, kd, khs, kwh) else imK (kf, tf, sl, bf, n, d, h) (hs, wh, vn) (ki, kh, ks, kd, khs, kwh) o.1) (if n = 0 then o else imO (kf, tf, sl, bf, n, d, h) o))) := by
  refine MC.of (by decide) (Nat.le_of_ble_eq_true rfl) eI_fit (fun M => ?_)
  show J M l x cX6_image 2 yX6_image 1 (eI (if n = 0 then -103 else h) (mb x q (kf, tf, sl, bf, n, d, h) (hs, wh, vn) g pw (if n = 0 then (ki, kh, ks, kd, khs, kwh) else imK (kf, tf, sl, bf, n, d, h) (hs, wh, vn) (ki, kh, ks, kd, khs, kwh) o.1) (if n = 0 then o else imO (kf, tf, sl, bf, n, d, h) o))) 0 0 0 [(0, .ref (q 0))] [] (mb x q (kf, tf, sl, bf, n, d, h) (hs, wh, vn) g pw (ki, kh, ks, kd, khs, kwh) o)
  refine j_aload_n 0 dX6_image_0 rfl rfl ?_
  refine j_get (v := .int (nI n)) 0 dX6_image_1 fX6_77 rfl rfl ?_
  refine j_if_ne (tgt := 10) dX6_image_4 (by decide) (fun h4 => ?_) (fun h4 => ?_)
  · skip
    have h0 : ¬ n = 0 := fun e => h4 (by rw [e]; rfl)
    refine j_aload_n 0 dX6_image_10 rfl rfl ?_
    refine j_iconst (v := 1) dX6_image_11 (by decide) ?_
    refine j_put (v := .int (bI true)) (ws' := mb x q (kf, tf, sl, bf, n, d, h) (hs, wh, vn) g pw (true, kh, ks, kd, khs, kwh) o) 0 dX6_image_12 fX6_195 rfl (nar_bI true) (fit_bI true) (Nat.le_of_ble_eq_true rfl) rfl ?_
    refine j_aload_n 0 dX6_image_15 rfl rfl ?_
    refine j_aload_n 0 dX6_image_16 rfl rfl ?_
    refine j_get (v := .int (nI o.1)) 0 dX6_image_17 fX6_83 rfl rfl ?_
    refine j_put (v := .int (nI o.1)) (ws' := mb x q (kf, tf, sl, bf, n, d, h) (hs, wh, vn) g pw (true, o.1, ks, kd, khs, kwh) o) 0 dX6_image_20 fX6_198 rfl rfl rfl (Nat.le_of_ble_eq_true rfl) rfl ?_
    refine j_aload_n 0 dX6_image_23 rfl rfl ?_
    refine j_aload_n 0 dX6_image_24 rfl rfl ?_
    refine j_get (v := .int (nI vn)) 0 dX6_image_25 fX6_89 rfl rfl ?_
    refine j_put (v := .int (nI vn)) (ws' := mb x q (kf, tf, sl, bf, n, d, h) (hs, wh, vn) g pw (true, o.1, vn, kd, khs, kwh) o) 0 dX6_image_28 fX6_201 rfl rfl rfl (Nat.le_of_ble_eq_true rfl) rfl ?_
    refine j_aload_n 0 dX6_image_31 rfl rfl ?_
    refine j_iconst (v := 1) dX6_image_32 (by decide) ?_
    refine j_cVv (As := [.int 1]) (rest := []) (wr := []) (ws' := mb x q (kf, tf, sl, bf, n, d, h) (hs, wh, vn) g pw (true, o.1, vn, kd, khs, kwh) (svO 1 (kf, tf, sl, bf, n, d, h) o)) (uX6_save l x q (kf, tf, sl, bf, n, d, h) (hs, wh, vn) g pw (true, o.1, vn, kd, khs, kwh) o 1 (by omega)) kX6_save 0 rfl rfl rfl vX6_99 dX6_image_33 (by decide) rfl rfl (Nat.le_of_ble_eq_true rfl) (pm_0 _) (List.append_nil _) ?_
    refine j_iconst (v := nI 0) dX6_image_36 (by decide) ?_
    refine j_istore_n (lv' := [(1, .int (nI 0)), (0, .ref (q 0))]) dX6_image_37 rfl (by decide) rfl ?_
    refine j_lv [1, 0] (lv' := [(0, .ref (q 0)), (1, .int (nI 0))]) rfl ?_
    refine j_ws (ws' := mb x q (kf, tf, sl, bf, n, d, h) (hs, wh, vn) g pw (true, o.1, vn, mix 0 bf kd, khs, kwh) (svO 1 (kf, tf, sl, bf, n, d, h) o)) (by rw [mix_0]) ?_
    exact lp_im1 l x q kf tf sl bf n d h hs wh vn g pw ki kh ks kd khs kwh o hn h0 6 0 (by omega) (by omega)
  · skip
    have h0 : n = 0 := (nI_eq (a := n) (b := 0) (by omega) (by decide)).mp h4
    refine j_bipush (v := (-103)) dX6_image_7 (by decide) ?_
    exact j_iret _ dX6_image_9 (List.Perm.refl _) ⟨by rw [if_pos h0], by (rw [if_pos h0, if_pos h0])⟩
set_option maxHeartbeats 4000000 in
set_option maxRecDepth 100000 in
theorem lp_re2 {M : Mx} (l : Launch) (x : Cx) (q : Nat → Nat) (kf tf : Nat → Int32) (sl : Nat → Bool) (bf : Nat → Int32) (n : Nat) (d h : Int32) (hs wh : Nat → Int32) (vn : Nat) (g : PG) (pw : Bool × Nat) (ki : Bool) (kh ks : Nat) (kd khs kwh : Nat → Int32) (o : OS) (hn : n ≤ 5) (hC : (ki = true ∧ kh = o.1)) {k0 n0 : Nat}  : ∀ (m : Nat) (i : Nat), i ≤ 6 → 6 - i < m → J M l x cX6_restore 2 yX6_restore 1 (eI (if (ki = true ∧ kh = o.1) then nH (reU (kf, tf, sl, bf, n, d, h) (ki, kh, ks, kd, khs, kwh) o) else -103) (mb x q (if (ki = true ∧ kh = o.1) then reU (kf, tf, sl, bf, n, d, h) (ki, kh, ks, kd, khs, kwh) o else (kf, tf, sl, bf, n, d, h)) (if (ki = true ∧ kh = o.1) then reV (hs, wh, vn) (ki, kh, ks, kd, khs, kwh) else (hs, wh, vn)) g pw (ki, kh, ks, kd, khs, kwh) o)) k0 n0 61 [(0, .ref (q 0)), (1, .int (nI i))] [] (mb x q (setB (ldU 1 (kf, tf, sl, bf, n, d, h) o.2.2.1) (mix 5 kd bf)) (mix i khs hs, mix i kwh wh, ks) g pw (ki, kh, ks, kd, khs, kwh) o) := by
  intro m; induction m with
  | zero => intro i hc0 hm; exact absurd hm (Nat.not_lt_zero _)
  | succ m ih =>
    intro i hc0 hm
    refine j_iload_n 1 dX6_restore_61 rfl rfl ?_
    refine j_bipush (v := 6) dX6_restore_62 (by decide) ?_
    refine j_icmpN_ge (a := i) (b := 6) (by omega) (by omega) (tgt := 97) dX6_restore_64 (by decide) (fun h64 => ?_) (fun h64 => ?_)
    · skip
      refine j_aload_n 0 dX6_restore_97 rfl rfl ?_
      refine j_get (v := .int (nH (setB (ldU 1 (kf, tf, sl, bf, n, d, h) o.2.2.1) (mix 5 kd bf)))) 0 dX6_restore_98 fX6_86 rfl rfl ?_
      exact j_iret _ dX6_restore_101 (List.Perm.refl _) ⟨by rw [if_pos hC]; rfl, by (rw [if_pos hC, if_pos hC, show i = 6 by omega]; rfl)⟩
    · skip
      refine j_aload_n 0 dX6_restore_67 rfl rfl ?_
      refine j_get (v := .ref (q 5)) 0 dX6_restore_68 fX6_23 rfl rfl ?_
      refine j_iload_n 1 dX6_restore_71 rfl rfl ?_
      refine j_aload_n 0 dX6_restore_72 rfl rfl ?_
      refine j_get (v := .ref (q 12)) 0 dX6_restore_73 fX6_45 rfl rfl ?_
      refine j_iload_n 1 dX6_restore_76 rfl rfl ?_
      refine j_ialdN (i := i) (f := khs) 12 dX6_restore_77 rfl (by omega) (by decide) ?_
      refine j_iastN (i := i) (f := mix i khs hs) (ws' := mb x q (setB (ldU 1 (kf, tf, sl, bf, n, d, h) o.2.2.1) (mix 5 kd bf)) (upd (mix i khs hs) i (khs i), mix i kwh wh, ks) g pw (ki, kh, ks, kd, khs, kwh) o) 5 dX6_restore_78 rfl (by omega) (by decide) rfl ?_
      refine j_aload_n 0 dX6_restore_79 rfl rfl ?_
      refine j_get (v := .ref (q 6)) 0 dX6_restore_80 fX6_26 rfl rfl ?_
      refine j_iload_n 1 dX6_restore_83 rfl rfl ?_
      refine j_aload_n 0 dX6_restore_84 rfl rfl ?_
      refine j_get (v := .ref (q 13)) 0 dX6_restore_85 fX6_48 rfl rfl ?_
      refine j_iload_n 1 dX6_restore_88 rfl rfl ?_
      refine j_ialdN (i := i) (f := kwh) 13 dX6_restore_89 rfl (by omega) (by decide) ?_
      refine j_iastN (i := i) (f := mix i kwh wh) (ws' := mb x q (setB (ldU 1 (kf, tf, sl, bf, n, d, h) o.2.2.1) (mix 5 kd bf)) (upd (mix i khs hs) i (khs i), upd (mix i kwh wh) i (kwh i), ks) g pw (ki, kh, ks, kd, khs, kwh) o) 6 dX6_restore_90 rfl (by omega) (by decide) rfl ?_
      refine j_iinc (v := nI (i + 1)) (lv' := [(1, .int (nI (i + 1))), (0, .ref (q 0))]) 1 dX6_restore_91 rfl (nI_1 i) (by decide) rfl ?_
      refine j_goto (tgt := 61) dX6_restore_94 (by decide) ?_
      refine j_lv [1, 0] (lv' := [(0, .ref (q 0)), (1, .int (nI (i + 1)))]) rfl ?_
      refine j_ws (ws' := mb x q (setB (ldU 1 (kf, tf, sl, bf, n, d, h) o.2.2.1) (mix 5 kd bf)) (mix (i + 1) khs hs, mix (i + 1) kwh wh, ks) g pw (ki, kh, ks, kd, khs, kwh) o) (by rw [mix_upd _ _ _ rfl, mix_upd _ _ _ rfl]) ?_
      exact ih (i + 1) (by omega) (by omega)
set_option maxHeartbeats 4000000 in
set_option maxRecDepth 100000 in
theorem lp_re1 {M : Mx} (l : Launch) (x : Cx) (q : Nat → Nat) (kf tf : Nat → Int32) (sl : Nat → Bool) (bf : Nat → Int32) (n : Nat) (d h : Int32) (hs wh : Nat → Int32) (vn : Nat) (g : PG) (pw : Bool × Nat) (ki : Bool) (kh ks : Nat) (kd khs kwh : Nat → Int32) (o : OS) (hn : n ≤ 5) (hC : (ki = true ∧ kh = o.1)) {k0 n0 : Nat}  : ∀ (m : Nat) (i : Nat), i ≤ 5 → 5 - i < m → J M l x cX6_restore 2 yX6_restore 1 (eI (if (ki = true ∧ kh = o.1) then nH (reU (kf, tf, sl, bf, n, d, h) (ki, kh, ks, kd, khs, kwh) o) else -103) (mb x q (if (ki = true ∧ kh = o.1) then reU (kf, tf, sl, bf, n, d, h) (ki, kh, ks, kd, khs, kwh) o else (kf, tf, sl, bf, n, d, h)) (if (ki = true ∧ kh = o.1) then reV (hs, wh, vn) (ki, kh, ks, kd, khs, kwh) else (hs, wh, vn)) g pw (ki, kh, ks, kd, khs, kwh) o)) k0 n0 36 [(0, .ref (q 0)), (1, .int (nI i))] [] (mb x q (setB (ldU 1 (kf, tf, sl, bf, n, d, h) o.2.2.1) (mix i kd bf)) (hs, wh, ks) g pw (ki, kh, ks, kd, khs, kwh) o) := by
  intro m; induction m with
  | zero => intro i hc0 hm; exact absurd hm (Nat.not_lt_zero _)
  | succ m ih =>
    intro i hc0 hm
    refine j_iload_n 1 dX6_restore_36 rfl rfl ?_
    refine j_iconst (v := 5) dX6_restore_37 (by decide) ?_
    refine j_icmpN_ge (a := i) (b := 5) (by omega) (by omega) (tgt := 59) dX6_restore_38 (by decide) (fun h38 => ?_) (fun h38 => ?_)
    · skip
      refine j_iconst (v := nI 0) dX6_restore_59 (by decide) ?_
      refine j_istore_n (lv' := [(1, .int (nI 0)), (0, .ref (q 0))]) dX6_restore_60 rfl (by decide) rfl ?_
      refine j_lv [1, 0] (lv' := [(0, .ref (q 0)), (1, .int (nI 0))]) rfl ?_
      refine j_ws (ws' := mb x q (setB (ldU 1 (kf, tf, sl, bf, n, d, h) o.2.2.1) (mix 5 kd bf)) (mix 0 khs hs, mix 0 kwh wh, ks) g pw (ki, kh, ks, kd, khs, kwh) o) (by rw [mix_0, mix_0, show i = 5 by omega]) ?_
      exact lp_re2 l x q kf tf sl bf n d h hs wh vn g pw ki kh ks kd khs kwh o hn hC 7 0 (by omega) (by omega)
    · skip
      refine j_aload_n 0 dX6_restore_41 rfl rfl ?_
      refine j_get (v := .ref (q 4)) 0 dX6_restore_42 fX6_20 rfl rfl ?_
      refine j_iload_n 1 dX6_restore_45 rfl rfl ?_
      refine j_aload_n 0 dX6_restore_46 rfl rfl ?_
      refine j_get (v := .ref (q 11)) 0 dX6_restore_47 fX6_42 rfl rfl ?_
      refine j_iload_n 1 dX6_restore_50 rfl rfl ?_
      refine j_ialdN (i := i) (f := kd) 11 dX6_restore_51 rfl (by omega) (by decide) ?_
      refine j_iastN (i := i) (f := (setB (ldU 1 (kf, tf, sl, bf, n, d, h) o.2.2.1) (mix i kd bf)).2.2.2.1) (ws' := mb x q ((setB (ldU 1 (kf, tf, sl, bf, n, d, h) o.2.2.1) (mix i kd bf)).1, (setB (ldU 1 (kf, tf, sl, bf, n, d, h) o.2.2.1) (mix i kd bf)).2.1, (setB (ldU 1 (kf, tf, sl, bf, n, d, h) o.2.2.1) (mix i kd bf)).2.2.1, upd ((setB (ldU 1 (kf, tf, sl, bf, n, d, h) o.2.2.1) (mix i kd bf)).2.2.2.1) i (kd i), nN (setB (ldU 1 (kf, tf, sl, bf, n, d, h) o.2.2.1) (mix i kd bf)), nD (setB (ldU 1 (kf, tf, sl, bf, n, d, h) o.2.2.1) (mix i kd bf)), nH (setB (ldU 1 (kf, tf, sl, bf, n, d, h) o.2.2.1) (mix i kd bf))) (hs, wh, ks) g pw (ki, kh, ks, kd, khs, kwh) o) 4 dX6_restore_52 rfl (by omega) (by decide) rfl ?_
      refine j_iinc (v := nI (i + 1)) (lv' := [(1, .int (nI (i + 1))), (0, .ref (q 0))]) 1 dX6_restore_53 rfl (nI_1 i) (by decide) rfl ?_
      refine j_goto (tgt := 36) dX6_restore_56 (by decide) ?_
      refine j_lv [1, 0] (lv' := [(0, .ref (q 0)), (1, .int (nI (i + 1)))]) rfl ?_
      refine j_ws (ws' := mb x q (setB (ldU 1 (kf, tf, sl, bf, n, d, h) o.2.2.1) (mix (i + 1) kd bf)) (hs, wh, ks) g pw (ki, kh, ks, kd, khs, kwh) o) (by rw [← mix_upd kd bf i rfl]; rfl) ?_
      exact ih (i + 1) (by omega) (by omega)
set_option maxHeartbeats 4000000 in
set_option maxRecDepth 100000 in
theorem tX6_restore (l : Launch) (x : Cx) (q : Nat → Nat) (kf tf : Nat → Int32) (sl : Nat → Bool) (bf : Nat → Int32) (n : Nat) (d h : Int32) (hs wh : Nat → Int32) (vn : Nat) (g : PG) (pw : Bool × Nat) (ki : Bool) (kh ks : Nat) (kd khs kwh : Nat → Int32) (o : OS) (hn : n ≤ 5) (hkh : kh < 2 ^ 31) (hho : o.1 < 2 ^ 31) : MC l x 1 0 0 yX6_restore cX6_restore 2 (some .int) [.ref (q 0)] (mb x q (kf, tf, sl, bf, n, d, h) (hs, wh, vn) g pw (ki, kh, ks, kd, khs, kwh) o) (eI (if (ki = true ∧ kh = o.1) then nH (reU (kf, tf, sl, bf, n, d, h) (ki, kh, ks, kd, khs, kwh) o) else -103) (mb x q (if (ki = true ∧ kh = o.1) then reU (kf, tf, sl, bf, n, d, h) (ki, kh, ks, kd, khs, kwh) o else (kf, tf, sl, bf, n, d, h)) (if (ki = true ∧ kh = o.1) then reV (hs, wh, vn) (ki, kh, ks, kd, khs, kwh) else (hs, wh, vn)) g pw (ki, kh, ks, kd, khs, kwh) o)) := by
  refine MC.of (by decide) (Nat.le_of_ble_eq_true rfl) eI_fit (fun M => ?_)
  show J M l x cX6_restore 2 yX6_restore 1 (eI (if (ki = true ∧ kh = o.1) then nH (reU (kf, tf, sl, bf, n, d, h) (ki, kh, ks, kd, khs, kwh) o) else -103) (mb x q (if (ki = true ∧ kh = o.1) then reU (kf, tf, sl, bf, n, d, h) (ki, kh, ks, kd, khs, kwh) o else (kf, tf, sl, bf, n, d, h)) (if (ki = true ∧ kh = o.1) then reV (hs, wh, vn) (ki, kh, ks, kd, khs, kwh) else (hs, wh, vn)) g pw (ki, kh, ks, kd, khs, kwh) o)) 0 0 0 [(0, .ref (q 0))] [] (mb x q (kf, tf, sl, bf, n, d, h) (hs, wh, vn) g pw (ki, kh, ks, kd, khs, kwh) o)
  refine j_aload_n 0 dX6_restore_0 rfl rfl ?_
  refine j_get (v := .int (bI ki)) 0 dX6_restore_1 fX6_195 rfl rfl ?_
  refine j_ifb_eq (b := ki) (tgt := 18) dX6_restore_4 (by decide) (fun h4 => ?_) (fun h4 => ?_)
  · skip
    refine j_bipush (v := (-103)) dX6_restore_18 (by decide) ?_
    exact j_iret _ dX6_restore_20 (List.Perm.refl _) ⟨by first | (rw [if_neg (fun z => h15 z.2)]; done) | (rw [if_neg (fun z => by rw [h4] at z; exact absurd z.1 (by decide))]; done), by (first | (rw [if_neg (fun z => h15 z.2), if_neg (fun z => h15 z.2)]; done) | (rw [if_neg (fun z => by rw [h4] at z; exact absurd z.1 (by decide)), if_neg (fun z => by rw [h4] at z; exact absurd z.1 (by decide))]; done))⟩
  · skip
    refine j_aload_n 0 dX6_restore_7 rfl rfl ?_
    refine j_get (v := .int (nI kh)) 0 dX6_restore_8 fX6_198 rfl rfl ?_
    refine j_aload_n 0 dX6_restore_11 rfl rfl ?_
    refine j_get (v := .int (nI o.1)) 0 dX6_restore_12 fX6_83 rfl rfl ?_
    refine j_icmpN_eq (a := kh) (b := o.1) (by omega) (by omega) (tgt := 21) dX6_restore_15 (by decide) (fun h15 => ?_) (fun h15 => ?_)
    · skip
      refine j_aload_n 0 dX6_restore_21 rfl rfl ?_
      refine j_aload_n 0 dX6_restore_22 rfl rfl ?_
      refine j_get (v := .int (nI ks)) 0 dX6_restore_23 fX6_201 rfl rfl ?_
      refine j_put (v := .int (nI ks)) (ws' := mb x q (kf, tf, sl, bf, n, d, h) (hs, wh, ks) g pw (ki, kh, ks, kd, khs, kwh) o) 0 dX6_restore_26 fX6_89 rfl rfl rfl (Nat.le_of_ble_eq_true rfl) rfl ?_
      refine j_aload_n 0 dX6_restore_29 rfl rfl ?_
      refine j_iconst (v := 1) dX6_restore_30 (by decide) ?_
      refine j_cVv (As := [.int 1]) (rest := []) (wr := []) (ws' := mb x q (ldU 1 (kf, tf, sl, bf, n, d, h) o.2.2.1) (hs, wh, ks) g pw (ki, kh, ks, kd, khs, kwh) o) (uX6_load l x q (kf, tf, sl, bf, n, d, h) (hs, wh, ks) g pw (ki, kh, ks, kd, khs, kwh) o 1 (by omega)) kX6_load 0 rfl rfl rfl vX6_103 dX6_restore_31 (by decide) rfl rfl (Nat.le_of_ble_eq_true rfl) (pm_0 _) (List.append_nil _) ?_
      refine j_iconst (v := nI 0) dX6_restore_34 (by decide) ?_
      refine j_istore_n (lv' := [(1, .int (nI 0)), (0, .ref (q 0))]) dX6_restore_35 rfl (by decide) rfl ?_
      refine j_lv [1, 0] (lv' := [(0, .ref (q 0)), (1, .int (nI 0))]) rfl ?_
      refine j_ws (ws' := mb x q (setB (ldU 1 (kf, tf, sl, bf, n, d, h) o.2.2.1) (mix 0 kd bf)) (hs, wh, ks) g pw (ki, kh, ks, kd, khs, kwh) o) (by rw [mix_0]; rfl) ?_
      exact lp_re1 l x q kf tf sl bf n d h hs wh vn g pw ki kh ks kd khs kwh o hn ⟨h4, h15⟩ 6 0 (by omega) (by omega)
    · skip
      refine j_bipush (v := (-103)) dX6_restore_18 (by decide) ?_
      exact j_iret _ dX6_restore_20 (List.Perm.refl _) ⟨by first | (rw [if_neg (fun z => h15 z.2)]; done) | (rw [if_neg (fun z => by rw [h4] at z; exact absurd z.1 (by decide))]; done), by (first | (rw [if_neg (fun z => h15 z.2), if_neg (fun z => h15 z.2)]; done) | (rw [if_neg (fun z => by rw [h4] at z; exact absurd z.1 (by decide)), if_neg (fun z => by rw [h4] at z; exact absurd z.1 (by decide))]; done))⟩
