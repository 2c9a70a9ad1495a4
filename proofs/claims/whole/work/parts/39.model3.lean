theorem hb_end (w : NS) (j r his : Nat) : (if true = true then (if hbC 0 w j r = 0 then 0 else hbC 0 w j r + his) else 0) = his + 1 := by
  show (if (1 : Nat) = 0 then 0 else 1 + his) = his + 1
  rw [if_neg (by decide)]; omega
theorem lec_none (u : NS) : lec u none = u := by obtain ⟨kf, tf, sl, bf, n, d, h⟩ := u; rfl
set_option maxHeartbeats 4000000 in
set_option maxRecDepth 100000 in
theorem lp_hb2 {M : Mx} (l : Launch) (x : Cx) (q : Nat → Nat) (u : NS) (v : SS) (g : PG) (pw : Bool × Nat) (kp : KS) (o : OS) (hk : okN u) (j : Nat) (hj : j < nN u) (H : Nat) (hH : H ≤ 3) (code : Nat) (hcode : code < 6 ^ H) (Tt : Nat) {k0 n0 : Nat}  : ∀ (m : Nat) (k r s : Nat) (b : Bool) (his : Nat) (w : NS), k ≤ H → s = 6 ^ (H - k) → r < s → Tt = (if b = true then (if hbC (H - k) w j r = 0 then 0 else hbC (H - k) w j r + his) else 0) → his ≤ k → okN w → frm u w → H - k < m → J M l x cX6_hoursBy 10 yX6_hoursBy 2 (pM x q u v g pw kp o (oI (oc Tt))) k0 n0 41 [(0, .ref (q 0)), (1, .int (nI j)), (2, .int (nI H)), (3, .int (nI code)), (4, .int (nI r)), (5, .int (nI s)), (6, .int (nI his)), (7, .int (bI b)), (8, .int (nI k))] [] (mb x q w v g pw kp (bgO u o)) := by
  intro m; induction m with
  | zero => intro k r s b his w hc0 hc1 hc2 hc3 hc4 hc5 hc6 hm; exact absurd hm (Nat.not_lt_zero _)
  | succ m ih =>
    intro k r s b his w hc0 hc1 hc2 hc3 hc4 hc5 hc6 hm
    have hn5 : nN u ≤ 5 := hk.1
    have hkw := hc5
    have hfw := hc6
    have hnw := hfw.nE
    refine j_iload 8 dX6_hoursBy_41 rfl ?_
    refine j_iload_n 2 dX6_hoursBy_43 rfl rfl ?_
    refine j_icmpN_ge (a := k) (b := H) (by omega) (by omega) (tgt := 148) dX6_hoursBy_44 (by decide) (fun h44 => ?_) (fun h44 => ?_)
    · skip
      refine j_aload_n 0 dX6_hoursBy_148 rfl rfl ?_
      refine j_cVv (As := []) (rest := []) (wr := []) (ws' := mb x q (enU w (bgO u o)) v g pw kp (bgO u o)) (uX6_end l x q w v g pw kp (bgO u o) ) kX6_end 0 rfl rfl rfl vX6_135 dX6_hoursBy_149 (by decide) rfl rfl (Nat.le_of_ble_eq_true rfl) (pm_0 _) (List.append_nil _) ?_
      refine j_iload 7 dX6_hoursBy_152 rfl ?_
      refine j_ifb_eq (b := b) (tgt := 162) dX6_hoursBy_154 (by decide) (fun h154 => ?_) (fun h154 => ?_)
      · skip
        refine j_iconst (v := (-1)) dX6_hoursBy_162 (by decide) ?_
        exact j_iret _ dX6_hoursBy_163 (List.Perm.refl _) ⟨by rw [hc3, show H - k = 0 by omega, h154]; first | rfl | (rw [hb_end]; rfl), ⟨(enU w (bgO u o)), (bgO u o), sim_bg hk.1 hfw, rfl⟩⟩
      · skip
        refine j_iload 6 dX6_hoursBy_157 rfl ?_
        refine j_goto (tgt := 163) dX6_hoursBy_159 (by decide) ?_
        exact j_iret _ dX6_hoursBy_163 (List.Perm.refl _) ⟨by rw [hc3, show H - k = 0 by omega, h154]; first | rfl | (rw [hb_end]; rfl), ⟨(enU w (bgO u o)), (bgO u o), sim_bg hk.1 hfw, rfl⟩⟩
    · skip
      obtain ⟨f, hf⟩ : ∃ f, H - k = f + 1 := ⟨H - (k + 1), by omega⟩
      have hf' : H - (k + 1) = f := by omega
      have hp := p6_pos f
      have hp2 := p6_le (f := f) (by omega)
      have hs6 : s / 6 = 6 ^ f := by rw [hc1, hf, Nat.pow_succ]; omega
      obtain ⟨s', hs'⟩ : ∃ s', s' = s / 6 := ⟨_, rfl⟩
      obtain ⟨D, hD⟩ : ∃ D, D = r / s' := ⟨_, rfl⟩
      obtain ⟨E, hE⟩ : ∃ E, E = r % s' := ⟨_, rfl⟩
      have hD6 : D < 6 := by rw [hD, hs', hs6]; exact Nat.div_lt_of_lt_mul (by rw [hc1, hf, Nat.pow_succ] at hc2; omega)
      have hE6 : E < s' := by rw [hE]; exact Nat.mod_lt _ (by omega)
      have hrb : r < 2 ^ 31 := by rw [hc1, hf, Nat.pow_succ] at hc2; omega
      have hDf : D = r / 6 ^ f := by rw [hD, hs', hs6]
      have hEf : E = r % 6 ^ f := by rw [hE, hs', hs6]
      have hsb : s < 2 ^ 31 := by rw [hc1, hf, Nat.pow_succ]; omega
      rw [hf] at hc3
      refine j_iload 5 dX6_hoursBy_47 rfl ?_
      refine j_bipush (v := 6) dX6_hoursBy_49 (by decide) ?_
      refine j_idiv dX6_hoursBy_51 (by decide) ?_
      refine j_topi (b := nI s') (by rw [hs']; exact pk_div (d := 6) hsb (by decide) (by decide)) ?_
      refine j_istore (lv' := [(5, .int (nI s')), (0, .ref (q 0)), (1, .int (nI j)), (2, .int (nI H)), (3, .int (nI code)), (4, .int (nI r)), (6, .int (nI his)), (7, .int (bI b)), (8, .int (nI k))]) dX6_hoursBy_52 (by decide) rfl ?_
      refine j_iload 5 dX6_hoursBy_54 rfl ?_
      refine j_iload 0 dX6_hoursBy_56 rfl ?_
      refine j_idiv dX6_hoursBy_58 (nI_n0 (by omega) (by omega)) ?_
      refine j_iconst (v := 1) dX6_hoursBy_59 (by decide) ?_
      refine j_isub dX6_hoursBy_60 ?_
      refine j_topi (b := oI (oc D)) (by rw [pk_div hrb (by omega) (by omega), ← hD, oc_of]) ?_
      refine j_istore (lv' := [(9, .int (oI (oc D))), (5, .int (nI s')), (0, .ref (q 0)), (1, .int (nI j)), (2, .int (nI H)), (3, .int (nI code)), (4, .int (nI r)), (6, .int (nI his)), (7, .int (bI b)), (8, .int (nI k))]) dX6_hoursBy_61 (by decide) rfl ?_
      refine j_iload 6 dX6_hoursBy_63 rfl ?_
      refine j_iload 1 dX6_hoursBy_65 rfl ?_
      refine j_irem dX6_hoursBy_67 (nI_n0 (by omega) (by omega)) ?_
      refine j_topi (b := nI E) (by rw [hE]; exact pk_rem hrb (by omega) (by omega)) ?_
      refine j_istore (lv' := [(4, .int (nI E)), (9, .int (oI (oc D))), (5, .int (nI s')), (0, .ref (q 0)), (1, .int (nI j)), (2, .int (nI H)), (3, .int (nI code)), (6, .int (nI his)), (7, .int (bI b)), (8, .int (nI k))]) dX6_hoursBy_68 (by decide) rfl ?_
      refine j_iload 8 dX6_hoursBy_70 rfl ?_
      refine j_ifb_eq (b := b) (tgt := 100) dX6_hoursBy_72 (by decide) (fun h72 => ?_) (fun h72 => ?_)
      · skip
        refine j_iconst (v := bI false) dX6_hoursBy_100 (by decide) ?_
        refine j_istore (lv' := [(7, .int (bI false)), (4, .int (nI E)), (9, .int (oI (oc D))), (5, .int (nI s')), (0, .ref (q 0)), (1, .int (nI j)), (2, .int (nI H)), (3, .int (nI code)), (6, .int (nI his)), (8, .int (nI k))]) dX6_hoursBy_101 (by decide) rfl ?_
        refine j_iload 0 dX6_hoursBy_103 rfl ?_
        refine j_ifb_eq (b := false) (tgt := 120) dX6_hoursBy_105 (by decide) (fun h105 => ?_) (fun h105 => absurd h105 (by decide))
        refine j_iload 8 dX6_hoursBy_120 rfl ?_
        refine j_aload_n 4 dX6_hoursBy_122 rfl rfl ?_
        refine j_cVi (As := []) (rest := [.int (nI his)]) (wr := []) (ws' := mb x q w v g pw kp (bgO u o)) (uX6_whose l x q w v g pw kp (bgO u o) hkw) kX6_whose 0 rfl rfl rfl vX6_92 dX6_hoursBy_123 (by decide) rfl rfl (Nat.le_of_ble_eq_true rfl) (pm_0 _) (List.append_nil _) ?_
        refine j_iload_n 5 dX6_hoursBy_126 rfl rfl ?_
        refine j_icmp_ne (tgt := 134) dX6_hoursBy_127 (by decide) (fun h127 => ?_) (fun h127 => ?_)
        · skip
          have eb : (wbU w == some j) = false := wq_f (hkw).1 (by omega) h127
          refine j_iconst (v := nI 0) dX6_hoursBy_134 (by decide) ?_
          refine j_iadd dX6_hoursBy_135 ?_
          refine j_topi (b := nI (his + 0)) (nI_add _ _) ?_
          refine j_istore (lv' := [(6, .int (nI (his + 0))), (7, .int (bI false)), (4, .int (nI E)), (9, .int (oI (oc D))), (5, .int (nI s')), (0, .ref (q 0)), (1, .int (nI j)), (2, .int (nI H)), (3, .int (nI code)), (8, .int (nI k))]) dX6_hoursBy_136 (by decide) rfl ?_
          refine j_aload_n 5 dX6_hoursBy_138 rfl rfl ?_
          refine j_cVv (As := []) (rest := []) (wr := []) (ws' := mb x q (ph w) v g pw kp (bgO u o)) (uX6_goHour l x q w v g pw kp (bgO u o) hkw) kX6_goHour 0 rfl rfl rfl vX6_126 dX6_hoursBy_139 (by decide) rfl rfl (Nat.le_of_ble_eq_true rfl) (pm_0 _) (List.append_nil _) ?_
          refine j_iinc (v := nI (k + 1)) (lv' := [(8, .int (nI (k + 1))), (6, .int (nI (his + 0))), (7, .int (bI false)), (4, .int (nI E)), (9, .int (oI (oc D))), (5, .int (nI s')), (0, .ref (q 0)), (1, .int (nI j)), (2, .int (nI H)), (3, .int (nI code))]) 9 dX6_hoursBy_142 rfl (nI_1 k) (by decide) rfl ?_
          refine j_goto (tgt := 41) dX6_hoursBy_145 (by decide) ?_
          refine j_lv [6, 7, 8, 9, 3, 5, 1, 2, 0] (lv' := [(0, .ref (q 0)), (1, .int (nI j)), (2, .int (nI H)), (3, .int (nI code)), (4, .int (nI E)), (5, .int (nI s')), (6, .int (nI (his + 0))), (7, .int (bI false)), (8, .int (nI (k + 1)))]) rfl ?_
          exact ih (k + 1) E s' false (his + 0) (ph w) (by omega) (by rw [hs', hs6, hf']) (by omega) (by rw [hc3, h72, if_neg (by decide), if_neg (by decide)]) (by omega) (okN_ph hkw) (frm.ph hfw) (by omega)
        · skip
          have eb : (wbU w == some j) = true := wq_t (hkw).1 (by omega) h127
          refine j_iconst (v := nI 1) dX6_hoursBy_130 (by decide) ?_
          refine j_goto (tgt := 135) dX6_hoursBy_131 (by decide) ?_
          refine j_iadd dX6_hoursBy_135 ?_
          refine j_topi (b := nI (his + 1)) (nI_add _ _) ?_
          refine j_istore (lv' := [(6, .int (nI (his + 1))), (7, .int (bI false)), (4, .int (nI E)), (9, .int (oI (oc D))), (5, .int (nI s')), (0, .ref (q 0)), (1, .int (nI j)), (2, .int (nI H)), (3, .int (nI code)), (8, .int (nI k))]) dX6_hoursBy_136 (by decide) rfl ?_
          refine j_aload_n 5 dX6_hoursBy_138 rfl rfl ?_
          refine j_cVv (As := []) (rest := []) (wr := []) (ws' := mb x q (ph w) v g pw kp (bgO u o)) (uX6_goHour l x q w v g pw kp (bgO u o) hkw) kX6_goHour 0 rfl rfl rfl vX6_126 dX6_hoursBy_139 (by decide) rfl rfl (Nat.le_of_ble_eq_true rfl) (pm_0 _) (List.append_nil _) ?_
          refine j_iinc (v := nI (k + 1)) (lv' := [(8, .int (nI (k + 1))), (6, .int (nI (his + 1))), (7, .int (bI false)), (4, .int (nI E)), (9, .int (oI (oc D))), (5, .int (nI s')), (0, .ref (q 0)), (1, .int (nI j)), (2, .int (nI H)), (3, .int (nI code))]) 9 dX6_hoursBy_142 rfl (nI_1 k) (by decide) rfl ?_
          refine j_goto (tgt := 41) dX6_hoursBy_145 (by decide) ?_
          refine j_lv [6, 7, 8, 9, 3, 5, 1, 2, 0] (lv' := [(0, .ref (q 0)), (1, .int (nI j)), (2, .int (nI H)), (3, .int (nI code)), (4, .int (nI E)), (5, .int (nI s')), (6, .int (nI (his + 1))), (7, .int (bI false)), (8, .int (nI (k + 1)))]) rfl ?_
          exact ih (k + 1) E s' false (his + 1) (ph w) (by omega) (by rw [hs', hs6, hf']) (by omega) (by rw [hc3, h72, if_neg (by decide), if_neg (by decide)]) (by omega) (okN_ph hkw) (frm.ph hfw) (by omega)
      · skip
        refine j_iload 1 dX6_hoursBy_75 rfl ?_
        refine j_iconst (v := (-1)) dX6_hoursBy_77 (by decide) ?_
        refine j_icmp_eq (tgt := 96) dX6_hoursBy_78 (by decide) (fun h78 => ?_) (fun h78 => ?_)
        · skip
          obtain rfl : D = 0 := (oc_m1 (by omega)).mp h78
          refine j_lve (lv' := [(4, .int (nI E)), (9, .int (-1)), (5, .int (nI s')), (0, .ref (q 0)), (1, .int (nI j)), (2, .int (nI H)), (3, .int (nI code)), (6, .int (nI his)), (7, .int (bI b)), (8, .int (nI k))]) rfl ?_
          refine j_iconst (v := bI true) dX6_hoursBy_96 (by decide) ?_
          refine j_goto (tgt := 101) dX6_hoursBy_97 (by decide) ?_
          refine j_istore (lv' := [(7, .int (bI true)), (4, .int (nI E)), (9, .int (-1)), (5, .int (nI s')), (0, .ref (q 0)), (1, .int (nI j)), (2, .int (nI H)), (3, .int (nI code)), (6, .int (nI his)), (8, .int (nI k))]) dX6_hoursBy_101 (by decide) rfl ?_
          refine j_iload 0 dX6_hoursBy_103 rfl ?_
          refine j_ifb_eq (b := true) (tgt := 120) dX6_hoursBy_105 (by decide) (fun h105 => absurd h105 (by decide)) (fun h105 => ?_)
          refine j_iload 2 dX6_hoursBy_108 rfl ?_
          refine j_iconst (v := (-1)) dX6_hoursBy_110 (by decide) ?_
          refine j_icmp_eq (tgt := 120) dX6_hoursBy_111 (by decide) (fun h111 => ?_) (fun h111 => absurd (rfl : (-1 : Int32) = -1) h111)
          refine j_iload 8 dX6_hoursBy_120 rfl ?_
          refine j_aload_n 4 dX6_hoursBy_122 rfl rfl ?_
          refine j_cVi (As := []) (rest := [.int (nI his)]) (wr := []) (ws' := mb x q w v g pw kp (bgO u o)) (uX6_whose l x q w v g pw kp (bgO u o) hkw) kX6_whose 0 rfl rfl rfl vX6_92 dX6_hoursBy_123 (by decide) rfl rfl (Nat.le_of_ble_eq_true rfl) (pm_0 _) (List.append_nil _) ?_
          refine j_iload_n 5 dX6_hoursBy_126 rfl rfl ?_
          refine j_icmp_ne (tgt := 134) dX6_hoursBy_127 (by decide) (fun h127 => ?_) (fun h127 => ?_)
          · skip
            have eb : (wbU w == some j) = false := wq_f (hkw).1 (by omega) h127
            refine j_iconst (v := nI 0) dX6_hoursBy_134 (by decide) ?_
            refine j_iadd dX6_hoursBy_135 ?_
            refine j_topi (b := nI (his + 0)) (nI_add _ _) ?_
            refine j_istore (lv' := [(6, .int (nI (his + 0))), (7, .int (bI true)), (4, .int (nI E)), (9, .int (-1)), (5, .int (nI s')), (0, .ref (q 0)), (1, .int (nI j)), (2, .int (nI H)), (3, .int (nI code)), (8, .int (nI k))]) dX6_hoursBy_136 (by decide) rfl ?_
            refine j_aload_n 5 dX6_hoursBy_138 rfl rfl ?_
            refine j_cVv (As := []) (rest := []) (wr := []) (ws' := mb x q (ph w) v g pw kp (bgO u o)) (uX6_goHour l x q w v g pw kp (bgO u o) hkw) kX6_goHour 0 rfl rfl rfl vX6_126 dX6_hoursBy_139 (by decide) rfl rfl (Nat.le_of_ble_eq_true rfl) (pm_0 _) (List.append_nil _) ?_
            refine j_iinc (v := nI (k + 1)) (lv' := [(8, .int (nI (k + 1))), (6, .int (nI (his + 0))), (7, .int (bI true)), (4, .int (nI E)), (9, .int (-1)), (5, .int (nI s')), (0, .ref (q 0)), (1, .int (nI j)), (2, .int (nI H)), (3, .int (nI code))]) 9 dX6_hoursBy_142 rfl (nI_1 k) (by decide) rfl ?_
            refine j_goto (tgt := 41) dX6_hoursBy_145 (by decide) ?_
            refine j_lv [6, 7, 8, 9, 3, 5, 1, 2, 0] (lv' := [(0, .ref (q 0)), (1, .int (nI j)), (2, .int (nI H)), (3, .int (nI code)), (4, .int (nI E)), (5, .int (nI s')), (6, .int (nI (his + 0))), (7, .int (bI true)), (8, .int (nI (k + 1)))]) rfl ?_
            exact ih (k + 1) E s' true (his + 0) (ph w) (by omega) (by rw [hs', hs6, hf']) (by omega) (by rw [hc3, hf', h72, if_pos rfl, if_pos rfl, hbC_v hDf hEf (by omega)]; first | (simp only [oc, eb, if_true]; done) | (simp only [oc, eb, if_true, Bool.false_eq_true, if_false]; done) | (simp only [oc, lec_none, eb, if_true]; done) | (simp only [oc, lec_none, eb, Bool.false_eq_true, if_false]; done)) (by omega) (okN_ph hkw) (frm.ph hfw) (by omega)
          · skip
            have eb : (wbU w == some j) = true := wq_t (hkw).1 (by omega) h127
            refine j_iconst (v := nI 1) dX6_hoursBy_130 (by decide) ?_
            refine j_goto (tgt := 135) dX6_hoursBy_131 (by decide) ?_
            refine j_iadd dX6_hoursBy_135 ?_
            refine j_topi (b := nI (his + 1)) (nI_add _ _) ?_
            refine j_istore (lv' := [(6, .int (nI (his + 1))), (7, .int (bI true)), (4, .int (nI E)), (9, .int (-1)), (5, .int (nI s')), (0, .ref (q 0)), (1, .int (nI j)), (2, .int (nI H)), (3, .int (nI code)), (8, .int (nI k))]) dX6_hoursBy_136 (by decide) rfl ?_
            refine j_aload_n 5 dX6_hoursBy_138 rfl rfl ?_
            refine j_cVv (As := []) (rest := []) (wr := []) (ws' := mb x q (ph w) v g pw kp (bgO u o)) (uX6_goHour l x q w v g pw kp (bgO u o) hkw) kX6_goHour 0 rfl rfl rfl vX6_126 dX6_hoursBy_139 (by decide) rfl rfl (Nat.le_of_ble_eq_true rfl) (pm_0 _) (List.append_nil _) ?_
            refine j_iinc (v := nI (k + 1)) (lv' := [(8, .int (nI (k + 1))), (6, .int (nI (his + 1))), (7, .int (bI true)), (4, .int (nI E)), (9, .int (-1)), (5, .int (nI s')), (0, .ref (q 0)), (1, .int (nI j)), (2, .int (nI H)), (3, .int (nI code))]) 9 dX6_hoursBy_142 rfl (nI_1 k) (by decide) rfl ?_
            refine j_goto (tgt := 41) dX6_hoursBy_145 (by decide) ?_
            refine j_lv [6, 7, 8, 9, 3, 5, 1, 2, 0] (lv' := [(0, .ref (q 0)), (1, .int (nI j)), (2, .int (nI H)), (3, .int (nI code)), (4, .int (nI E)), (5, .int (nI s')), (6, .int (nI (his + 1))), (7, .int (bI true)), (8, .int (nI (k + 1)))]) rfl ?_
            exact ih (k + 1) E s' true (his + 1) (ph w) (by omega) (by rw [hs', hs6, hf']) (by omega) (by rw [hc3, hf', h72, if_pos rfl, if_pos rfl, hbC_v hDf hEf (by omega)]; first | (simp only [oc, eb, if_true]; done) | (simp only [oc, eb, if_true, Bool.false_eq_true, if_false]; done) | (simp only [oc, lec_none, eb, if_true]; done) | (simp only [oc, lec_none, eb, Bool.false_eq_true, if_false]; done)) (by omega) (okN_ph hkw) (frm.ph hfw) (by omega)
        · skip
          obtain ⟨D', rfl⟩ : ∃ D', D = D' + 1 := ⟨D - 1, by have := mt (oc_m1 (c := D) (by omega)).mpr h78; omega⟩
          refine j_lve (lv' := [(4, .int (nI E)), (9, .int (nI D')), (5, .int (nI s')), (0, .ref (q 0)), (1, .int (nI j)), (2, .int (nI H)), (3, .int (nI code)), (6, .int (nI his)), (7, .int (bI b)), (8, .int (nI k))]) rfl ?_
          refine j_aload_n 3 dX6_hoursBy_81 rfl rfl ?_
          refine j_iload 1 dX6_hoursBy_82 rfl ?_
          refine j_cVi (As := [.int (nI D')]) (rest := []) (wr := []) (ws' := mb x q w v g pw kp (bgO u o)) (uX6_isLodger l x q w v g pw kp (bgO u o) (hkw).1 (nI D')) kX6_isLodger 0 rfl rfl rfl vX6_112 dX6_hoursBy_84 (by decide) rfl rfl (Nat.le_of_ble_eq_true rfl) (pm_0 _) (List.append_nil _) ?_
          refine j_topi (b := bI (decide (D' < nN w))) (congrArg bI (kn_d (by omega) (by omega))) ?_
          refine j_ifb_eq (b := decide (D' < nN w)) (tgt := 100) dX6_hoursBy_87 (by decide) (fun h87 => ?_) (fun h87 => ?_)
          · skip
            have hDn := of_decide_eq_false h87
            refine j_iconst (v := bI false) dX6_hoursBy_100 (by decide) ?_
            refine j_istore (lv' := [(7, .int (bI false)), (4, .int (nI E)), (9, .int (nI D')), (5, .int (nI s')), (0, .ref (q 0)), (1, .int (nI j)), (2, .int (nI H)), (3, .int (nI code)), (6, .int (nI his)), (8, .int (nI k))]) dX6_hoursBy_101 (by decide) rfl ?_
            refine j_iload 0 dX6_hoursBy_103 rfl ?_
            refine j_ifb_eq (b := false) (tgt := 120) dX6_hoursBy_105 (by decide) (fun h105 => ?_) (fun h105 => absurd h105 (by decide))
            refine j_iload 8 dX6_hoursBy_120 rfl ?_
            refine j_aload_n 4 dX6_hoursBy_122 rfl rfl ?_
            refine j_cVi (As := []) (rest := [.int (nI his)]) (wr := []) (ws' := mb x q w v g pw kp (bgO u o)) (uX6_whose l x q w v g pw kp (bgO u o) hkw) kX6_whose 0 rfl rfl rfl vX6_92 dX6_hoursBy_123 (by decide) rfl rfl (Nat.le_of_ble_eq_true rfl) (pm_0 _) (List.append_nil _) ?_
            refine j_iload_n 5 dX6_hoursBy_126 rfl rfl ?_
            refine j_icmp_ne (tgt := 134) dX6_hoursBy_127 (by decide) (fun h127 => ?_) (fun h127 => ?_)
            · skip
              have eb : (wbU w == some j) = false := wq_f (hkw).1 (by omega) h127
              refine j_iconst (v := nI 0) dX6_hoursBy_134 (by decide) ?_
              refine j_iadd dX6_hoursBy_135 ?_
              refine j_topi (b := nI (his + 0)) (nI_add _ _) ?_
              refine j_istore (lv' := [(6, .int (nI (his + 0))), (7, .int (bI false)), (4, .int (nI E)), (9, .int (nI D')), (5, .int (nI s')), (0, .ref (q 0)), (1, .int (nI j)), (2, .int (nI H)), (3, .int (nI code)), (8, .int (nI k))]) dX6_hoursBy_136 (by decide) rfl ?_
              refine j_aload_n 5 dX6_hoursBy_138 rfl rfl ?_
              refine j_cVv (As := []) (rest := []) (wr := []) (ws' := mb x q (ph w) v g pw kp (bgO u o)) (uX6_goHour l x q w v g pw kp (bgO u o) hkw) kX6_goHour 0 rfl rfl rfl vX6_126 dX6_hoursBy_139 (by decide) rfl rfl (Nat.le_of_ble_eq_true rfl) (pm_0 _) (List.append_nil _) ?_
              refine j_iinc (v := nI (k + 1)) (lv' := [(8, .int (nI (k + 1))), (6, .int (nI (his + 0))), (7, .int (bI false)), (4, .int (nI E)), (9, .int (nI D')), (5, .int (nI s')), (0, .ref (q 0)), (1, .int (nI j)), (2, .int (nI H)), (3, .int (nI code))]) 9 dX6_hoursBy_142 rfl (nI_1 k) (by decide) rfl ?_
              refine j_goto (tgt := 41) dX6_hoursBy_145 (by decide) ?_
              refine j_lv [6, 7, 8, 9, 3, 5, 1, 2, 0] (lv' := [(0, .ref (q 0)), (1, .int (nI j)), (2, .int (nI H)), (3, .int (nI code)), (4, .int (nI E)), (5, .int (nI s')), (6, .int (nI (his + 0))), (7, .int (bI false)), (8, .int (nI (k + 1)))]) rfl ?_
              exact ih (k + 1) E s' false (his + 0) (ph w) (by omega) (by rw [hs', hs6, hf']) (by omega) (by rw [hc3, hf', h72, if_pos rfl, hbC_n hDf (by omega), if_pos rfl, if_neg (by decide)]) (by omega) (okN_ph hkw) (frm.ph hfw) (by omega)
            · skip
              have eb : (wbU w == some j) = true := wq_t (hkw).1 (by omega) h127
              refine j_iconst (v := nI 1) dX6_hoursBy_130 (by decide) ?_
              refine j_goto (tgt := 135) dX6_hoursBy_131 (by decide) ?_
              refine j_iadd dX6_hoursBy_135 ?_
              refine j_topi (b := nI (his + 1)) (nI_add _ _) ?_
              refine j_istore (lv' := [(6, .int (nI (his + 1))), (7, .int (bI false)), (4, .int (nI E)), (9, .int (nI D')), (5, .int (nI s')), (0, .ref (q 0)), (1, .int (nI j)), (2, .int (nI H)), (3, .int (nI code)), (8, .int (nI k))]) dX6_hoursBy_136 (by decide) rfl ?_
              refine j_aload_n 5 dX6_hoursBy_138 rfl rfl ?_
              refine j_cVv (As := []) (rest := []) (wr := []) (ws' := mb x q (ph w) v g pw kp (bgO u o)) (uX6_goHour l x q w v g pw kp (bgO u o) hkw) kX6_goHour 0 rfl rfl rfl vX6_126 dX6_hoursBy_139 (by decide) rfl rfl (Nat.le_of_ble_eq_true rfl) (pm_0 _) (List.append_nil _) ?_
              refine j_iinc (v := nI (k + 1)) (lv' := [(8, .int (nI (k + 1))), (6, .int (nI (his + 1))), (7, .int (bI false)), (4, .int (nI E)), (9, .int (nI D')), (5, .int (nI s')), (0, .ref (q 0)), (1, .int (nI j)), (2, .int (nI H)), (3, .int (nI code))]) 9 dX6_hoursBy_142 rfl (nI_1 k) (by decide) rfl ?_
              refine j_goto (tgt := 41) dX6_hoursBy_145 (by decide) ?_
              refine j_lv [6, 7, 8, 9, 3, 5, 1, 2, 0] (lv' := [(0, .ref (q 0)), (1, .int (nI j)), (2, .int (nI H)), (3, .int (nI code)), (4, .int (nI E)), (5, .int (nI s')), (6, .int (nI (his + 1))), (7, .int (bI false)), (8, .int (nI (k + 1)))]) rfl ?_
              exact ih (k + 1) E s' false (his + 1) (ph w) (by omega) (by rw [hs', hs6, hf']) (by omega) (by rw [hc3, hf', h72, if_pos rfl, hbC_n hDf (by omega), if_pos rfl, if_neg (by decide)]) (by omega) (okN_ph hkw) (frm.ph hfw) (by omega)
          · skip
            have hDn := of_decide_eq_true h87
            refine j_iload 1 dX6_hoursBy_90 rfl ?_
            refine j_iload_n 4 dX6_hoursBy_92 rfl rfl ?_
            refine j_icmpN_eq (a := D') (b := j) (by omega) (by omega) (tgt := 100) dX6_hoursBy_93 (by decide) (fun h93 => ?_) (fun h93 => ?_)
            · skip
              refine j_iconst (v := bI false) dX6_hoursBy_100 (by decide) ?_
              refine j_istore (lv' := [(7, .int (bI false)), (4, .int (nI E)), (9, .int (nI D')), (5, .int (nI s')), (0, .ref (q 0)), (1, .int (nI j)), (2, .int (nI H)), (3, .int (nI code)), (6, .int (nI his)), (8, .int (nI k))]) dX6_hoursBy_101 (by decide) rfl ?_
              refine j_iload 0 dX6_hoursBy_103 rfl ?_
              refine j_ifb_eq (b := false) (tgt := 120) dX6_hoursBy_105 (by decide) (fun h105 => ?_) (fun h105 => absurd h105 (by decide))
              refine j_iload 8 dX6_hoursBy_120 rfl ?_
              refine j_aload_n 4 dX6_hoursBy_122 rfl rfl ?_
              refine j_cVi (As := []) (rest := [.int (nI his)]) (wr := []) (ws' := mb x q w v g pw kp (bgO u o)) (uX6_whose l x q w v g pw kp (bgO u o) hkw) kX6_whose 0 rfl rfl rfl vX6_92 dX6_hoursBy_123 (by decide) rfl rfl (Nat.le_of_ble_eq_true rfl) (pm_0 _) (List.append_nil _) ?_
              refine j_iload_n 5 dX6_hoursBy_126 rfl rfl ?_
              refine j_icmp_ne (tgt := 134) dX6_hoursBy_127 (by decide) (fun h127 => ?_) (fun h127 => ?_)
              · skip
                have eb : (wbU w == some j) = false := wq_f (hkw).1 (by omega) h127
                refine j_iconst (v := nI 0) dX6_hoursBy_134 (by decide) ?_
                refine j_iadd dX6_hoursBy_135 ?_
                refine j_topi (b := nI (his + 0)) (nI_add _ _) ?_
                refine j_istore (lv' := [(6, .int (nI (his + 0))), (7, .int (bI false)), (4, .int (nI E)), (9, .int (nI D')), (5, .int (nI s')), (0, .ref (q 0)), (1, .int (nI j)), (2, .int (nI H)), (3, .int (nI code)), (8, .int (nI k))]) dX6_hoursBy_136 (by decide) rfl ?_
                refine j_aload_n 5 dX6_hoursBy_138 rfl rfl ?_
                refine j_cVv (As := []) (rest := []) (wr := []) (ws' := mb x q (ph w) v g pw kp (bgO u o)) (uX6_goHour l x q w v g pw kp (bgO u o) hkw) kX6_goHour 0 rfl rfl rfl vX6_126 dX6_hoursBy_139 (by decide) rfl rfl (Nat.le_of_ble_eq_true rfl) (pm_0 _) (List.append_nil _) ?_
                refine j_iinc (v := nI (k + 1)) (lv' := [(8, .int (nI (k + 1))), (6, .int (nI (his + 0))), (7, .int (bI false)), (4, .int (nI E)), (9, .int (nI D')), (5, .int (nI s')), (0, .ref (q 0)), (1, .int (nI j)), (2, .int (nI H)), (3, .int (nI code))]) 9 dX6_hoursBy_142 rfl (nI_1 k) (by decide) rfl ?_
                refine j_goto (tgt := 41) dX6_hoursBy_145 (by decide) ?_
                refine j_lv [6, 7, 8, 9, 3, 5, 1, 2, 0] (lv' := [(0, .ref (q 0)), (1, .int (nI j)), (2, .int (nI H)), (3, .int (nI code)), (4, .int (nI E)), (5, .int (nI s')), (6, .int (nI (his + 0))), (7, .int (bI false)), (8, .int (nI (k + 1)))]) rfl ?_
                exact ih (k + 1) E s' false (his + 0) (ph w) (by omega) (by rw [hs', hs6, hf']) (by omega) (by rw [hc3, hf', h72, if_pos rfl, hbC_n hDf (by omega), if_pos rfl, if_neg (by decide)]) (by omega) (okN_ph hkw) (frm.ph hfw) (by omega)
              · skip
                have eb : (wbU w == some j) = true := wq_t (hkw).1 (by omega) h127
                refine j_iconst (v := nI 1) dX6_hoursBy_130 (by decide) ?_
                refine j_goto (tgt := 135) dX6_hoursBy_131 (by decide) ?_
                refine j_iadd dX6_hoursBy_135 ?_
                refine j_topi (b := nI (his + 1)) (nI_add _ _) ?_
                refine j_istore (lv' := [(6, .int (nI (his + 1))), (7, .int (bI false)), (4, .int (nI E)), (9, .int (nI D')), (5, .int (nI s')), (0, .ref (q 0)), (1, .int (nI j)), (2, .int (nI H)), (3, .int (nI code)), (8, .int (nI k))]) dX6_hoursBy_136 (by decide) rfl ?_
                refine j_aload_n 5 dX6_hoursBy_138 rfl rfl ?_
                refine j_cVv (As := []) (rest := []) (wr := []) (ws' := mb x q (ph w) v g pw kp (bgO u o)) (uX6_goHour l x q w v g pw kp (bgO u o) hkw) kX6_goHour 0 rfl rfl rfl vX6_126 dX6_hoursBy_139 (by decide) rfl rfl (Nat.le_of_ble_eq_true rfl) (pm_0 _) (List.append_nil _) ?_
                refine j_iinc (v := nI (k + 1)) (lv' := [(8, .int (nI (k + 1))), (6, .int (nI (his + 1))), (7, .int (bI false)), (4, .int (nI E)), (9, .int (nI D')), (5, .int (nI s')), (0, .ref (q 0)), (1, .int (nI j)), (2, .int (nI H)), (3, .int (nI code))]) 9 dX6_hoursBy_142 rfl (nI_1 k) (by decide) rfl ?_
                refine j_goto (tgt := 41) dX6_hoursBy_145 (by decide) ?_
                refine j_lv [6, 7, 8, 9, 3, 5, 1, 2, 0] (lv' := [(0, .ref (q 0)), (1, .int (nI j)), (2, .int (nI H)), (3, .int (nI code)), (4, .int (nI E)), (5, .int (nI s')), (6, .int (nI (his + 1))), (7, .int (bI false)), (8, .int (nI (k + 1)))]) rfl ?_
                exact ih (k + 1) E s' false (his + 1) (ph w) (by omega) (by rw [hs', hs6, hf']) (by omega) (by rw [hc3, hf', h72, if_pos rfl, hbC_n hDf (by omega), if_pos rfl, if_neg (by decide)]) (by omega) (okN_ph hkw) (frm.ph hfw) (by omega)
            · skip
              refine j_iconst (v := bI true) dX6_hoursBy_96 (by decide) ?_
              refine j_goto (tgt := 101) dX6_hoursBy_97 (by decide) ?_
              refine j_istore (lv' := [(7, .int (bI true)), (4, .int (nI E)), (9, .int (nI D')), (5, .int (nI s')), (0, .ref (q 0)), (1, .int (nI j)), (2, .int (nI H)), (3, .int (nI code)), (6, .int (nI his)), (8, .int (nI k))]) dX6_hoursBy_101 (by decide) rfl ?_
              refine j_iload 0 dX6_hoursBy_103 rfl ?_
              refine j_ifb_eq (b := true) (tgt := 120) dX6_hoursBy_105 (by decide) (fun h105 => absurd h105 (by decide)) (fun h105 => ?_)
              refine j_iload 2 dX6_hoursBy_108 rfl ?_
              refine j_iconst (v := (-1)) dX6_hoursBy_110 (by decide) ?_
              refine j_icmp_eq (tgt := 120) dX6_hoursBy_111 (by decide) (fun h111 => absurd h111 (nI_nm1 (by omega))) (fun h111 => ?_)
              refine j_aload_n 4 dX6_hoursBy_114 rfl rfl ?_
              refine j_iload 2 dX6_hoursBy_115 rfl ?_
              refine j_cVv (As := [.int (nI D')]) (rest := []) (wr := []) (ws' := mb x q (lec w (some D')) v g pw kp (bgO u o)) (uX6_hearLecture l x q w v g pw kp (bgO u o) hkw D' (by (try simp only [nN_ph, nN_lec, nN_cof, nN_cfs, nN_hrs, nN_wak]); omega)) kX6_hearLecture 0 rfl rfl rfl vX6_123 dX6_hoursBy_117 (by decide) rfl rfl (Nat.le_of_ble_eq_true rfl) (pm_0 _) (List.append_nil _) ?_
              refine j_iload 8 dX6_hoursBy_120 rfl ?_
              refine j_aload_n 4 dX6_hoursBy_122 rfl rfl ?_
              refine j_cVi (As := []) (rest := [.int (nI his)]) (wr := []) (ws' := mb x q (lec w (some D')) v g pw kp (bgO u o)) (uX6_whose l x q (lec w (some D')) v g pw kp (bgO u o) (okN_lec hkw (some D'))) kX6_whose 0 rfl rfl rfl vX6_92 dX6_hoursBy_123 (by decide) rfl rfl (Nat.le_of_ble_eq_true rfl) (pm_0 _) (List.append_nil _) ?_
              refine j_iload_n 5 dX6_hoursBy_126 rfl rfl ?_
              refine j_icmp_ne (tgt := 134) dX6_hoursBy_127 (by decide) (fun h127 => ?_) (fun h127 => ?_)
              · skip
                have eb : (wbU (lec w (some D')) == some j) = false := wq_f ((okN_lec hkw (some D'))).1 (by omega) h127
                refine j_iconst (v := nI 0) dX6_hoursBy_134 (by decide) ?_
                refine j_iadd dX6_hoursBy_135 ?_
                refine j_topi (b := nI (his + 0)) (nI_add _ _) ?_
                refine j_istore (lv' := [(6, .int (nI (his + 0))), (7, .int (bI true)), (4, .int (nI E)), (9, .int (nI D')), (5, .int (nI s')), (0, .ref (q 0)), (1, .int (nI j)), (2, .int (nI H)), (3, .int (nI code)), (8, .int (nI k))]) dX6_hoursBy_136 (by decide) rfl ?_
                refine j_aload_n 5 dX6_hoursBy_138 rfl rfl ?_
                refine j_cVv (As := []) (rest := []) (wr := []) (ws' := mb x q (ph (lec w (some D'))) v g pw kp (bgO u o)) (uX6_goHour l x q (lec w (some D')) v g pw kp (bgO u o) (okN_lec hkw (some D'))) kX6_goHour 0 rfl rfl rfl vX6_126 dX6_hoursBy_139 (by decide) rfl rfl (Nat.le_of_ble_eq_true rfl) (pm_0 _) (List.append_nil _) ?_
                refine j_iinc (v := nI (k + 1)) (lv' := [(8, .int (nI (k + 1))), (6, .int (nI (his + 0))), (7, .int (bI true)), (4, .int (nI E)), (9, .int (nI D')), (5, .int (nI s')), (0, .ref (q 0)), (1, .int (nI j)), (2, .int (nI H)), (3, .int (nI code))]) 9 dX6_hoursBy_142 rfl (nI_1 k) (by decide) rfl ?_
                refine j_goto (tgt := 41) dX6_hoursBy_145 (by decide) ?_
                refine j_lv [6, 7, 8, 9, 3, 5, 1, 2, 0] (lv' := [(0, .ref (q 0)), (1, .int (nI j)), (2, .int (nI H)), (3, .int (nI code)), (4, .int (nI E)), (5, .int (nI s')), (6, .int (nI (his + 0))), (7, .int (bI true)), (8, .int (nI (k + 1)))]) rfl ?_
                exact ih (k + 1) E s' true (his + 0) (ph (lec w (some D'))) (by omega) (by rw [hs', hs6, hf']) (by omega) (by rw [hc3, hf', h72, if_pos rfl, if_pos rfl, hbC_v hDf hEf (by omega)]; first | (simp only [oc, eb, if_true]; done) | (simp only [oc, eb, if_true, Bool.false_eq_true, if_false]; done) | (simp only [oc, lec_none, eb, if_true]; done) | (simp only [oc, lec_none, eb, Bool.false_eq_true, if_false]; done)) (by omega) (okN_ph (okN_lec hkw (some D'))) (frm.ph (frm.lec hfw (some D'))) (by omega)
              · skip
                have eb : (wbU (lec w (some D')) == some j) = true := wq_t ((okN_lec hkw (some D'))).1 (by omega) h127
                refine j_iconst (v := nI 1) dX6_hoursBy_130 (by decide) ?_
                refine j_goto (tgt := 135) dX6_hoursBy_131 (by decide) ?_
                refine j_iadd dX6_hoursBy_135 ?_
                refine j_topi (b := nI (his + 1)) (nI_add _ _) ?_
                refine j_istore (lv' := [(6, .int (nI (his + 1))), (7, .int (bI true)), (4, .int (nI E)), (9, .int (nI D')), (5, .int (nI s')), (0, .ref (q 0)), (1, .int (nI j)), (2, .int (nI H)), (3, .int (nI code)), (8, .int (nI k))]) dX6_hoursBy_136 (by decide) rfl ?_
                refine j_aload_n 5 dX6_hoursBy_138 rfl rfl ?_
                refine j_cVv (As := []) (rest := []) (wr := []) (ws' := mb x q (ph (lec w (some D'))) v g pw kp (bgO u o)) (uX6_goHour l x q (lec w (some D')) v g pw kp (bgO u o) (okN_lec hkw (some D'))) kX6_goHour 0 rfl rfl rfl vX6_126 dX6_hoursBy_139 (by decide) rfl rfl (Nat.le_of_ble_eq_true rfl) (pm_0 _) (List.append_nil _) ?_
                refine j_iinc (v := nI (k + 1)) (lv' := [(8, .int (nI (k + 1))), (6, .int (nI (his + 1))), (7, .int (bI true)), (4, .int (nI E)), (9, .int (nI D')), (5, .int (nI s')), (0, .ref (q 0)), (1, .int (nI j)), (2, .int (nI H)), (3, .int (nI code))]) 9 dX6_hoursBy_142 rfl (nI_1 k) (by decide) rfl ?_
                refine j_goto (tgt := 41) dX6_hoursBy_145 (by decide) ?_
                refine j_lv [6, 7, 8, 9, 3, 5, 1, 2, 0] (lv' := [(0, .ref (q 0)), (1, .int (nI j)), (2, .int (nI H)), (3, .int (nI code)), (4, .int (nI E)), (5, .int (nI s')), (6, .int (nI (his + 1))), (7, .int (bI true)), (8, .int (nI (k + 1)))]) rfl ?_
                exact ih (k + 1) E s' true (his + 1) (ph (lec w (some D'))) (by omega) (by rw [hs', hs6, hf']) (by omega) (by rw [hc3, hf', h72, if_pos rfl, if_pos rfl, hbC_v hDf hEf (by omega)]; first | (simp only [oc, eb, if_true]; done) | (simp only [oc, eb, if_true, Bool.false_eq_true, if_false]; done) | (simp only [oc, lec_none, eb, if_true]; done) | (simp only [oc, lec_none, eb, Bool.false_eq_true, if_false]; done)) (by omega) (okN_ph (okN_lec hkw (some D'))) (frm.ph (frm.lec hfw (some D'))) (by omega)
set_option maxHeartbeats 4000000 in
set_option maxRecDepth 100000 in
theorem lp_hb1 {M : Mx} (l : Launch) (x : Cx) (q : Nat → Nat) (u : NS) (v : SS) (g : PG) (pw : Bool × Nat) (kp : KS) (o : OS) (hk : okN u) (j : Nat) (hj : j < nN u) (H : Nat) (hH : H ≤ 3) (code : Nat) (hcode : code < 6 ^ H) {k0 n0 : Nat}  : ∀ (m : Nat) (k : Nat), k ≤ H → H - k < m → J M l x cX6_hoursBy 10 yX6_hoursBy 2 (pM x q u v g pw kp o (oI (oc (hbC H u j code)))) k0 n0 9 [(0, .ref (q 0)), (1, .int (nI j)), (2, .int (nI H)), (3, .int (nI code)), (4, .int (nI code)), (5, .int (nI (6 ^ k))), (6, .int (nI k))] [] (mb x q u v g pw kp o) := by
  intro m; induction m with
  | zero => intro k hc0 hm; exact absurd hm (Nat.not_lt_zero _)
  | succ m ih =>
    intro k hc0 hm
    have hn5 : nN u ≤ 5 := hk.1
    refine j_iload 6 dX6_hoursBy_9 rfl ?_
    refine j_iload_n 2 dX6_hoursBy_11 rfl rfl ?_
    refine j_icmpN_ge (a := k) (b := H) (by omega) (by omega) (tgt := 28) dX6_hoursBy_12 (by decide) (fun h12 => ?_) (fun h12 => ?_)
    · skip
      refine j_iconst (v := nI 0) dX6_hoursBy_28 (by decide) ?_
      refine j_istore (lv' := [(6, .int (nI 0)), (0, .ref (q 0)), (1, .int (nI j)), (2, .int (nI H)), (3, .int (nI code)), (4, .int (nI code)), (5, .int (nI (6 ^ k)))]) dX6_hoursBy_29 (by decide) rfl ?_
      refine j_iconst (v := bI true) dX6_hoursBy_31 (by decide) ?_
      refine j_istore (lv' := [(7, .int (bI true)), (6, .int (nI 0)), (0, .ref (q 0)), (1, .int (nI j)), (2, .int (nI H)), (3, .int (nI code)), (4, .int (nI code)), (5, .int (nI (6 ^ k)))]) dX6_hoursBy_32 (by decide) rfl ?_
      refine j_aload_n 2 dX6_hoursBy_34 rfl rfl ?_
      refine j_cVv (As := []) (rest := []) (wr := []) (ws' := mb x q u v g pw kp (bgO u o)) (uX6_begin l x q u v g pw kp o ) kX6_begin 0 rfl rfl rfl vX6_132 dX6_hoursBy_35 (by decide) rfl rfl (Nat.le_of_ble_eq_true rfl) (pm_0 _) (List.append_nil _) ?_
      refine j_iconst (v := nI 0) dX6_hoursBy_38 (by decide) ?_
      refine j_istore (lv' := [(8, .int (nI 0)), (7, .int (bI true)), (6, .int (nI 0)), (0, .ref (q 0)), (1, .int (nI j)), (2, .int (nI H)), (3, .int (nI code)), (4, .int (nI code)), (5, .int (nI (6 ^ k)))]) dX6_hoursBy_39 (by decide) rfl ?_
      refine j_lv [3, 4, 5, 6, 7, 8, 2, 1, 0] (lv' := [(0, .ref (q 0)), (1, .int (nI j)), (2, .int (nI H)), (3, .int (nI code)), (4, .int (nI code)), (5, .int (nI (6 ^ k))), (6, .int (nI 0)), (7, .int (bI true)), (8, .int (nI 0))]) rfl ?_
      exact lp_hb2 l x q u v g pw kp o hk j hj H hH code hcode _ (H + 1) 0 code (6 ^ k) true 0 u (by omega) (by rw [show k = H by omega]; rfl) (by rw [show k = H by omega]; exact hcode) (by rw [if_pos rfl, Nat.sub_zero]; split <;> omega) (by omega) hk (frm.rf u) (by omega)
    · skip
      refine j_iload 5 dX6_hoursBy_15 rfl ?_
      refine j_bipush (v := 6) dX6_hoursBy_17 (by decide) ?_
      refine j_imul dX6_hoursBy_19 ?_
      refine j_topi (b := nI (6 ^ (k + 1))) (nI_m6 _) ?_
      refine j_istore (lv' := [(5, .int (nI (6 ^ (k + 1)))), (0, .ref (q 0)), (1, .int (nI j)), (2, .int (nI H)), (3, .int (nI code)), (4, .int (nI code)), (6, .int (nI k))]) dX6_hoursBy_20 (by decide) rfl ?_
      refine j_iinc (v := nI (k + 1)) (lv' := [(6, .int (nI (k + 1))), (5, .int (nI (6 ^ (k + 1)))), (0, .ref (q 0)), (1, .int (nI j)), (2, .int (nI H)), (3, .int (nI code)), (4, .int (nI code))]) 6 dX6_hoursBy_22 rfl (nI_1 k) (by decide) rfl ?_
      refine j_goto (tgt := 9) dX6_hoursBy_25 (by decide) ?_
      refine j_lv [2, 3, 4, 5, 6, 1, 0] (lv' := [(0, .ref (q 0)), (1, .int (nI j)), (2, .int (nI H)), (3, .int (nI code)), (4, .int (nI code)), (5, .int (nI (6 ^ (k + 1)))), (6, .int (nI (k + 1)))]) rfl ?_
      exact ih (k + 1) (by omega) (by omega)
set_option maxHeartbeats 4000000 in
set_option maxRecDepth 100000 in
theorem tX6_hoursBy (l : Launch) (x : Cx) (q : Nat → Nat) (u : NS) (v : SS) (g : PG) (pw : Bool × Nat) (kp : KS) (o : OS) (hk : okN u) (j : Nat) (hj : j < nN u) (H : Nat) (hH : H ≤ 3) (code : Nat) (hcode : code < 6 ^ H) : MC l x 2 0 0 yX6_hoursBy cX6_hoursBy 10 (some .int) [.ref (q 0), .int (nI j), .int (nI H), .int (nI code)] (mb x q u v g pw kp o) (pM x q u v g pw kp o (oI (oc (hbC H u j code)))) := by
  refine MC.of (by decide) (Nat.le_of_ble_eq_true rfl) eXI_fit (fun M => ?_)
  show J M l x cX6_hoursBy 10 yX6_hoursBy 2 (pM x q u v g pw kp o (oI (oc (hbC H u j code)))) 0 0 0 [(0, .ref (q 0)), (1, .int (nI j)), (2, .int (nI H)), (3, .int (nI code))] [] (mb x q u v g pw kp o)
  have hn5 : nN u ≤ 5 := hk.1
  refine j_iload_n 3 dX6_hoursBy_0 rfl rfl ?_
  refine j_istore (lv' := [(4, .int (nI code)), (0, .ref (q 0)), (1, .int (nI j)), (2, .int (nI H)), (3, .int (nI code))]) dX6_hoursBy_1 (by decide) rfl ?_
  refine j_iconst (v := nI 1) dX6_hoursBy_3 (by decide) ?_
  refine j_istore (lv' := [(5, .int (nI 1)), (4, .int (nI code)), (0, .ref (q 0)), (1, .int (nI j)), (2, .int (nI H)), (3, .int (nI code))]) dX6_hoursBy_4 (by decide) rfl ?_
  refine j_iconst (v := nI 0) dX6_hoursBy_6 (by decide) ?_
  refine j_istore (lv' := [(6, .int (nI 0)), (5, .int (nI 1)), (4, .int (nI code)), (0, .ref (q 0)), (1, .int (nI j)), (2, .int (nI H)), (3, .int (nI code))]) dX6_hoursBy_7 (by decide) rfl ?_
  refine j_lv [3, 4, 5, 6, 2, 1, 0] (lv' := [(0, .ref (q 0)), (1, .int (nI j)), (2, .int (nI H)), (3, .int (nI code)), (4, .int (nI code)), (5, .int (nI 1)), (6, .int (nI 0))]) rfl ?_
  exact lp_hb1 l x q u v g pw kp o hk j hj H hH code hcode (H + 1) 0 (by omega) (by omega)
set_option maxHeartbeats 4000000 in
set_option maxRecDepth 100000 in
theorem lp_ln2 {M : Mx} (l : Launch) (x : Cx) (q : Nat → Nat) (u : NS) (v : SS) (g : PG) (pw : Bool × Nat) (kp : KS) (o : OS) (hk : okN u) (j : Nat) (hj : j < nN u) (H : Nat) (h1H : 1 ≤ H) (hH : H ≤ 3) (e : Int32) {k0 n0 : Nat}  : ∀ (m : Nat) (c s1 s2 : Nat) (u' : NS) (o' : OS), c ≤ 6 ^ H → itr (bst (hbC H u j)) (6 ^ H - c) c (s1, s2) = sc H u j → s1 ≤ 4 → s2 < 6 ^ H → sim u o u' o' → 6 ^ H - c < m → J M l x cX6_lecturesNow 9 yX6_lecturesNow 3 (pM x q u v g pw kp o (if e = 0 then (mst H u j).1 else (mst H u j).2)) k0 n0 34 [(0, .ref (q 0)), (1, .int (nI j)), (2, .int (nI H)), (3, .int e), (4, .int (nI (6 ^ H))), (5, .int (nI s2)), (6, .int (oI (oc s1))), (7, .int (nI c))] [] (mb x q u' v g pw kp o') := by
  intro m; induction m with
  | zero => intro c s1 s2 u' o' hc0 hc1 hc2 hc3 hc4 hm; exact absurd hm (Nat.not_lt_zero _)
  | succ m ih =>
    intro c s1 s2 u' o' hc0 hc1 hc2 hc3 hc4 hm
    have hn5 : nN u ≤ 5 := hk.1
    have hku' : okN u' := okN_eq hc4.1.symm hk
    have hnn := hc4.1.nE
    have hp := p6_pos H
    have hp2 := p6_le hH
    have hhb := hbC_le H u j c
    have hp3 := p6_pos (H - 1)
    have hp4 : 6 ^ H = 6 ^ (H - 1) * 6 := by rw [← Nat.pow_succ]; congr 1; omega
    refine j_iload 7 dX6_lecturesNow_34 rfl ?_
    refine j_iload 4 dX6_lecturesNow_36 rfl ?_
    refine j_icmpN_ge (a := c) (b := 6 ^ H) (by omega) (by omega) (tgt := 89) dX6_lecturesNow_38 (by decide) (fun h38 => ?_) (fun h38 => ?_)
    · skip
      refine j_iload_n 3 dX6_lecturesNow_89 rfl rfl ?_
      refine j_if_ne (tgt := 98) dX6_lecturesNow_90 (by decide) (fun h90 => ?_) (fun h90 => ?_)
      · skip
        refine j_iload 5 dX6_lecturesNow_98 rfl ?_
        refine j_iload 4 dX6_lecturesNow_100 rfl ?_
        refine j_bipush (v := 6) dX6_lecturesNow_102 (by decide) ?_
        refine j_idiv dX6_lecturesNow_104 (by decide) ?_
        refine j_topi (b := nI (6 ^ (H - 1))) (by rw [show (6 : Int32) = nI 6 from rfl, pk_div (by omega) (by decide) (by decide)]; congr 1; omega) ?_
        refine j_idiv dX6_lecturesNow_105 (nI_n0 (by omega) (by omega)) ?_
        refine j_iconst (v := 1) dX6_lecturesNow_106 (by decide) ?_
        refine j_isub dX6_lecturesNow_107 ?_
        refine j_topi (b := oI (oc (s2 / 6 ^ (H - 1)))) (by rw [pk_div (by omega) (by omega) (by omega), oc_of]) ?_
        rw [itr_end (n := 6 ^ H) (b := c) (by omega)] at hc1
        have hsc := scan_mn H u j hn5
        have hmm := mst_mn H u j hH
        rw [← hc1] at hsc
        exact j_iret _ dX6_lecturesNow_108 (List.Perm.refl _) ⟨by first | (rw [if_pos h90, hmm, ← hsc.1]; done) | (rw [if_neg h90, hmm, ← hsc.2 (H - 1) (by omega)]; done), u', o', hc4, rfl⟩
      · skip
        refine j_iload 6 dX6_lecturesNow_93 rfl ?_
        refine j_goto (tgt := 108) dX6_lecturesNow_95 (by decide) ?_
        rw [itr_end (n := 6 ^ H) (b := c) (by omega)] at hc1
        have hsc := scan_mn H u j hn5
        have hmm := mst_mn H u j hH
        rw [← hc1] at hsc
        exact j_iret _ dX6_lecturesNow_108 (List.Perm.refl _) ⟨by first | (rw [if_pos h90, hmm, ← hsc.1]; done) | (rw [if_neg h90, hmm, ← hsc.2 (H - 1) (by omega)]; done), u', o', hc4, rfl⟩
    · skip
      refine j_aload_n 0 dX6_lecturesNow_41 rfl rfl ?_
      refine j_iload_n 1 dX6_lecturesNow_42 rfl rfl ?_
      refine j_iload_n 2 dX6_lecturesNow_43 rfl rfl ?_
      refine j_iload 7 dX6_lecturesNow_44 rfl ?_
      refine j_callV (As := [.int (nI j), .int (nI H), .int (nI c)]) (rest := []) (wr := []) (tX6_hoursBy l x q u' v g pw kp o' hku' j (by (try simp only [nN_ph, nN_lec, nN_cof, nN_cfs, nN_hrs, nN_wak]); omega) H (by omega) c (by omega)) kX6_hoursBy vX6_144 0 rfl rfl rfl dX6_lecturesNow_46 (by decide) (Nat.le_of_eq (Nat.zero_add _)) (Nat.le_of_eq (Nat.zero_add _)) rfl rfl (Nat.le_of_ble_eq_true rfl) (pm_0 _) (fun v9 w9 hv9 => ?_)
      obtain ⟨rfl, u19, o19, hs19, rfl⟩ := hv9
      refine j_eq (lv' := [(0, .ref (q 0)), (1, .int (nI j)), (2, .int (nI H)), (3, .int e), (4, .int (nI (6 ^ H))), (5, .int (nI s2)), (6, .int (oI (oc s1))), (7, .int (nI c))]) (st' := [.int (oI (oc (hbC H u' j c)))]) (ws' := mb x q u19 v g pw kp o19) rfl rfl (List.append_nil _) ?_
      have hku19 : okN u19 := okN_eq hs19.1.symm hku'
      refine j_topi (b := oI (oc (hbC H u j c))) (by rw [hc4.1.hcE H j c]) ?_
      refine j_istore (lv' := [(8, .int (oI (oc (hbC H u j c)))), (0, .ref (q 0)), (1, .int (nI j)), (2, .int (nI H)), (3, .int e), (4, .int (nI (6 ^ H))), (5, .int (nI s2)), (6, .int (oI (oc s1))), (7, .int (nI c))]) dX6_lecturesNow_49 (by decide) rfl ?_
      refine j_iload 0 dX6_lecturesNow_51 rfl ?_
      refine j_iload 7 dX6_lecturesNow_53 rfl ?_
      refine j_icmp_le (tgt := 63) dX6_lecturesNow_55 (by decide) (fun h55 => ?_) (fun h55 => ?_)
      · skip
        have hle := (oc_leI (by omega) (by omega)).mp h55
        refine j_iload 6 dX6_lecturesNow_63 rfl ?_
        refine j_istore (lv' := [(5, .int (nI s2)), (8, .int (oI (oc (hbC H u j c)))), (0, .ref (q 0)), (1, .int (nI j)), (2, .int (nI H)), (3, .int e), (4, .int (nI (6 ^ H))), (6, .int (oI (oc s1))), (7, .int (nI c))]) dX6_lecturesNow_65 (by decide) rfl ?_
        refine j_iload 1 dX6_lecturesNow_67 rfl ?_
        refine j_iload 7 dX6_lecturesNow_69 rfl ?_
        refine j_icmp_le (tgt := 79) dX6_lecturesNow_71 (by decide) (fun h71 => ?_) (fun h71 => absurd h55 h71)
        refine j_iload 7 dX6_lecturesNow_79 rfl ?_
        refine j_istore (lv' := [(6, .int (oI (oc s1))), (5, .int (nI s2)), (8, .int (oI (oc (hbC H u j c)))), (0, .ref (q 0)), (1, .int (nI j)), (2, .int (nI H)), (3, .int e), (4, .int (nI (6 ^ H))), (7, .int (nI c))]) dX6_lecturesNow_81 (by decide) rfl ?_
        refine j_iinc (v := nI (c + 1)) (lv' := [(7, .int (nI (c + 1))), (6, .int (oI (oc s1))), (5, .int (nI s2)), (8, .int (oI (oc (hbC H u j c)))), (0, .ref (q 0)), (1, .int (nI j)), (2, .int (nI H)), (3, .int e), (4, .int (nI (6 ^ H)))]) 8 dX6_lecturesNow_83 rfl (nI_1 c) (by decide) rfl ?_
        refine j_goto (tgt := 34) dX6_lecturesNow_86 (by decide) ?_
        refine j_lv [4, 5, 6, 7, 8, 2, 1, 0] (lv' := [(0, .ref (q 0)), (1, .int (nI j)), (2, .int (nI H)), (3, .int e), (4, .int (nI (6 ^ H))), (5, .int (nI s2)), (6, .int (oI (oc s1))), (7, .int (nI (c + 1)))]) rfl ?_
        exact ih (c + 1) s1 s2 u19 o19 (by omega) (by rw [← hc1, itr_go (n := 6 ^ H) (b := c) (by omega), bst_le (s := (s1, s2)) hle]) (by omega) (by omega) (hc4.trans hs19) (by omega)
      · skip
        have hle := mt (oc_leI (a := hbC H u j c) (b := s1) (by omega) (by omega)).mpr h55
        refine j_iload 8 dX6_lecturesNow_58 rfl ?_
        refine j_goto (tgt := 65) dX6_lecturesNow_60 (by decide) ?_
        refine j_istore (lv' := [(5, .int (nI c)), (8, .int (oI (oc (hbC H u j c)))), (0, .ref (q 0)), (1, .int (nI j)), (2, .int (nI H)), (3, .int e), (4, .int (nI (6 ^ H))), (6, .int (oI (oc s1))), (7, .int (nI c))]) dX6_lecturesNow_65 (by decide) rfl ?_
        refine j_iload 1 dX6_lecturesNow_67 rfl ?_
        refine j_iload 7 dX6_lecturesNow_69 rfl ?_
        refine j_icmp_le (tgt := 79) dX6_lecturesNow_71 (by decide) (fun h71 => absurd h71 h55) (fun h71 => ?_)
        refine j_iload 1 dX6_lecturesNow_74 rfl ?_
        refine j_goto (tgt := 81) dX6_lecturesNow_76 (by decide) ?_
        refine j_istore (lv' := [(6, .int (oI (oc (hbC H u j c)))), (5, .int (nI c)), (8, .int (oI (oc (hbC H u j c)))), (0, .ref (q 0)), (1, .int (nI j)), (2, .int (nI H)), (3, .int e), (4, .int (nI (6 ^ H))), (7, .int (nI c))]) dX6_lecturesNow_81 (by decide) rfl ?_
        refine j_iinc (v := nI (c + 1)) (lv' := [(7, .int (nI (c + 1))), (6, .int (oI (oc (hbC H u j c)))), (5, .int (nI c)), (8, .int (oI (oc (hbC H u j c)))), (0, .ref (q 0)), (1, .int (nI j)), (2, .int (nI H)), (3, .int e), (4, .int (nI (6 ^ H)))]) 8 dX6_lecturesNow_83 rfl (nI_1 c) (by decide) rfl ?_
        refine j_goto (tgt := 34) dX6_lecturesNow_86 (by decide) ?_
        refine j_lv [4, 5, 6, 7, 8, 2, 1, 0] (lv' := [(0, .ref (q 0)), (1, .int (nI j)), (2, .int (nI H)), (3, .int e), (4, .int (nI (6 ^ H))), (5, .int (nI c)), (6, .int (oI (oc (hbC H u j c)))), (7, .int (nI (c + 1)))]) rfl ?_
        exact ih (c + 1) (hbC H u j c) c u19 o19 (by omega) (by rw [← hc1, itr_go (n := 6 ^ H) (b := c) (by omega), bst_gt (s := (s1, s2)) hle]) (by omega) (by omega) (hc4.trans hs19) (by omega)
set_option maxHeartbeats 4000000 in
set_option maxRecDepth 100000 in
theorem lp_ln1 {M : Mx} (l : Launch) (x : Cx) (q : Nat → Nat) (u : NS) (v : SS) (g : PG) (pw : Bool × Nat) (kp : KS) (o : OS) (hk : okN u) (j : Nat) (hj : j < nN u) (H : Nat) (h1H : 1 ≤ H) (hH : H ≤ 3) (e : Int32) {k0 n0 : Nat}  : ∀ (m : Nat) (k : Nat), k ≤ H → H - k < m → J M l x cX6_lecturesNow 9 yX6_lecturesNow 3 (pM x q u v g pw kp o (if e = 0 then (mst H u j).1 else (mst H u j).2)) k0 n0 6 [(0, .ref (q 0)), (1, .int (nI j)), (2, .int (nI H)), (3, .int e), (4, .int (nI (6 ^ k))), (5, .int (nI k))] [] (mb x q u v g pw kp o) := by
  intro m; induction m with
  | zero => intro k hc0 hm; exact absurd hm (Nat.not_lt_zero _)
  | succ m ih =>
    intro k hc0 hm
    have hn5 : nN u ≤ 5 := hk.1
    refine j_iload 5 dX6_lecturesNow_6 rfl ?_
    refine j_iload_n 2 dX6_lecturesNow_8 rfl rfl ?_
    refine j_icmpN_ge (a := k) (b := H) (by omega) (by omega) (tgt := 25) dX6_lecturesNow_9 (by decide) (fun h9 => ?_) (fun h9 => ?_)
    · skip
      refine j_iconst (v := nI 0) dX6_lecturesNow_25 (by decide) ?_
      refine j_istore (lv' := [(5, .int (nI 0)), (0, .ref (q 0)), (1, .int (nI j)), (2, .int (nI H)), (3, .int e), (4, .int (nI (6 ^ k)))]) dX6_lecturesNow_26 (by decide) rfl ?_
      refine j_iconst (v := (-1)) dX6_lecturesNow_28 (by decide) ?_
      refine j_istore (lv' := [(6, .int (-1)), (5, .int (nI 0)), (0, .ref (q 0)), (1, .int (nI j)), (2, .int (nI H)), (3, .int e), (4, .int (nI (6 ^ k)))]) dX6_lecturesNow_29 (by decide) rfl ?_
      refine j_iconst (v := nI 0) dX6_lecturesNow_31 (by decide) ?_
      refine j_istore (lv' := [(7, .int (nI 0)), (6, .int (-1)), (5, .int (nI 0)), (0, .ref (q 0)), (1, .int (nI j)), (2, .int (nI H)), (3, .int e), (4, .int (nI (6 ^ k)))]) dX6_lecturesNow_32 (by decide) rfl ?_
      refine j_lv [3, 4, 5, 6, 7, 2, 1, 0] (lv' := [(0, .ref (q 0)), (1, .int (nI j)), (2, .int (nI H)), (3, .int e), (4, .int (nI (6 ^ k))), (5, .int (nI 0)), (6, .int (-1)), (7, .int (nI 0))]) rfl ?_
      obtain rfl : k = H := by omega
      exact lp_ln2 l x q u v g pw kp o hk j hj k h1H hH e (6 ^ k + 1) 0 0 0 u o (Nat.zero_le _) rfl (by omega) (p6_pos k) (sim.rf u o) (Nat.lt_succ_self _)
    · skip
      refine j_iload 4 dX6_lecturesNow_12 rfl ?_
      refine j_bipush (v := 6) dX6_lecturesNow_14 (by decide) ?_
      refine j_imul dX6_lecturesNow_16 ?_
      refine j_topi (b := nI (6 ^ (k + 1))) (nI_m6 _) ?_
      refine j_istore (lv' := [(4, .int (nI (6 ^ (k + 1)))), (0, .ref (q 0)), (1, .int (nI j)), (2, .int (nI H)), (3, .int e), (5, .int (nI k))]) dX6_lecturesNow_17 (by decide) rfl ?_
      refine j_iinc (v := nI (k + 1)) (lv' := [(5, .int (nI (k + 1))), (4, .int (nI (6 ^ (k + 1)))), (0, .ref (q 0)), (1, .int (nI j)), (2, .int (nI H)), (3, .int e)]) 5 dX6_lecturesNow_19 rfl (nI_1 k) (by decide) rfl ?_
      refine j_goto (tgt := 6) dX6_lecturesNow_22 (by decide) ?_
      refine j_lv [2, 3, 4, 5, 1, 0] (lv' := [(0, .ref (q 0)), (1, .int (nI j)), (2, .int (nI H)), (3, .int e), (4, .int (nI (6 ^ (k + 1)))), (5, .int (nI (k + 1)))]) rfl ?_
      exact ih (k + 1) (by omega) (by omega)
set_option maxHeartbeats 4000000 in
set_option maxRecDepth 100000 in
theorem tX6_lecturesNow (l : Launch) (x : Cx) (q : Nat → Nat) (u : NS) (v : SS) (g : PG) (pw : Bool × Nat) (kp : KS) (o : OS) (hk : okN u) (j : Nat) (hj : j < nN u) (H : Nat) (h1H : 1 ≤ H) (hH : H ≤ 3) (e : Int32) : MC l x 3 0 0 yX6_lecturesNow cX6_lecturesNow 9 (some .int) [.ref (q 0), .int (nI j), .int (nI H), .int e] (mb x q u v g pw kp o) (pM x q u v g pw kp o (if e = 0 then (mst H u j).1 else (mst H u j).2)) := by
  refine MC.of (by decide) (Nat.le_of_ble_eq_true rfl) eXI_fit (fun M => ?_)
  show J M l x cX6_lecturesNow 9 yX6_lecturesNow 3 (pM x q u v g pw kp o (if e = 0 then (mst H u j).1 else (mst H u j).2)) 0 0 0 [(0, .ref (q 0)), (1, .int (nI j)), (2, .int (nI H)), (3, .int e)] [] (mb x q u v g pw kp o)
  have hn5 : nN u ≤ 5 := hk.1
  refine j_iconst (v := nI 1) dX6_lecturesNow_0 (by decide) ?_
  refine j_istore (lv' := [(4, .int (nI 1)), (0, .ref (q 0)), (1, .int (nI j)), (2, .int (nI H)), (3, .int e)]) dX6_lecturesNow_1 (by decide) rfl ?_
  refine j_iconst (v := nI 0) dX6_lecturesNow_3 (by decide) ?_
  refine j_istore (lv' := [(5, .int (nI 0)), (4, .int (nI 1)), (0, .ref (q 0)), (1, .int (nI j)), (2, .int (nI H)), (3, .int e)]) dX6_lecturesNow_4 (by decide) rfl ?_
  refine j_lv [2, 3, 4, 5, 1, 0] (lv' := [(0, .ref (q 0)), (1, .int (nI j)), (2, .int (nI H)), (3, .int e), (4, .int (nI 1)), (5, .int (nI 0))]) rfl ?_
  exact lp_ln1 l x q u v g pw kp o hk j hj H h1H hH e (H + 1) 0 (by omega) (by omega)
def setA (o : OS) (n : Nat) : OS := match o with
  | (ho, _, sv, sd, wy, se, hh) => (ho, n, sv, sd, wy, se, hh)
theorem setA_self (o : OS) : setA o o.2.1 = o := by obtain ⟨ho, as, sv, sd, wy, se, hh⟩ := o; rfl
/-- an answer; the house as before, and how often was asked -/
def pMA (x : Cx) (q : Nat → Nat) (u : NS) (v : SS) (g : PG) (pw : Bool × Nat) (kp : KS) (o : OS) (K : Int32 × CS) : Option Value → va_W → Prop := eX K.1 (fun ws => ∃ (u' : NS) (o' : OS), sim u (setA o K.2.1.2.2) u' o' ∧ ws = mb x q u' v g pw kp o')
set_option maxHeartbeats 4000000 in
set_option maxRecDepth 100000 in
theorem tX6_lectures (l : Launch) (x : Cx) (q : Nat → Nat) (u : NS) (v : SS) (g : PG) (pw : Bool × Nat) (kp : KS) (o : OS) (hk : okN u) (hld : o.2.1 ≤ 40) (l9 e e2 : Int32) : MC l x 4 0 0 yX6_lectures cX6_lectures 4 (some .int) [.ref (q 0), .int l9, .int e, .int e2] (mb x q u v g pw kp o) (pMA x q u v g pw kp o (kLectures (false, o.1, o.2.1) g u v u v l9 e e2)) := by
  refine MC.of (by decide) (Nat.le_of_ble_eq_true rfl) eXI_fit (fun M => ?_)
  show J M l x cX6_lectures 4 yX6_lectures 4 (pMA x q u v g pw kp o (kLectures (false, o.1, o.2.1) g u v u v l9 e e2)) 0 0 0 [(0, .ref (q 0)), (1, .int l9), (2, .int e), (3, .int e2)] [] (mb x q u v g pw kp o)
  have hn5 : nN u ≤ 5 := hk.1
  refine j_aload_n 0 dX6_lectures_0 rfl rfl ?_
  refine j_iload_n 1 dX6_lectures_1 rfl rfl ?_
  refine j_cVi (As := [.int l9]) (rest := []) (wr := []) (ws' := mb x q u v g pw kp o) (uX6_isLodger l x q u v g pw kp o (hk).1 l9) kX6_isLodger 0 rfl rfl rfl vX6_112 dX6_lectures_2 (by decide) rfl rfl (Nat.le_of_ble_eq_true rfl) (pm_0 _) (List.append_nil _) ?_
  refine j_ifb_ne (b := kn (nN u) l9) (tgt := 11) dX6_lectures_5 (by decide) (fun h5 => ?_) (fun h5 => ?_)
  · skip
    obtain ⟨j, hj, rfl, hjc⟩ := kn_j h5 (by omega)
    refine j_iload_n 2 dX6_lectures_11 rfl rfl ?_
    refine j_iconst (v := 1) dX6_lectures_12 (by decide) ?_
    refine j_iconst (v := 3) dX6_lectures_13 (by decide) ?_
    refine j_cSi (As := [.int e, .int 1, .int 3]) (rest := []) (wr := mb x q u v g pw kp o) (ws' := mb x q u v g pw kp o) (tX6_within l x e 1 3) kX6_within sX6_51 dX6_lectures_14 (by decide) rfl rfl (Nat.le_of_ble_eq_true rfl) (List.Perm.refl _) rfl ?_
    refine j_ifb_eq (b := isW e 1 3) (tgt := 29) dX6_lectures_17 (by decide) (fun h17 => ?_) (fun h17 => ?_)
    · skip
      refine j_bipush (v := (-102)) dX6_lectures_29 (by decide) ?_
      have hK1 : (kLectures (false, o.1, o.2.1) g u v u v (nI j) e e2).1 = (-102) := by first | (simp [kLectures, h5, h17]; done) | (simp [kLectures, h5, h17, h26]; done)
      have hK2 : (kLectures (false, o.1, o.2.1) g u v u v (nI j) e e2).2.1.2.2 = o.2.1 := by first | (simp [kLectures, h5, h17]; done) | (simp [kLectures, h5, h17, h26]; done)
      exact j_iret _ dX6_lectures_31 (List.Perm.refl _) ⟨by rw [hK1], u, o, by rw [hK2, setA_self]; exact sim.rf u o, rfl⟩
    · skip
      obtain ⟨hh, hlo, hhi, rfl⟩ := isW_nat (lo := 1) (hi := 3) (by decide) (by decide) h17
      have hhc : (nI hh).toNatClampNeg = hh := nI_clamp (by omega)
      refine j_iload_n 3 dX6_lectures_20 rfl rfl ?_
      refine j_iconst (v := 0) dX6_lectures_21 (by decide) ?_
      refine j_iconst (v := 1) dX6_lectures_22 (by decide) ?_
      refine j_cSi (As := [.int e2, .int 0, .int 1]) (rest := []) (wr := mb x q u v g pw kp o) (ws' := mb x q u v g pw kp o) (tX6_within l x e2 0 1) kX6_within sX6_51 dX6_lectures_23 (by decide) rfl rfl (Nat.le_of_ble_eq_true rfl) (List.Perm.refl _) rfl ?_
      refine j_ifb_ne (b := isW e2 0 1) (tgt := 32) dX6_lectures_26 (by decide) (fun h26 => ?_) (fun h26 => ?_)
      · skip
        refine j_aload_n 0 dX6_lectures_32 rfl rfl ?_
        refine j_get (v := .int (nI o.2.1)) 0 dX6_lectures_33 fX6_148 rfl rfl ?_
        refine j_bipush (v := 40) dX6_lectures_36 (by decide) ?_
        refine j_icmpN_ne (a := o.2.1) (b := 40) (by omega) (by omega) (tgt := 44) dX6_lectures_38 (by decide) (fun h38 => ?_) (fun h38 => ?_)
        · skip
          have hlt : o.2.1 < 40 := by omega
          refine j_aload_n 0 dX6_lectures_44 rfl rfl ?_
          refine j_dup dX6_lectures_45 rfl ?_
          refine j_get (v := .int (nI o.2.1)) 0 dX6_lectures_46 fX6_148 rfl rfl ?_
          refine j_iconst (v := 1) dX6_lectures_49 (by decide) ?_
          refine j_iadd dX6_lectures_50 ?_
          refine j_topi (b := nI (o.2.1 + 1)) (nI_1 _) ?_
          refine j_put (v := .int (nI (o.2.1 + 1))) (ws' := mb x q u v g pw kp (o.1, o.2.1 + 1, o.2.2.1, o.2.2.2.1, o.2.2.2.2.1, o.2.2.2.2.2.1, o.2.2.2.2.2.2)) 0 dX6_lectures_51 fX6_148 rfl rfl rfl (Nat.le_of_ble_eq_true rfl) rfl ?_
          refine j_aload_n 0 dX6_lectures_54 rfl rfl ?_
          refine j_iload_n 1 dX6_lectures_55 rfl rfl ?_
          refine j_iload_n 2 dX6_lectures_56 rfl rfl ?_
          refine j_iload_n 3 dX6_lectures_57 rfl rfl ?_
          refine j_callV (As := [.int (nI j), .int (nI hh), .int e2]) (rest := []) (wr := []) (tX6_lecturesNow l x q u v g pw kp (o.1, o.2.1 + 1, o.2.2.1, o.2.2.2.1, o.2.2.2.2.1, o.2.2.2.2.2.1, o.2.2.2.2.2.2) hk j (by (try simp only [nN_ph, nN_lec, nN_cof, nN_cfs, nN_hrs, nN_wak]); omega) hh (by omega) (by omega) e2) kX6_lecturesNow vX6_151 0 rfl rfl rfl dX6_lectures_58 (by decide) (Nat.le_of_eq (Nat.zero_add _)) (Nat.le_of_eq (Nat.zero_add _)) rfl rfl (Nat.le_of_ble_eq_true rfl) (pm_0 _) (fun v9 w9 hv9 => ?_)
          obtain ⟨rfl, u19, o19, hs19, rfl⟩ := hv9
          refine j_eq (lv' := [(0, .ref (q 0)), (1, .int (nI j)), (2, .int (nI hh)), (3, .int e2)]) (st' := [.int (if e2 = 0 then (mst hh u j).1 else (mst hh u j).2)]) (ws' := mb x q u19 v g pw kp o19) rfl rfl (List.append_nil _) ?_
          have hku19 : okN u19 := okN_eq hs19.1.symm hk
          have hK1 : (kLectures (false, o.1, o.2.1) g u v u v (nI j) (nI hh) e2).1 = if e2 = 0 then (mst hh u j).1 else (mst hh u j).2 := by simp [kLectures, hjc, h5, h17, h26, hhc, hlt]
          have hK2 : (kLectures (false, o.1, o.2.1) g u v u v (nI j) (nI hh) e2).2.1.2.2 = (o.2.1 + 1) := by simp [kLectures, hjc, h5, h17, h26, hhc, hlt]
          exact j_iret _ dX6_lectures_61 (List.Perm.refl _) ⟨by rw [hK1], u19, o19, by rw [hK2]; exact hs19, rfl⟩
        · skip
          have hge : ¬ o.2.1 < 40 := by omega
          refine j_bipush (v := (-103)) dX6_lectures_41 (by decide) ?_
          have hK1 : (kLectures (false, o.1, o.2.1) g u v u v (nI j) (nI hh) e2).1 = (-103) := by simp [kLectures, h5, h17, h26, h38]
          have hK2 : (kLectures (false, o.1, o.2.1) g u v u v (nI j) (nI hh) e2).2.1.2.2 = o.2.1 := by simp [kLectures, h5, h17, h26, h38]
          exact j_iret _ dX6_lectures_43 (List.Perm.refl _) ⟨by rw [hK1], u, o, by rw [hK2, setA_self]; exact sim.rf u o, rfl⟩
      · skip
        refine j_bipush (v := (-102)) dX6_lectures_29 (by decide) ?_
        have hK1 : (kLectures (false, o.1, o.2.1) g u v u v (nI j) (nI hh) e2).1 = (-102) := by first | (simp [kLectures, h5, h17]; done) | (simp [kLectures, h5, h17, h26]; done)
        have hK2 : (kLectures (false, o.1, o.2.1) g u v u v (nI j) (nI hh) e2).2.1.2.2 = o.2.1 := by first | (simp [kLectures, h5, h17]; done) | (simp [kLectures, h5, h17, h26]; done)
        exact j_iret _ dX6_lectures_31 (List.Perm.refl _) ⟨by rw [hK1], u, o, by rw [hK2, setA_self]; exact sim.rf u o, rfl⟩
  · skip
    refine j_bipush (v := (-101)) dX6_lectures_8 (by decide) ?_
    have hK1 : (kLectures (false, o.1, o.2.1) g u v u v l9 e e2).1 = (-101) := by simp [kLectures, h5]
    have hK2 : (kLectures (false, o.1, o.2.1) g u v u v l9 e e2).2.1.2.2 = o.2.1 := by simp [kLectures, h5]
    exact j_iret _ dX6_lectures_10 (List.Perm.refl _) ⟨by rw [hK1], u, o, by rw [hK2, setA_self]; exact sim.rf u o, rfl⟩
