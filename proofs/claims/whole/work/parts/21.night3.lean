set_option maxHeartbeats 4000000 in
set_option maxRecDepth 100000 in
theorem lp_keepsBed {M : Mx} (l : Launch) (x : Cx) (q : Nat → Nat) (j : Nat) (hj : j < 5) (hh : Nat) (hh6 : hh ≤ 6) {k0 n0 : Nat} : ∀ (m a : Nat) (u : NS), a ≤ hh → nN u ≤ 5 → hh - a < m → J M l x cX2_keepsBed 4 yX2_keepsBed 3 (eX (bI (kb (hh - a) u j)) (anyN x q)) k0 n0 2 [(0, .ref (q 0)), (1, .int (nI j)), (2, .int (nI hh)), (3, .int (nI a))] [] (nb x q u) := by
  intro m; induction m with
  | zero => intro a u hc0 hc1 hm; exact absurd hm (Nat.not_lt_zero _)
  | succ m ih =>
    intro a u hc0 hc1 hm
    obtain ⟨kf, tf, sl, bf, n, d, h⟩ := u
    have hn : n ≤ 5 := hc1
    refine j_iload_n 3 dX2_keepsBed_2 rfl rfl ?_
    refine j_iload_n 2 dX2_keepsBed_3 rfl rfl ?_
    refine j_bipush (v := 6) dX2_keepsBed_4 (by decide) ?_
    refine j_mmin dX2_keepsBed_6 mX2_40 (by decide) (Nat.le_of_ble_eq_true rfl) ?_
    refine j_topi (b := nI hh) (by rw [show (6 : Int32) = nI 6 from rfl, mmin_nI (by omega) (by omega), Nat.min_eq_left hh6]) ?_
    refine j_icmpN_ge (a := a) (b := hh) (by omega) (by omega) (tgt := 30) dX2_keepsBed_9 (by decide) (fun h9 => ?_) (fun h9 => ?_)
    · skip
      refine j_aload_n 0 dX2_keepsBed_30 rfl rfl ?_
      refine j_cVi (As := []) (rest := []) (wr := []) (ws' := nb x q (kf, tf, sl, bf, n, d, h)) (tX2_whoseBed l x q kf tf sl bf n d h (by omega)) kX2_whoseBed 0 rfl rfl rfl vX2_69 dX2_keepsBed_31 (by decide) rfl rfl (Nat.le_of_ble_eq_true rfl) (pm_0 _) (List.append_nil _) ?_
      refine j_iload_n 1 dX2_keepsBed_34 rfl rfl ?_
      refine j_icmp_ne (tgt := 42) dX2_keepsBed_35 (by decide) (fun h35 => ?_) (fun h35 => ?_)
      · skip
        have eq35 : ¬ wb kf tf sl n = some j := fun e => h35 ((oI_eq (by omega) (fun i e => by have := wb_lt e; omega)).mpr e).symm
        refine j_iconst (v := bI false) dX2_keepsBed_42 (by decide) ?_
        exact j_iret _ dX2_keepsBed_43 (List.Perm.refl _) ⟨congrArg (fun b => some (Value.int (bI b))) (by exact (kb_f (show ¬ wbU (kf, tf, sl, bf, n, d, h) = some j from eq35)).symm), (kf, tf, sl, bf, n, d, h), hn, rfl⟩
      · skip
        have eq35 : wb kf tf sl n = some j := (oI_eq (by omega) (fun i e => by have := wb_lt e; omega)).mp h35.symm
        refine j_iconst (v := bI true) dX2_keepsBed_38 (by decide) ?_
        refine j_goto (tgt := 43) dX2_keepsBed_39 (by decide) ?_
        exact j_iret _ dX2_keepsBed_43 (List.Perm.refl _) ⟨congrArg (fun b => some (Value.int (bI b))) (by first | exact absurd eq35 eq17 | (rw [show hh - a = 0 by omega]; simp [kb, wbU, eq35]; done)), (kf, tf, sl, bf, n, d, h), hn, rfl⟩
    · skip
      refine j_aload_n 0 dX2_keepsBed_12 rfl rfl ?_
      refine j_cVi (As := []) (rest := []) (wr := []) (ws' := nb x q (kf, tf, sl, bf, n, d, h)) (tX2_whoseBed l x q kf tf sl bf n d h (by omega)) kX2_whoseBed 0 rfl rfl rfl vX2_69 dX2_keepsBed_13 (by decide) rfl rfl (Nat.le_of_ble_eq_true rfl) (pm_0 _) (List.append_nil _) ?_
      refine j_iload_n 1 dX2_keepsBed_16 rfl rfl ?_
      refine j_icmp_ne (tgt := 30) dX2_keepsBed_17 (by decide) (fun h17 => ?_) (fun h17 => ?_)
      · skip
        have eq17 : ¬ wb kf tf sl n = some j := fun e => h17 ((oI_eq (by omega) (fun i e => by have := wb_lt e; omega)).mpr e).symm
        refine j_aload_n 0 dX2_keepsBed_30 rfl rfl ?_
        refine j_cVi (As := []) (rest := []) (wr := []) (ws' := nb x q (kf, tf, sl, bf, n, d, h)) (tX2_whoseBed l x q kf tf sl bf n d h (by omega)) kX2_whoseBed 0 rfl rfl rfl vX2_69 dX2_keepsBed_31 (by decide) rfl rfl (Nat.le_of_ble_eq_true rfl) (pm_0 _) (List.append_nil _) ?_
        refine j_iload_n 1 dX2_keepsBed_34 rfl rfl ?_
        refine j_icmp_ne (tgt := 42) dX2_keepsBed_35 (by decide) (fun h35 => ?_) (fun h35 => ?_)
        · skip
          have eq35 : ¬ wb kf tf sl n = some j := fun e => h35 ((oI_eq (by omega) (fun i e => by have := wb_lt e; omega)).mpr e).symm
          refine j_iconst (v := bI false) dX2_keepsBed_42 (by decide) ?_
          exact j_iret _ dX2_keepsBed_43 (List.Perm.refl _) ⟨congrArg (fun b => some (Value.int (bI b))) (by exact (kb_f (show ¬ wbU (kf, tf, sl, bf, n, d, h) = some j from eq35)).symm), (kf, tf, sl, bf, n, d, h), hn, rfl⟩
        · skip
          have eq35 : wb kf tf sl n = some j := (oI_eq (by omega) (fun i e => by have := wb_lt e; omega)).mp h35.symm
          refine j_iconst (v := bI true) dX2_keepsBed_38 (by decide) ?_
          refine j_goto (tgt := 43) dX2_keepsBed_39 (by decide) ?_
          exact j_iret _ dX2_keepsBed_43 (List.Perm.refl _) ⟨congrArg (fun b => some (Value.int (bI b))) (by first | exact absurd eq35 eq17 | (rw [show hh - a = 0 by omega]; simp [kb, wbU, eq35]; done)), (kf, tf, sl, bf, n, d, h), hn, rfl⟩
      · skip
        have eq17 : wb kf tf sl n = some j := (oI_eq (by omega) (fun i e => by have := wb_lt e; omega)).mp h17.symm
        refine j_aload_n 0 dX2_keepsBed_20 rfl rfl ?_
        refine j_cVv (As := []) (rest := []) (wr := []) (ws' := nb x q (ph (kf, tf, sl, bf, n, d, h))) (tX2_passHour l x q kf tf sl bf n d h (by omega)) kX2_passHour 0 rfl rfl rfl vX2_76 dX2_keepsBed_21 (by decide) rfl rfl (Nat.le_of_ble_eq_true rfl) (pm_0 _) (List.append_nil _) ?_
        refine j_iinc (v := nI (a + 1)) (lv' := [(3, .int (nI (a + 1))), (0, .ref (q 0)), (1, .int (nI j)), (2, .int (nI hh))]) 3 dX2_keepsBed_24 rfl (nI_1 a) (by decide) rfl ?_
        refine j_goto (tgt := 2) dX2_keepsBed_27 (by decide) ?_
        refine j_lv [1, 2, 3, 0] (lv' := [(0, .ref (q 0)), (1, .int (nI j)), (2, .int (nI hh)), (3, .int (nI (a + 1)))]) rfl ?_
        have hi := ih (a + 1) (ph (kf, tf, sl, bf, n, d, h)) (by omega) (by show n ≤ 5; exact hn) (by omega)
        rw [show kb (hh - a) (kf, tf, sl, bf, n, d, h) j = kb (hh - (a + 1)) (ph (kf, tf, sl, bf, n, d, h)) j from by rw [show hh - a = (hh - (a + 1)) + 1 by omega]; exact kb_t (show wbU (kf, tf, sl, bf, n, d, h) = some j from eq17)]
        exact hi
set_option maxHeartbeats 4000000 in
set_option maxRecDepth 100000 in
theorem tX2_keepsBed (l : Launch) (x : Cx) (q : Nat → Nat) (kf tf : Nat → Int32) (sl : Nat → Bool) (bf : Nat → Int32) (n : Nat) (d h : Int32) (hn : n ≤ 5) (j : Nat) (hj : j < 5) (hh : Nat) (h1 : 1 ≤ hh) (hh6 : hh ≤ 6) : MC l x 3 0 0 yX2_keepsBed cX2_keepsBed 4 (some .boolean) [.ref (q 0), .int (nI j), .int (nI hh)] (nb x q (kf, tf, sl, bf, n, d, h)) (eX (bI (kb (hh - 1) (kf, tf, sl, bf, n, d, h) j)) (anyN x q)) := by
  refine MC.of (by decide) (Nat.le_of_ble_eq_true rfl) eXB_fit (fun M => ?_)
  show J M l x cX2_keepsBed 4 yX2_keepsBed 3 (eX (bI (kb (hh - 1) (kf, tf, sl, bf, n, d, h) j)) (anyN x q)) 0 0 0 [(0, .ref (q 0)), (1, .int (nI j)), (2, .int (nI hh))] [] (nb x q (kf, tf, sl, bf, n, d, h))
  refine j_iconst (v := nI 1) dX2_keepsBed_0 (by decide) ?_
  refine j_istore_n (lv' := [(3, .int (nI 1)), (0, .ref (q 0)), (1, .int (nI j)), (2, .int (nI hh))]) dX2_keepsBed_1 rfl (by decide) rfl ?_
  refine j_lv [1, 2, 3, 0] (lv' := [(0, .ref (q 0)), (1, .int (nI j)), (2, .int (nI hh)), (3, .int (nI 1))]) rfl ?_
  exact lp_keepsBed l x q j hj hh hh6 (hh + 1) 1 (kf, tf, sl, bf, n, d, h) h1 hn (by omega)
set_option maxHeartbeats 4000000 in
set_option maxRecDepth 100000 in
theorem lp_hoursAwake {M : Mx} (l : Launch) (x : Cx) (q : Nat → Nat) (kf tf : Nat → Int32) (sl : Nat → Bool) (bf : Nat → Int32) (n : Nat) (d h : Int32) (kk : Int32) (r : Nat) {k0 n0 : Nat}  : ∀ (m : Nat) (p : Nat) (t : Int32), p ≤ 61 → awk kk h (61 - p) p t = r → 61 - p < m → J M l x cX2_hoursAwakeInBed 5 yX2_hoursAwakeInBed 2 (eI (nI r) (nb x q (kf, tf, sl, bf, n, d, h))) k0 n0 15 [(0, .ref (q 0)), (2, .int kk), (3, .int t), (4, .int (nI p))] [] (nb x q (kf, tf, sl, bf, n, d, h)) := by
  intro m; induction m with
  | zero => intro p t hc0 hc1 hm; exact absurd hm (Nat.not_lt_zero _)
  | succ m ih =>
    intro p t hc0 hc1 hm
    refine j_iload 3 dX2_hoursAwakeInBed_15 rfl ?_
    refine j_bipush (v := 60) dX2_hoursAwakeInBed_17 (by decide) ?_
    refine j_icmpN_gt (a := p) (b := 60) (by omega) (by omega) (tgt := 53) dX2_hoursAwakeInBed_19 (by decide) (fun h19 => ?_) (fun h19 => ?_)
    · skip
      refine j_bipush (v := 60) dX2_hoursAwakeInBed_53 (by decide) ?_
      exact j_iret _ dX2_hoursAwakeInBed_55 (List.Perm.refl _) ⟨by rw [← hc1, show 61 - p = 0 by omega]; rfl, rfl⟩
    · skip
      refine j_iload_n 2 dX2_hoursAwakeInBed_22 rfl rfl ?_
      refine j_iload_n 1 dX2_hoursAwakeInBed_23 rfl rfl ?_
      refine j_iload_n 2 dX2_hoursAwakeInBed_24 rfl rfl ?_
      refine j_aload_n 0 dX2_hoursAwakeInBed_25 rfl rfl ?_
      refine j_get (v := .int h) 0 dX2_hoursAwakeInBed_26 fX2_32 rfl rfl ?_
      refine j_iload 3 dX2_hoursAwakeInBed_29 rfl ?_
      refine j_iadd dX2_hoursAwakeInBed_31 ?_
      refine j_iconst (v := bI true) dX2_hoursAwakeInBed_32 (by decide) ?_
      refine j_cNi (As := [.int kk, .int t, .int (h + (nI p)), .int (bI true)]) (rest := [.int t]) (wr := nb x q (kf, tf, sl, bf, n, d, h)) (ws' := nb x q (kf, tf, sl, bf, n, d, h)) (tX5_tiredByHour l x kk t (h + (nI p)) true) kX5_tiredByHour nX2_72 dX2_hoursAwakeInBed_33 (by decide) rfl rfl (Nat.le_of_ble_eq_true rfl) (List.Perm.refl _) rfl ?_
      refine j_iadd dX2_hoursAwakeInBed_36 ?_
      refine j_istore_n (lv' := [(3, .int (t + (tbh kk t (h + (nI p)) true))), (0, .ref (q 0)), (2, .int kk), (4, .int (nI p))]) dX2_hoursAwakeInBed_37 rfl (by decide) rfl ?_
      refine j_iload_n 0 dX2_hoursAwakeInBed_38 rfl rfl ?_
      refine j_bipush (v := 10) dX2_hoursAwakeInBed_39 (by decide) ?_
      refine j_icmp_lt (tgt := 47) dX2_hoursAwakeInBed_41 (by decide) (fun h41 => ?_) (fun h41 => ?_)
      · skip
        refine j_iinc (v := nI (p + 1)) (lv' := [(4, .int (nI (p + 1))), (3, .int (t + (tbh kk t (h + (nI p)) true))), (0, .ref (q 0)), (2, .int kk)]) 3 dX2_hoursAwakeInBed_47 rfl (nI_1 p) (by decide) rfl ?_
        refine j_goto (tgt := 15) dX2_hoursAwakeInBed_50 (by decide) ?_
        refine j_lv [2, 3, 1, 0] (lv' := [(0, .ref (q 0)), (2, .int kk), (3, .int (t + (tbh kk t (h + (nI p)) true))), (4, .int (nI (p + 1)))]) rfl ?_
        exact ih (p + 1) _ (by omega) (by rw [← hc1, show 61 - p = (61 - (p + 1)) + 1 by omega, awk, if_pos h41]) (by omega)
      · skip
        refine j_iload 3 dX2_hoursAwakeInBed_44 rfl ?_
        exact j_iret _ dX2_hoursAwakeInBed_46 (List.Perm.refl _) ⟨by rw [← hc1, show 61 - p = (61 - (p + 1)) + 1 by omega, awk, if_neg h41], rfl⟩
set_option maxHeartbeats 4000000 in
set_option maxRecDepth 100000 in
theorem tX2_hoursAwakeInBed (l : Launch) (x : Cx) (q : Nat → Nat) (kf tf : Nat → Int32) (sl : Nat → Bool) (bf : Nat → Int32) (n : Nat) (d h : Int32) (hn : n ≤ 5) (j : Nat) (hj : j < n) : MC l x 2 0 0 yX2_hoursAwakeInBed cX2_hoursAwakeInBed 5 (some .int) [.ref (q 0), .int (nI j)] (nb x q (kf, tf, sl, bf, n, d, h)) (eI (nI (awk (kf j) h 60 1 (tf j))) (nb x q (kf, tf, sl, bf, n, d, h))) := by
  refine MC.of (by decide) (Nat.le_of_ble_eq_true rfl) eI_fit (fun M => ?_)
  show J M l x cX2_hoursAwakeInBed 5 yX2_hoursAwakeInBed 2 (eI (nI (awk (kf j) h 60 1 (tf j))) (nb x q (kf, tf, sl, bf, n, d, h))) 0 0 0 [(0, .ref (q 0)), (1, .int (nI j))] [] (nb x q (kf, tf, sl, bf, n, d, h))
  refine j_aload_n 0 dX2_hoursAwakeInBed_0 rfl rfl ?_
  refine j_iload_n 1 dX2_hoursAwakeInBed_1 rfl rfl ?_
  refine j_cVi (As := [.int (nI j)]) (rest := []) (wr := []) (ws' := nb x q (kf, tf, sl, bf, n, d, h)) (tX2_kindOf l x q kf tf sl bf n d h (by omega) j (by omega)) kX2_kindOf 0 rfl rfl rfl vX2_85 dX2_hoursAwakeInBed_2 (by decide) rfl rfl (Nat.le_of_ble_eq_true rfl) (pm_0 _) (List.append_nil _) ?_
  refine j_istore_n (lv' := [(2, .int (kf j)), (0, .ref (q 0)), (1, .int (nI j))]) dX2_hoursAwakeInBed_5 rfl (by decide) rfl ?_
  refine j_aload_n 1 dX2_hoursAwakeInBed_6 rfl rfl ?_
  refine j_iload_n 2 dX2_hoursAwakeInBed_7 rfl rfl ?_
  refine j_cVi (As := [.int (nI j)]) (rest := []) (wr := []) (ws' := nb x q (kf, tf, sl, bf, n, d, h)) (tX2_tiredOf l x q kf tf sl bf n d h (by omega) j (by omega)) kX2_tiredOf 0 rfl rfl rfl vX2_86 dX2_hoursAwakeInBed_8 (by decide) rfl rfl (Nat.le_of_ble_eq_true rfl) (pm_0 _) (List.append_nil _) ?_
  refine j_istore_n (lv' := [(3, .int (tf j)), (2, .int (kf j)), (0, .ref (q 0)), (1, .int (nI j))]) dX2_hoursAwakeInBed_11 rfl (by decide) rfl ?_
  refine j_iconst (v := nI 1) dX2_hoursAwakeInBed_12 (by decide) ?_
  refine j_istore (lv' := [(4, .int (nI 1)), (3, .int (tf j)), (2, .int (kf j)), (0, .ref (q 0)), (1, .int (nI j))]) dX2_hoursAwakeInBed_13 (by decide) rfl ?_
  refine j_lv [3, 2, 1, 0] (lv' := [(0, .ref (q 0)), (2, .int (kf j)), (3, .int (tf j)), (4, .int (nI 1))]) rfl ?_
  exact lp_hoursAwake l x q kf tf sl bf n d h (kf j) _ 61 1 (tf j) (by omega) rfl (by omega)
set_option maxHeartbeats 4000000 in
set_option maxRecDepth 100000 in
theorem tX2_hoursTogether (l : Launch) (x : Cx) (q : Nat → Nat) (kf tf : Nat → Int32) (sl : Nat → Bool) (bf : Nat → Int32) (n : Nat) (d h : Int32) (hn : n ≤ 5) (a b : Nat) (ha : a < n) (hb : b < n) : MC l x 3 0 0 yX2_hoursTogether cX2_hoursTogether 3 (some .int) [.ref (q 0), .int (nI a), .int (nI b)] (nb x q (kf, tf, sl, bf, n, d, h)) (eI (nI (tog kf tf h a b)) (nb x q (kf, tf, sl, bf, n, d, h))) := by
  refine MC.of (by decide) (Nat.le_of_ble_eq_true rfl) eI_fit (fun M => ?_)
  show J M l x cX2_hoursTogether 3 yX2_hoursTogether 3 (eI (nI (tog kf tf h a b)) (nb x q (kf, tf, sl, bf, n, d, h))) 0 0 0 [(0, .ref (q 0)), (1, .int (nI a)), (2, .int (nI b))] [] (nb x q (kf, tf, sl, bf, n, d, h))
  refine j_aload_n 0 dX2_hoursTogether_0 rfl rfl ?_
  refine j_iload_n 1 dX2_hoursTogether_1 rfl rfl ?_
  refine j_cVi (As := [.int (nI a)]) (rest := []) (wr := []) (ws' := nb x q (kf, tf, sl, bf, n, d, h)) (tX2_hoursAwakeInBed l x q kf tf sl bf n d h (by omega) a (by omega)) kX2_hoursAwakeInBed 0 rfl rfl rfl vX2_82 dX2_hoursTogether_2 (by decide) rfl rfl (Nat.le_of_ble_eq_true rfl) (pm_0 _) (List.append_nil _) ?_
  refine j_aload_n 0 dX2_hoursTogether_5 rfl rfl ?_
  refine j_iload_n 2 dX2_hoursTogether_6 rfl rfl ?_
  refine j_cVi (As := [.int (nI b)]) (rest := [.int (nI (awk (kf a) h 60 1 (tf a)))]) (wr := []) (ws' := nb x q (kf, tf, sl, bf, n, d, h)) (tX2_hoursAwakeInBed l x q kf tf sl bf n d h (by omega) b (by omega)) kX2_hoursAwakeInBed 0 rfl rfl rfl vX2_82 dX2_hoursTogether_7 (by decide) rfl rfl (Nat.le_of_ble_eq_true rfl) (pm_0 _) (List.append_nil _) ?_
  refine j_mmin dX2_hoursTogether_10 mX2_40 (by decide) (Nat.le_of_ble_eq_true rfl) ?_
  refine j_topi (b := nI (tog kf tf h a b)) (mmin_nI (by have := awk_le (kf a) h 60 1 (tf a) (by omega); omega) (by have := awk_le (kf b) h 60 1 (tf b) (by omega); omega)) ?_
  exact j_iret _ dX2_hoursTogether_13 (List.Perm.refl _) ⟨by rfl, by rfl⟩
set_option maxHeartbeats 4000000 in
set_option maxRecDepth 100000 in
theorem lp_pairI {M : Mx} (l : Launch) (x : Cx) (q : Nat → Nat) (kf tf : Nat → Int32) (sl : Nat → Bool) (bf : Nat → Int32) (n : Nat) (d h : Int32) (hn : n ≤ 5) (a : Nat) (ha : a < n) (r1 r2 : Int32) {k0 n0 : Nat} (hk : J M l x cX2_mostWakefulPair 6 yX2_mostWakefulPair 4 (eI ((prU (kf, tf, sl, bf, n, d, h)).1) (nb x q (kf, tf, sl, bf, n, d, h))) k0 n0 81 [(0, .ref (q 0)), (1, .int r1), (2, .int r2), (3, .int (nI a))] [] (nb x q (kf, tf, sl, bf, n, d, h))) : ∀ (m : Nat) (b : Nat) (s1 s2 : Int32), (a < b ∧ b ≤ n) → itr (prS kf tf sl h a) (n - b) b (s1, s2) = (r1, r2) → (-1 : Int32) ≤ s2 → n - b < m → J M l x cX2_mostWakefulPair 6 yX2_mostWakefulPair 4 (eI ((prU (kf, tf, sl, bf, n, d, h)).1) (nb x q (kf, tf, sl, bf, n, d, h))) k0 n0 19 [(0, .ref (q 0)), (1, .int s1), (2, .int s2), (3, .int (nI a)), (4, .int (nI b))] [] (nb x q (kf, tf, sl, bf, n, d, h)) := by
  intro m; induction m with
  | zero => intro b s1 s2 hc0 hc1 hc2 hm; exact absurd hm (Nat.not_lt_zero _)
  | succ m ih =>
    intro b s1 s2 hc0 hc1 hc2 hm
    refine j_iload 4 dX2_mostWakefulPair_19 rfl ?_
    refine j_aload_n 0 dX2_mostWakefulPair_21 rfl rfl ?_
    refine j_get (v := .int (nI n)) 0 dX2_mostWakefulPair_22 fX2_25 rfl rfl ?_
    refine j_icmpN_ge (a := b) (b := n) (by omega) (by omega) (tgt := 81) dX2_mostWakefulPair_25 (by decide) (fun h25 => ?_) (fun h25 => ?_)
    · skip
      refine j_lv [0, 1, 2, 3] (lv' := [(0, .ref (q 0)), (1, .int s1), (2, .int s2), (3, .int (nI a))]) rfl ?_
      rw [itr_end (n := n) (b := b) (by omega)] at hc1
      cases hc1
      exact hk
    · skip
      refine j_aload_n 0 dX2_mostWakefulPair_28 rfl rfl ?_
      refine j_iload_n 3 dX2_mostWakefulPair_29 rfl rfl ?_
      refine j_cVi (As := [.int (nI a)]) (rest := []) (wr := []) (ws' := nb x q (kf, tf, sl, bf, n, d, h)) (tX2_mayLieIn l x q kf tf sl bf n d h (by omega) a (by omega)) kX2_mayLieIn 0 rfl rfl rfl vX2_59 dX2_mostWakefulPair_30 (by decide) rfl rfl (Nat.le_of_ble_eq_true rfl) (pm_0 _) (List.append_nil _) ?_
      refine j_ifb_eq (b := may kf sl a) (tgt := 55) dX2_mostWakefulPair_33 (by decide) (fun h33 => ?_) (fun h33 => ?_)
      · skip
        refine j_iconst (v := (-1)) dX2_mostWakefulPair_55 (by decide) ?_
        refine j_istore (lv' := [(5, .int (-1)), (0, .ref (q 0)), (1, .int s1), (2, .int s2), (3, .int (nI a)), (4, .int (nI b))]) dX2_mostWakefulPair_56 (by decide) rfl ?_
        refine j_iload 0 dX2_mostWakefulPair_58 rfl ?_
        refine j_iload_n 3 dX2_mostWakefulPair_60 rfl rfl ?_
        refine j_icmp_le (tgt := 75) dX2_mostWakefulPair_61 (by decide) (fun h61 => ?_) (fun h61 => absurd hc2 h61)
        refine j_iinc (v := nI (b + 1)) (lv' := [(4, .int (nI (b + 1))), (5, .int (-1)), (0, .ref (q 0)), (1, .int s1), (2, .int s2), (3, .int (nI a))]) 5 dX2_mostWakefulPair_75 rfl (nI_1 b) (by decide) rfl ?_
        refine j_goto (tgt := 19) dX2_mostWakefulPair_78 (by decide) ?_
        refine j_lv [2, 3, 4, 5, 0] (lv' := [(0, .ref (q 0)), (1, .int s1), (2, .int s2), (3, .int (nI a)), (4, .int (nI (b + 1)))]) rfl ?_
        refine ih (b + 1) _ _ (by omega) ?_ (by first | exact hc2 | exact m1_tog kf tf h a b) (by omega)
        rw [← hc1, itr_go (n := n) (b := b) (by omega)]; exact congrArg (itr (prS kf tf sl h a) (n - (b + 1)) (b + 1)) (by first | (simp [prS, h33]; done) | (simp [prS, h42]; done) | (rw [prS, if_neg (fun e => e.2.2 h61)]; done) | (rw [prS, if_pos ⟨h33, h42, h61⟩]; done))
      · skip
        refine j_aload_n 0 dX2_mostWakefulPair_36 rfl rfl ?_
        refine j_iload 4 dX2_mostWakefulPair_37 rfl ?_
        refine j_cVi (As := [.int (nI b)]) (rest := []) (wr := []) (ws' := nb x q (kf, tf, sl, bf, n, d, h)) (tX2_mayLieIn l x q kf tf sl bf n d h (by omega) b (by omega)) kX2_mayLieIn 0 rfl rfl rfl vX2_59 dX2_mostWakefulPair_39 (by decide) rfl rfl (Nat.le_of_ble_eq_true rfl) (pm_0 _) (List.append_nil _) ?_
        refine j_ifb_eq (b := may kf sl b) (tgt := 55) dX2_mostWakefulPair_42 (by decide) (fun h42 => ?_) (fun h42 => ?_)
        · skip
          refine j_iconst (v := (-1)) dX2_mostWakefulPair_55 (by decide) ?_
          refine j_istore (lv' := [(5, .int (-1)), (0, .ref (q 0)), (1, .int s1), (2, .int s2), (3, .int (nI a)), (4, .int (nI b))]) dX2_mostWakefulPair_56 (by decide) rfl ?_
          refine j_iload 0 dX2_mostWakefulPair_58 rfl ?_
          refine j_iload_n 3 dX2_mostWakefulPair_60 rfl rfl ?_
          refine j_icmp_le (tgt := 75) dX2_mostWakefulPair_61 (by decide) (fun h61 => ?_) (fun h61 => absurd hc2 h61)
          refine j_iinc (v := nI (b + 1)) (lv' := [(4, .int (nI (b + 1))), (5, .int (-1)), (0, .ref (q 0)), (1, .int s1), (2, .int s2), (3, .int (nI a))]) 5 dX2_mostWakefulPair_75 rfl (nI_1 b) (by decide) rfl ?_
          refine j_goto (tgt := 19) dX2_mostWakefulPair_78 (by decide) ?_
          refine j_lv [2, 3, 4, 5, 0] (lv' := [(0, .ref (q 0)), (1, .int s1), (2, .int s2), (3, .int (nI a)), (4, .int (nI (b + 1)))]) rfl ?_
          refine ih (b + 1) _ _ (by omega) ?_ (by first | exact hc2 | exact m1_tog kf tf h a b) (by omega)
          rw [← hc1, itr_go (n := n) (b := b) (by omega)]; exact congrArg (itr (prS kf tf sl h a) (n - (b + 1)) (b + 1)) (by first | (simp [prS, h33]; done) | (simp [prS, h42]; done) | (rw [prS, if_neg (fun e => e.2.2 h61)]; done) | (rw [prS, if_pos ⟨h33, h42, h61⟩]; done))
        · skip
          refine j_aload_n 0 dX2_mostWakefulPair_45 rfl rfl ?_
          refine j_iload_n 3 dX2_mostWakefulPair_46 rfl rfl ?_
          refine j_iload 4 dX2_mostWakefulPair_47 rfl ?_
          refine j_cVi (As := [.int (nI a), .int (nI b)]) (rest := []) (wr := []) (ws' := nb x q (kf, tf, sl, bf, n, d, h)) (tX2_hoursTogether l x q kf tf sl bf n d h (by omega) a b (by omega) (by omega)) kX2_hoursTogether 0 rfl rfl rfl vX2_79 dX2_mostWakefulPair_49 (by decide) rfl rfl (Nat.le_of_ble_eq_true rfl) (pm_0 _) (List.append_nil _) ?_
          refine j_goto (tgt := 56) dX2_mostWakefulPair_52 (by decide) ?_
          refine j_istore (lv' := [(5, .int (nI (tog kf tf h a b))), (0, .ref (q 0)), (1, .int s1), (2, .int s2), (3, .int (nI a)), (4, .int (nI b))]) dX2_mostWakefulPair_56 (by decide) rfl ?_
          refine j_iload 0 dX2_mostWakefulPair_58 rfl ?_
          refine j_iload_n 3 dX2_mostWakefulPair_60 rfl rfl ?_
          refine j_icmp_le (tgt := 75) dX2_mostWakefulPair_61 (by decide) (fun h61 => ?_) (fun h61 => ?_)
          · skip
            refine j_iinc (v := nI (b + 1)) (lv' := [(4, .int (nI (b + 1))), (5, .int (nI (tog kf tf h a b))), (0, .ref (q 0)), (1, .int s1), (2, .int s2), (3, .int (nI a))]) 5 dX2_mostWakefulPair_75 rfl (nI_1 b) (by decide) rfl ?_
            refine j_goto (tgt := 19) dX2_mostWakefulPair_78 (by decide) ?_
            refine j_lv [2, 3, 4, 5, 0] (lv' := [(0, .ref (q 0)), (1, .int s1), (2, .int s2), (3, .int (nI a)), (4, .int (nI (b + 1)))]) rfl ?_
            refine ih (b + 1) _ _ (by omega) ?_ (by first | exact hc2 | exact m1_tog kf tf h a b) (by omega)
            rw [← hc1, itr_go (n := n) (b := b) (by omega)]; exact congrArg (itr (prS kf tf sl h a) (n - (b + 1)) (b + 1)) (by first | (simp [prS, h33]; done) | (simp [prS, h42]; done) | (rw [prS, if_neg (fun e => e.2.2 h61)]; done) | (rw [prS, if_pos ⟨h33, h42, h61⟩]; done))
          · skip
            refine j_bipush (v := 10) dX2_mostWakefulPair_64 (by decide) ?_
            refine j_iload_n 4 dX2_mostWakefulPair_66 rfl rfl ?_
            refine j_imul dX2_mostWakefulPair_67 ?_
            refine j_topi (b := nI (10 * a)) (pk_mul 10 a) ?_
            refine j_iload 5 dX2_mostWakefulPair_68 rfl ?_
            refine j_iadd dX2_mostWakefulPair_70 ?_
            refine j_topi (b := nI (10 * a + b)) (nI_add _ _) ?_
            refine j_istore_n (lv' := [(1, .int (nI (10 * a + b))), (5, .int (nI (tog kf tf h a b))), (0, .ref (q 0)), (2, .int s2), (3, .int (nI a)), (4, .int (nI b))]) dX2_mostWakefulPair_71 rfl (by decide) rfl ?_
            refine j_iload 1 dX2_mostWakefulPair_72 rfl ?_
            refine j_istore_n (lv' := [(2, .int (nI (tog kf tf h a b))), (1, .int (nI (10 * a + b))), (5, .int (nI (tog kf tf h a b))), (0, .ref (q 0)), (3, .int (nI a)), (4, .int (nI b))]) dX2_mostWakefulPair_74 rfl (by decide) rfl ?_
            refine j_iinc (v := nI (b + 1)) (lv' := [(4, .int (nI (b + 1))), (2, .int (nI (tog kf tf h a b))), (1, .int (nI (10 * a + b))), (5, .int (nI (tog kf tf h a b))), (0, .ref (q 0)), (3, .int (nI a))]) 5 dX2_mostWakefulPair_75 rfl (nI_1 b) (by decide) rfl ?_
            refine j_goto (tgt := 19) dX2_mostWakefulPair_78 (by decide) ?_
            refine j_lv [4, 2, 1, 5, 0] (lv' := [(0, .ref (q 0)), (1, .int (nI (10 * a + b))), (2, .int (nI (tog kf tf h a b))), (3, .int (nI a)), (4, .int (nI (b + 1)))]) rfl ?_
            refine ih (b + 1) _ _ (by omega) ?_ (by first | exact hc2 | exact m1_tog kf tf h a b) (by omega)
            rw [← hc1, itr_go (n := n) (b := b) (by omega)]; exact congrArg (itr (prS kf tf sl h a) (n - (b + 1)) (b + 1)) (by first | (simp [prS, h33]; done) | (simp [prS, h42]; done) | (rw [prS, if_neg (fun e => e.2.2 h61)]; done) | (rw [prS, if_pos ⟨h33, h42, h61⟩]; done))
set_option maxHeartbeats 4000000 in
set_option maxRecDepth 100000 in
theorem lp_pairO {M : Mx} (l : Launch) (x : Cx) (q : Nat → Nat) (kf tf : Nat → Int32) (sl : Nat → Bool) (bf : Nat → Int32) (n : Nat) (d h : Int32) (hn : n ≤ 5) {k0 n0 : Nat}  : ∀ (m : Nat) (a : Nat) (s1 s2 : Int32), a ≤ n → (itr (prO kf tf sl n h) (n - a) a (s1, s2)).1 = (prU (kf, tf, sl, bf, n, d, h)).1 → (-1 : Int32) ≤ s2 → n - a < m → J M l x cX2_mostWakefulPair 6 yX2_mostWakefulPair 4 (eI ((prU (kf, tf, sl, bf, n, d, h)).1) (nb x q (kf, tf, sl, bf, n, d, h))) k0 n0 6 [(0, .ref (q 0)), (1, .int s1), (2, .int s2), (3, .int (nI a))] [] (nb x q (kf, tf, sl, bf, n, d, h)) := by
  intro m; induction m with
  | zero => intro a s1 s2 hc0 hc1 hc2 hm; exact absurd hm (Nat.not_lt_zero _)
  | succ m ih =>
    intro a s1 s2 hc0 hc1 hc2 hm
    refine j_iload_n 3 dX2_mostWakefulPair_6 rfl rfl ?_
    refine j_aload_n 0 dX2_mostWakefulPair_7 rfl rfl ?_
    refine j_get (v := .int (nI n)) 0 dX2_mostWakefulPair_8 fX2_25 rfl rfl ?_
    refine j_icmpN_ge (a := a) (b := n) (by omega) (by omega) (tgt := 87) dX2_mostWakefulPair_11 (by decide) (fun h11 => ?_) (fun h11 => ?_)
    · skip
      refine j_iload_n 1 dX2_mostWakefulPair_87 rfl rfl ?_
      exact j_iret _ dX2_mostWakefulPair_88 (List.Perm.refl _) ⟨by rw [← hc1, itr_end (n := n) (b := a) (by omega)], rfl⟩
    · skip
      refine j_iload_n 3 dX2_mostWakefulPair_14 rfl rfl ?_
      refine j_iconst (v := 1) dX2_mostWakefulPair_15 (by decide) ?_
      refine j_iadd dX2_mostWakefulPair_16 ?_
      refine j_topi (b := nI (a + 1)) (nI_1 a) ?_
      refine j_istore (lv' := [(4, .int (nI (a + 1))), (0, .ref (q 0)), (1, .int s1), (2, .int s2), (3, .int (nI a))]) dX2_mostWakefulPair_17 (by decide) rfl ?_
      refine j_lv [1, 2, 3, 4, 0] (lv' := [(0, .ref (q 0)), (1, .int s1), (2, .int s2), (3, .int (nI a)), (4, .int (nI (a + 1)))]) rfl ?_
      refine lp_pairI l x q kf tf sl bf n d h hn a (by omega) (prO kf tf sl n h a (s1, s2)).1 (prO kf tf sl n h a (s1, s2)).2 ?_ (n + 1) (a + 1) s1 s2 ⟨by omega, by omega⟩ rfl hc2 (by omega)
      refine j_iinc (v := nI (a + 1)) (lv' := [(3, .int (nI (a + 1))), (0, .ref (q 0)), (1, .int ((prO kf tf sl n h a (s1, s2)).1)), (2, .int ((prO kf tf sl n h a (s1, s2)).2))]) 3 dX2_mostWakefulPair_81 rfl (nI_1 a) (by decide) rfl ?_
      refine j_goto (tgt := 6) dX2_mostWakefulPair_84 (by decide) ?_
      refine j_lv [1, 2, 3, 0] (lv' := [(0, .ref (q 0)), (1, .int ((prO kf tf sl n h a (s1, s2)).1)), (2, .int ((prO kf tf sl n h a (s1, s2)).2)), (3, .int (nI (a + 1)))]) rfl ?_
      exact ih (a + 1) _ _ (by omega) (by rw [← hc1, itr_go (n := n) (b := a) (by omega)]) (prO_ge (s := (s1, s2)) hc2) (by omega)
set_option maxHeartbeats 4000000 in
set_option maxRecDepth 100000 in
theorem tX2_mostWakefulPair (l : Launch) (x : Cx) (q : Nat → Nat) (kf tf : Nat → Int32) (sl : Nat → Bool) (bf : Nat → Int32) (n : Nat) (d h : Int32) (hn : n ≤ 5) : MC l x 4 0 0 yX2_mostWakefulPair cX2_mostWakefulPair 6 (some .int) [.ref (q 0)] (nb x q (kf, tf, sl, bf, n, d, h)) (eI ((prU (kf, tf, sl, bf, n, d, h)).1) (nb x q (kf, tf, sl, bf, n, d, h))) := by
  refine MC.of (by decide) (Nat.le_of_ble_eq_true rfl) eI_fit (fun M => ?_)
  show J M l x cX2_mostWakefulPair 6 yX2_mostWakefulPair 4 (eI ((prU (kf, tf, sl, bf, n, d, h)).1) (nb x q (kf, tf, sl, bf, n, d, h))) 0 0 0 [(0, .ref (q 0))] [] (nb x q (kf, tf, sl, bf, n, d, h))
  refine j_iconst (v := (-1)) dX2_mostWakefulPair_0 (by decide) ?_
  refine j_istore_n (lv' := [(1, .int (-1)), (0, .ref (q 0))]) dX2_mostWakefulPair_1 rfl (by decide) rfl ?_
  refine j_iconst (v := (-1)) dX2_mostWakefulPair_2 (by decide) ?_
  refine j_istore_n (lv' := [(2, .int (-1)), (1, .int (-1)), (0, .ref (q 0))]) dX2_mostWakefulPair_3 rfl (by decide) rfl ?_
  refine j_iconst (v := nI 0) dX2_mostWakefulPair_4 (by decide) ?_
  refine j_istore_n (lv' := [(3, .int (nI 0)), (2, .int (-1)), (1, .int (-1)), (0, .ref (q 0))]) dX2_mostWakefulPair_5 rfl (by decide) rfl ?_
  refine j_lv [3, 2, 1, 0] (lv' := [(0, .ref (q 0)), (1, .int (-1)), (2, .int (-1)), (3, .int (nI 0))]) rfl ?_
  exact lp_pairO l x q kf tf sl bf n d h hn (n + 1) 0 (-1) (-1) (by omega) rfl (by decide) (by omega)
