set_option maxHeartbeats 4000000 in
set_option maxRecDepth 100000 in
theorem tX2_lodgers (l : Launch) (x : Cx) (q : Nat → Nat) (kf tf : Nat → Int32) (sl : Nat → Bool) (bf : Nat → Int32) (n : Nat) (d h : Int32) : MC l x 0 0 0 yX2_lodgers cX2_lodgers 1 (some .int) [.ref (q 0)] (nb x q (kf, tf, sl, bf, n, d, h)) (eI (nI n) (nb x q (kf, tf, sl, bf, n, d, h))) := by
  refine MC.of (by decide) (Nat.le_of_ble_eq_true rfl) eI_fit (fun M => ?_)
  show J M l x cX2_lodgers 1 yX2_lodgers 0 (eI (nI n) (nb x q (kf, tf, sl, bf, n, d, h))) 0 0 0 [(0, .ref (q 0))] [] (nb x q (kf, tf, sl, bf, n, d, h))
  refine j_aload_n 0 dX2_lodgers_0 rfl rfl ?_
  refine j_get (v := .int (nI n)) 0 dX2_lodgers_1 fX2_25 rfl rfl ?_
  exact j_iret _ dX2_lodgers_4 (List.Perm.refl _) ⟨by rfl, by rfl⟩
set_option maxHeartbeats 4000000 in
set_option maxRecDepth 100000 in
theorem tX2_drowse (l : Launch) (x : Cx) (q : Nat → Nat) (kf tf : Nat → Int32) (sl : Nat → Bool) (bf : Nat → Int32) (n : Nat) (d h : Int32) : MC l x 0 0 0 yX2_drowse cX2_drowse 1 (some .int) [.ref (q 0)] (nb x q (kf, tf, sl, bf, n, d, h)) (eI (d) (nb x q (kf, tf, sl, bf, n, d, h))) := by
  refine MC.of (by decide) (Nat.le_of_ble_eq_true rfl) eI_fit (fun M => ?_)
  show J M l x cX2_drowse 1 yX2_drowse 0 (eI (d) (nb x q (kf, tf, sl, bf, n, d, h))) 0 0 0 [(0, .ref (q 0))] [] (nb x q (kf, tf, sl, bf, n, d, h))
  refine j_aload_n 0 dX2_drowse_0 rfl rfl ?_
  refine j_get (v := .int d) 0 dX2_drowse_1 fX2_29 rfl rfl ?_
  exact j_iret _ dX2_drowse_4 (List.Perm.refl _) ⟨by rfl, by rfl⟩
set_option maxHeartbeats 4000000 in
set_option maxRecDepth 100000 in
theorem tX2_hoursPassed (l : Launch) (x : Cx) (q : Nat → Nat) (kf tf : Nat → Int32) (sl : Nat → Bool) (bf : Nat → Int32) (n : Nat) (d h : Int32) : MC l x 0 0 0 yX2_hoursPassed cX2_hoursPassed 1 (some .int) [.ref (q 0)] (nb x q (kf, tf, sl, bf, n, d, h)) (eI (h) (nb x q (kf, tf, sl, bf, n, d, h))) := by
  refine MC.of (by decide) (Nat.le_of_ble_eq_true rfl) eI_fit (fun M => ?_)
  show J M l x cX2_hoursPassed 1 yX2_hoursPassed 0 (eI (h) (nb x q (kf, tf, sl, bf, n, d, h))) 0 0 0 [(0, .ref (q 0))] [] (nb x q (kf, tf, sl, bf, n, d, h))
  refine j_aload_n 0 dX2_hoursPassed_0 rfl rfl ?_
  refine j_get (v := .int h) 0 dX2_hoursPassed_1 fX2_32 rfl rfl ?_
  exact j_iret _ dX2_hoursPassed_4 (List.Perm.refl _) ⟨by rfl, by rfl⟩
set_option maxHeartbeats 4000000 in
set_option maxRecDepth 100000 in
theorem tX2_knows (l : Launch) (x : Cx) (q : Nat → Nat) (kf tf : Nat → Int32) (sl : Nat → Bool) (bf : Nat → Int32) (n : Nat) (d h : Int32) (a : Int32) : MC l x 0 0 0 yX2_knows cX2_knows 2 (some .boolean) [.ref (q 0), .int a] (nb x q (kf, tf, sl, bf, n, d, h)) (eI (bI (kn n a)) (nb x q (kf, tf, sl, bf, n, d, h))) := by
  refine MC.of (by decide) (Nat.le_of_ble_eq_true rfl) eB_fit (fun M => ?_)
  show J M l x cX2_knows 2 yX2_knows 0 (eI (bI (kn n a)) (nb x q (kf, tf, sl, bf, n, d, h))) 0 0 0 [(0, .ref (q 0)), (1, .int a)] [] (nb x q (kf, tf, sl, bf, n, d, h))
  refine j_iload_n 1 dX2_knows_0 rfl rfl ?_
  refine j_if_lt (tgt := 16) dX2_knows_1 (by decide) (fun h1 => ?_) (fun h1 => ?_)
  · skip
    refine j_iconst (v := 0) dX2_knows_16 (by decide) ?_
    exact j_iret _ dX2_knows_17 (List.Perm.refl _) ⟨by first | (simp [kn, bI, le_of_nlt h1, lt_of_nle h9]; done) | (simp [kn, bI, nlt_of_le h9]; done) | (simp [kn, bI, nle_of_lt h1]; done), by rfl⟩
  · skip
    refine j_iload_n 1 dX2_knows_4 rfl rfl ?_
    refine j_aload_n 0 dX2_knows_5 rfl rfl ?_
    refine j_get (v := .int (nI n)) 0 dX2_knows_6 fX2_25 rfl rfl ?_
    refine j_icmp_ge (tgt := 16) dX2_knows_9 (by decide) (fun h9 => ?_) (fun h9 => ?_)
    · skip
      refine j_iconst (v := 0) dX2_knows_16 (by decide) ?_
      exact j_iret _ dX2_knows_17 (List.Perm.refl _) ⟨by first | (simp [kn, bI, le_of_nlt h1, lt_of_nle h9]; done) | (simp [kn, bI, nlt_of_le h9]; done) | (simp [kn, bI, nle_of_lt h1]; done), by rfl⟩
    · skip
      refine j_iconst (v := 1) dX2_knows_12 (by decide) ?_
      refine j_goto (tgt := 17) dX2_knows_13 (by decide) ?_
      exact j_iret _ dX2_knows_17 (List.Perm.refl _) ⟨by first | (simp [kn, bI, le_of_nlt h1, lt_of_nle h9]; done) | (simp [kn, bI, nlt_of_le h9]; done) | (simp [kn, bI, nle_of_lt h1]; done), by rfl⟩
set_option maxHeartbeats 4000000 in
set_option maxRecDepth 100000 in
theorem tX2_kindOf (l : Launch) (x : Cx) (q : Nat → Nat) (kf tf : Nat → Int32) (sl : Nat → Bool) (bf : Nat → Int32) (n : Nat) (d h : Int32) (hn : n ≤ 5) (j : Nat) (hj : j < n) : MC l x 1 0 0 yX2_kindOf cX2_kindOf 2 (some .int) [.ref (q 0), .int (nI j)] (nb x q (kf, tf, sl, bf, n, d, h)) (eI (kf j) (nb x q (kf, tf, sl, bf, n, d, h))) := by
  refine MC.of (by decide) (Nat.le_of_ble_eq_true rfl) eI_fit (fun M => ?_)
  show J M l x cX2_kindOf 2 yX2_kindOf 1 (eI (kf j) (nb x q (kf, tf, sl, bf, n, d, h))) 0 0 0 [(0, .ref (q 0)), (1, .int (nI j))] [] (nb x q (kf, tf, sl, bf, n, d, h))
  refine j_aload_n 0 dX2_kindOf_0 rfl rfl ?_
  refine j_iload_n 1 dX2_kindOf_1 rfl rfl ?_
  refine j_cVi (As := [.int (nI j)]) (rest := []) (wr := []) (ws' := nb x q (kf, tf, sl, bf, n, d, h)) (tX2_knows l x q kf tf sl bf n d h (nI j)) kX2_knows 0 rfl rfl rfl vX2_55 dX2_kindOf_2 (by decide) rfl rfl (Nat.le_of_ble_eq_true rfl) (pm_0 _) (List.append_nil _) ?_
  refine j_ifb_eq (b := kn n (nI j)) (tgt := 17) dX2_kindOf_5 (by decide) (fun h5 => absurd h5 (by rw [kn_t (by omega) (by omega)]; decide)) (fun h5 => ?_)
  refine j_aload_n 0 dX2_kindOf_8 rfl rfl ?_
  refine j_get (v := .ref (q 1)) 0 dX2_kindOf_9 fX2_9 rfl rfl ?_
  refine j_iload_n 1 dX2_kindOf_12 rfl rfl ?_
  refine j_ialdN (i := j) (f := kf) 1 dX2_kindOf_13 rfl (by omega) (by decide) ?_
  refine j_goto (tgt := 18) dX2_kindOf_14 (by decide) ?_
  exact j_iret _ dX2_kindOf_18 (List.Perm.refl _) ⟨by rfl, by rfl⟩
set_option maxHeartbeats 4000000 in
set_option maxRecDepth 100000 in
theorem tX2_tiredOf (l : Launch) (x : Cx) (q : Nat → Nat) (kf tf : Nat → Int32) (sl : Nat → Bool) (bf : Nat → Int32) (n : Nat) (d h : Int32) (hn : n ≤ 5) (j : Nat) (hj : j < n) : MC l x 1 0 0 yX2_tiredOf cX2_tiredOf 2 (some .int) [.ref (q 0), .int (nI j)] (nb x q (kf, tf, sl, bf, n, d, h)) (eI (tf j) (nb x q (kf, tf, sl, bf, n, d, h))) := by
  refine MC.of (by decide) (Nat.le_of_ble_eq_true rfl) eI_fit (fun M => ?_)
  show J M l x cX2_tiredOf 2 yX2_tiredOf 1 (eI (tf j) (nb x q (kf, tf, sl, bf, n, d, h))) 0 0 0 [(0, .ref (q 0)), (1, .int (nI j))] [] (nb x q (kf, tf, sl, bf, n, d, h))
  refine j_aload_n 0 dX2_tiredOf_0 rfl rfl ?_
  refine j_iload_n 1 dX2_tiredOf_1 rfl rfl ?_
  refine j_cVi (As := [.int (nI j)]) (rest := []) (wr := []) (ws' := nb x q (kf, tf, sl, bf, n, d, h)) (tX2_knows l x q kf tf sl bf n d h (nI j)) kX2_knows 0 rfl rfl rfl vX2_55 dX2_tiredOf_2 (by decide) rfl rfl (Nat.le_of_ble_eq_true rfl) (pm_0 _) (List.append_nil _) ?_
  refine j_ifb_eq (b := kn n (nI j)) (tgt := 17) dX2_tiredOf_5 (by decide) (fun h5 => absurd h5 (by rw [kn_t (by omega) (by omega)]; decide)) (fun h5 => ?_)
  refine j_aload_n 0 dX2_tiredOf_8 rfl rfl ?_
  refine j_get (v := .ref (q 2)) 0 dX2_tiredOf_9 fX2_15 rfl rfl ?_
  refine j_iload_n 1 dX2_tiredOf_12 rfl rfl ?_
  refine j_ialdN (i := j) (f := tf) 2 dX2_tiredOf_13 rfl (by omega) (by decide) ?_
  refine j_goto (tgt := 18) dX2_tiredOf_14 (by decide) ?_
  exact j_iret _ dX2_tiredOf_18 (List.Perm.refl _) ⟨by rfl, by rfl⟩
set_option maxHeartbeats 4000000 in
set_option maxRecDepth 100000 in
theorem tX2_bedHoursOf (l : Launch) (x : Cx) (q : Nat → Nat) (kf tf : Nat → Int32) (sl : Nat → Bool) (bf : Nat → Int32) (n : Nat) (d h : Int32) (hn : n ≤ 5) (j : Nat) (hj : j < n) : MC l x 1 0 0 yX2_bedHoursOf cX2_bedHoursOf 2 (some .int) [.ref (q 0), .int (nI j)] (nb x q (kf, tf, sl, bf, n, d, h)) (eI (bf j) (nb x q (kf, tf, sl, bf, n, d, h))) := by
  refine MC.of (by decide) (Nat.le_of_ble_eq_true rfl) eI_fit (fun M => ?_)
  show J M l x cX2_bedHoursOf 2 yX2_bedHoursOf 1 (eI (bf j) (nb x q (kf, tf, sl, bf, n, d, h))) 0 0 0 [(0, .ref (q 0)), (1, .int (nI j))] [] (nb x q (kf, tf, sl, bf, n, d, h))
  refine j_aload_n 0 dX2_bedHoursOf_0 rfl rfl ?_
  refine j_iload_n 1 dX2_bedHoursOf_1 rfl rfl ?_
  refine j_cVi (As := [.int (nI j)]) (rest := []) (wr := []) (ws' := nb x q (kf, tf, sl, bf, n, d, h)) (tX2_knows l x q kf tf sl bf n d h (nI j)) kX2_knows 0 rfl rfl rfl vX2_55 dX2_bedHoursOf_2 (by decide) rfl rfl (Nat.le_of_ble_eq_true rfl) (pm_0 _) (List.append_nil _) ?_
  refine j_ifb_eq (b := kn n (nI j)) (tgt := 17) dX2_bedHoursOf_5 (by decide) (fun h5 => absurd h5 (by rw [kn_t (by omega) (by omega)]; decide)) (fun h5 => ?_)
  refine j_aload_n 0 dX2_bedHoursOf_8 rfl rfl ?_
  refine j_get (v := .ref (q 4)) 0 dX2_bedHoursOf_9 fX2_22 rfl rfl ?_
  refine j_iload_n 1 dX2_bedHoursOf_12 rfl rfl ?_
  refine j_ialdN (i := j) (f := bf) 4 dX2_bedHoursOf_13 rfl (by omega) (by decide) ?_
  refine j_goto (tgt := 18) dX2_bedHoursOf_14 (by decide) ?_
  exact j_iret _ dX2_bedHoursOf_18 (List.Perm.refl _) ⟨by rfl, by rfl⟩
set_option maxHeartbeats 4000000 in
set_option maxRecDepth 100000 in
theorem tX2_sleeps (l : Launch) (x : Cx) (q : Nat → Nat) (kf tf : Nat → Int32) (sl : Nat → Bool) (bf : Nat → Int32) (n : Nat) (d h : Int32) (hn : n ≤ 5) (j : Nat) (hj : j < n) : MC l x 1 0 0 yX2_sleeps cX2_sleeps 2 (some .boolean) [.ref (q 0), .int (nI j)] (nb x q (kf, tf, sl, bf, n, d, h)) (eI (bI (sl j)) (nb x q (kf, tf, sl, bf, n, d, h))) := by
  refine MC.of (by decide) (Nat.le_of_ble_eq_true rfl) eB_fit (fun M => ?_)
  show J M l x cX2_sleeps 2 yX2_sleeps 1 (eI (bI (sl j)) (nb x q (kf, tf, sl, bf, n, d, h))) 0 0 0 [(0, .ref (q 0)), (1, .int (nI j))] [] (nb x q (kf, tf, sl, bf, n, d, h))
  refine j_aload_n 0 dX2_sleeps_0 rfl rfl ?_
  refine j_iload_n 1 dX2_sleeps_1 rfl rfl ?_
  refine j_cVi (As := [.int (nI j)]) (rest := []) (wr := []) (ws' := nb x q (kf, tf, sl, bf, n, d, h)) (tX2_knows l x q kf tf sl bf n d h (nI j)) kX2_knows 0 rfl rfl rfl vX2_55 dX2_sleeps_2 (by decide) rfl rfl (Nat.le_of_ble_eq_true rfl) (pm_0 _) (List.append_nil _) ?_
  refine j_ifb_eq (b := kn n (nI j)) (tgt := 21) dX2_sleeps_5 (by decide) (fun h5 => absurd h5 (by rw [kn_t (by omega) (by omega)]; decide)) (fun h5 => ?_)
  refine j_aload_n 0 dX2_sleeps_8 rfl rfl ?_
  refine j_get (v := .ref (q 3)) 0 dX2_sleeps_9 fX2_18 rfl rfl ?_
  refine j_iload_n 1 dX2_sleeps_12 rfl rfl ?_
  refine j_zaldB (i := j) (f := sl) 3 dX2_sleeps_13 rfl (by omega) (by decide) ?_
  refine j_ifb_eq (b := sl j) (tgt := 21) dX2_sleeps_14 (by decide) (fun h14 => ?_) (fun h14 => ?_)
  · skip
    refine j_iconst (v := bI false) dX2_sleeps_21 (by decide) ?_
    exact j_iret _ dX2_sleeps_22 (List.Perm.refl _) ⟨by rw [h14], by rfl⟩
  · skip
    refine j_iconst (v := bI true) dX2_sleeps_17 (by decide) ?_
    refine j_goto (tgt := 22) dX2_sleeps_18 (by decide) ?_
    exact j_iret _ dX2_sleeps_22 (List.Perm.refl _) ⟨by rw [h14], by rfl⟩
set_option maxHeartbeats 4000000 in
set_option maxRecDepth 100000 in
theorem tX2_mayLieIn (l : Launch) (x : Cx) (q : Nat → Nat) (kf tf : Nat → Int32) (sl : Nat → Bool) (bf : Nat → Int32) (n : Nat) (d h : Int32) (hn : n ≤ 5) (j : Nat) (hj : j < n) : MC l x 0 0 0 yX2_mayLieIn cX2_mayLieIn 2 (some .boolean) [.ref (q 0), .int (nI j)] (nb x q (kf, tf, sl, bf, n, d, h)) (eI (bI (may kf sl j)) (nb x q (kf, tf, sl, bf, n, d, h))) := by
  refine MC.of (by decide) (Nat.le_of_ble_eq_true rfl) eB_fit (fun M => ?_)
  show J M l x cX2_mayLieIn 2 yX2_mayLieIn 0 (eI (bI (may kf sl j)) (nb x q (kf, tf, sl, bf, n, d, h))) 0 0 0 [(0, .ref (q 0)), (1, .int (nI j))] [] (nb x q (kf, tf, sl, bf, n, d, h))
  refine j_iload_n 1 dX2_mayLieIn_0 rfl rfl ?_
  refine j_if_lt (tgt := 35) dX2_mayLieIn_1 (by decide) (fun h1 => absurd h1 (nlt_of_le (nI_pos' (show j < 2 ^ 31 by omega)))) (fun h1 => ?_)
  refine j_iload_n 1 dX2_mayLieIn_4 rfl rfl ?_
  refine j_aload_n 0 dX2_mayLieIn_5 rfl rfl ?_
  refine j_get (v := .int (nI n)) 0 dX2_mayLieIn_6 fX2_25 rfl rfl ?_
  refine j_icmpN_ge (a := j) (b := n) (by omega) (by omega) (tgt := 35) dX2_mayLieIn_9 (by decide) (fun h9 => by omega) (fun h9 => ?_)
  refine j_aload_n 0 dX2_mayLieIn_12 rfl rfl ?_
  refine j_get (v := .ref (q 3)) 0 dX2_mayLieIn_13 fX2_18 rfl rfl ?_
  refine j_iload_n 1 dX2_mayLieIn_16 rfl rfl ?_
  refine j_zaldB (i := j) (f := sl) 3 dX2_mayLieIn_17 rfl (by omega) (by decide) ?_
  refine j_ifb_ne (b := sl j) (tgt := 35) dX2_mayLieIn_18 (by decide) (fun h18 => ?_) (fun h18 => ?_)
  · skip
    refine j_iconst (v := bI false) dX2_mayLieIn_35 (by decide) ?_
    exact j_iret _ dX2_mayLieIn_36 (List.Perm.refl _) ⟨by simp [may, *], by rfl⟩
  · skip
    refine j_aload_n 0 dX2_mayLieIn_21 rfl rfl ?_
    refine j_get (v := .ref (q 1)) 0 dX2_mayLieIn_22 fX2_9 rfl rfl ?_
    refine j_iload_n 1 dX2_mayLieIn_25 rfl rfl ?_
    refine j_ialdN (i := j) (f := kf) 1 dX2_mayLieIn_26 rfl (by omega) (by decide) ?_
    refine j_iconst (v := 1) dX2_mayLieIn_27 (by decide) ?_
    refine j_icmp_eq (tgt := 35) dX2_mayLieIn_28 (by decide) (fun h28 => ?_) (fun h28 => ?_)
    · skip
      refine j_iconst (v := bI false) dX2_mayLieIn_35 (by decide) ?_
      exact j_iret _ dX2_mayLieIn_36 (List.Perm.refl _) ⟨by simp [may, *], by rfl⟩
    · skip
      refine j_iconst (v := bI true) dX2_mayLieIn_31 (by decide) ?_
      refine j_goto (tgt := 36) dX2_mayLieIn_32 (by decide) ?_
      exact j_iret _ dX2_mayLieIn_36 (List.Perm.refl _) ⟨by simp [may, *], by rfl⟩
set_option maxHeartbeats 4000000 in
set_option maxRecDepth 100000 in
theorem tX2_settle (l : Launch) (x : Cx) (q : Nat → Nat) (kf tf : Nat → Int32) (sl : Nat → Bool) (bf : Nat → Int32) (n : Nat) (d h : Int32) (hn : n ≤ 5) (j : Nat) (hj : j < n) : MC l x 1 0 0 yX2_settle cX2_settle 2 none [.ref (q 0), .int (nI j)] (nb x q (kf, tf, sl, bf, n, d, h)) (eV (nb x q (kf, upd tf j (stT (tf j)), bup sl j (stS (tf j) (sl j)), bf, n, d, h))) := by
  refine MC.of (by decide) (Nat.le_of_ble_eq_true rfl) eV_fit (fun M => ?_)
  show J M l x cX2_settle 2 yX2_settle 1 (eV (nb x q (kf, upd tf j (stT (tf j)), bup sl j (stS (tf j) (sl j)), bf, n, d, h))) 0 0 0 [(0, .ref (q 0)), (1, .int (nI j))] [] (nb x q (kf, tf, sl, bf, n, d, h))
  refine j_aload_n 0 dX2_settle_0 rfl rfl ?_
  refine j_iload_n 1 dX2_settle_1 rfl rfl ?_
  refine j_cVi (As := [.int (nI j)]) (rest := []) (wr := []) (ws' := nb x q (kf, tf, sl, bf, n, d, h)) (tX2_knows l x q kf tf sl bf n d h (nI j)) kX2_knows 0 rfl rfl rfl vX2_55 dX2_settle_2 (by decide) rfl rfl (Nat.le_of_ble_eq_true rfl) (pm_0 _) (List.append_nil _) ?_
  refine j_ifb_ne (b := kn n (nI j)) (tgt := 9) dX2_settle_5 (by decide) (fun h5 => ?_) (fun h5 => absurd h5 (by rw [kn_t (by omega) (by omega)]; decide))
  refine j_aload_n 0 dX2_settle_9 rfl rfl ?_
  refine j_get (v := .ref (q 2)) 0 dX2_settle_10 fX2_15 rfl rfl ?_
  refine j_iload_n 1 dX2_settle_13 rfl rfl ?_
  refine j_ialdN (i := j) (f := tf) 2 dX2_settle_14 rfl (by omega) (by decide) ?_
  refine j_bipush (v := 10) dX2_settle_15 (by decide) ?_
  refine j_icmp_lt (tgt := 38) dX2_settle_17 (by decide) (fun h17 => ?_) (fun h17 => ?_)
  · skip
    refine j_aload_n 0 dX2_settle_38 rfl rfl ?_
    refine j_get (v := .ref (q 2)) 0 dX2_settle_39 fX2_15 rfl rfl ?_
    refine j_iload_n 1 dX2_settle_42 rfl rfl ?_
    refine j_ialdN (i := j) (f := tf) 2 dX2_settle_43 rfl (by omega) (by decide) ?_
    refine j_iconst (v := 2) dX2_settle_44 (by decide) ?_
    refine j_icmp_gt (tgt := 55) dX2_settle_45 (by decide) (fun h45 => ?_) (fun h45 => ?_)
    · skip
      exact j_vret _ dX2_settle_55 (List.Perm.refl _) ⟨rfl, by (first | (simp [stT, stS, h17, h45, upd_same, bup_same]; done) | (simp [stT, stS, nle_of_lt h17]; done) | (simp [stT, stS, h17, upd_same]; done))⟩
    · skip
      refine j_aload_n 0 dX2_settle_48 rfl rfl ?_
      refine j_get (v := .ref (q 3)) 0 dX2_settle_49 fX2_18 rfl rfl ?_
      refine j_iload_n 1 dX2_settle_52 rfl rfl ?_
      refine j_iconst (v := 0) dX2_settle_53 (by decide) ?_
      refine j_zastB (i := j) (f := sl) (ws' := nb x q (kf, tf, bup sl j false, bf, n, d, h)) 3 false dX2_settle_54 rfl (by omega) (by decide) rfl ?_
      exact j_vret _ dX2_settle_55 (List.Perm.refl _) ⟨rfl, by (first | (simp [stT, stS, h17, h45, upd_same, bup_same]; done) | (simp [stT, stS, nle_of_lt h17]; done) | (simp [stT, stS, h17, upd_same]; done))⟩
  · skip
    refine j_aload_n 0 dX2_settle_20 rfl rfl ?_
    refine j_get (v := .ref (q 2)) 0 dX2_settle_21 fX2_15 rfl rfl ?_
    refine j_iload_n 1 dX2_settle_24 rfl rfl ?_
    refine j_bipush (v := 10) dX2_settle_25 (by decide) ?_
    refine j_iastN (i := j) (f := tf) (ws' := nb x q (kf, upd tf j 10, sl, bf, n, d, h)) 2 dX2_settle_27 rfl (by omega) (by decide) rfl ?_
    refine j_aload_n 0 dX2_settle_28 rfl rfl ?_
    refine j_get (v := .ref (q 3)) 0 dX2_settle_29 fX2_18 rfl rfl ?_
    refine j_iload_n 1 dX2_settle_32 rfl rfl ?_
    refine j_iconst (v := 1) dX2_settle_33 (by decide) ?_
    refine j_zastB (i := j) (f := sl) (ws' := nb x q (kf, upd tf j 10, bup sl j true, bf, n, d, h)) 3 true dX2_settle_34 rfl (by omega) (by decide) rfl ?_
    refine j_goto (tgt := 55) dX2_settle_35 (by decide) ?_
    exact j_vret _ dX2_settle_55 (List.Perm.refl _) ⟨rfl, by (first | (simp [stT, stS, h17, h45, upd_same, bup_same]; done) | (simp [stT, stS, nle_of_lt h17]; done) | (simp [stT, stS, h17, upd_same]; done))⟩
set_option maxHeartbeats 4000000 in
set_option maxRecDepth 100000 in
theorem lp_sleepers {M : Mx} (l : Launch) (x : Cx) (q : Nat → Nat) (kf tf : Nat → Int32) (sl : Nat → Bool) (bf : Nat → Int32) (n : Nat) (d h : Int32) (hn : n ≤ 5) {k0 n0 : Nat}  : ∀ (m : Nat) (i : Nat), i ≤ n → n - i < m → J M l x cX2_sleepers 3 yX2_sleepers 0 (eI (nI (cntS sl n)) (nb x q (kf, tf, sl, bf, n, d, h))) k0 n0 4 [(0, .ref (q 0)), (1, .int (nI (cntS sl i))), (2, .int (nI i))] [] (nb x q (kf, tf, sl, bf, n, d, h)) := by
  intro m; induction m with
  | zero => intro i hc0 hm; exact absurd hm (Nat.not_lt_zero _)
  | succ m ih =>
    intro i hc0 hm
    refine j_iload_n 2 dX2_sleepers_4 rfl rfl ?_
    refine j_aload_n 0 dX2_sleepers_5 rfl rfl ?_
    refine j_get (v := .int (nI n)) 0 dX2_sleepers_6 fX2_25 rfl rfl ?_
    refine j_icmpN_ge (a := i) (b := n) (by omega) (by omega) (tgt := 35) dX2_sleepers_9 (by decide) (fun h9 => ?_) (fun h9 => ?_)
    · skip
      refine j_iload_n 1 dX2_sleepers_35 rfl rfl ?_
      exact j_iret _ dX2_sleepers_36 (List.Perm.refl _) ⟨by rw [show i = n by omega], by rfl⟩
    · skip
      refine j_iload_n 1 dX2_sleepers_12 rfl rfl ?_
      refine j_aload_n 0 dX2_sleepers_13 rfl rfl ?_
      refine j_get (v := .ref (q 3)) 0 dX2_sleepers_14 fX2_18 rfl rfl ?_
      refine j_iload_n 2 dX2_sleepers_17 rfl rfl ?_
      refine j_zaldB (i := i) (f := sl) 3 dX2_sleepers_18 rfl (by omega) (by decide) ?_
      refine j_ifb_eq (b := sl i) (tgt := 26) dX2_sleepers_19 (by decide) (fun h19 => ?_) (fun h19 => ?_)
      · skip
        refine j_iconst (v := 0) dX2_sleepers_26 (by decide) ?_
        refine j_iadd dX2_sleepers_27 ?_
        refine j_topi (b := nI (cntS sl (i + 1))) (by simp [cntS, h19, nI_add, nI_1]; try rfl) ?_
        refine j_istore_n (lv' := [(1, .int (nI (cntS sl (i + 1)))), (0, .ref (q 0)), (2, .int (nI i))]) dX2_sleepers_28 rfl (by decide) rfl ?_
        refine j_iinc (v := nI (i + 1)) (lv' := [(2, .int (nI (i + 1))), (1, .int (nI (cntS sl (i + 1)))), (0, .ref (q 0))]) 2 dX2_sleepers_29 rfl (nI_1 i) (by decide) rfl ?_
        refine j_goto (tgt := 4) dX2_sleepers_32 (by decide) ?_
        refine j_lv [2, 1, 0] (lv' := [(0, .ref (q 0)), (1, .int (nI (cntS sl (i + 1)))), (2, .int (nI (i + 1)))]) rfl ?_
        exact ih (i + 1) (by omega) (by omega)
      · skip
        refine j_iconst (v := 1) dX2_sleepers_22 (by decide) ?_
        refine j_goto (tgt := 27) dX2_sleepers_23 (by decide) ?_
        refine j_iadd dX2_sleepers_27 ?_
        refine j_topi (b := nI (cntS sl (i + 1))) (by simp [cntS, h19, nI_add, nI_1]; try rfl) ?_
        refine j_istore_n (lv' := [(1, .int (nI (cntS sl (i + 1)))), (0, .ref (q 0)), (2, .int (nI i))]) dX2_sleepers_28 rfl (by decide) rfl ?_
        refine j_iinc (v := nI (i + 1)) (lv' := [(2, .int (nI (i + 1))), (1, .int (nI (cntS sl (i + 1)))), (0, .ref (q 0))]) 2 dX2_sleepers_29 rfl (nI_1 i) (by decide) rfl ?_
        refine j_goto (tgt := 4) dX2_sleepers_32 (by decide) ?_
        refine j_lv [2, 1, 0] (lv' := [(0, .ref (q 0)), (1, .int (nI (cntS sl (i + 1)))), (2, .int (nI (i + 1)))]) rfl ?_
        exact ih (i + 1) (by omega) (by omega)
set_option maxHeartbeats 4000000 in
set_option maxRecDepth 100000 in
theorem tX2_sleepers (l : Launch) (x : Cx) (q : Nat → Nat) (kf tf : Nat → Int32) (sl : Nat → Bool) (bf : Nat → Int32) (n : Nat) (d h : Int32) (hn : n ≤ 5) : MC l x 0 0 0 yX2_sleepers cX2_sleepers 3 (some .int) [.ref (q 0)] (nb x q (kf, tf, sl, bf, n, d, h)) (eI (nI (cntS sl n)) (nb x q (kf, tf, sl, bf, n, d, h))) := by
  refine MC.of (by decide) (Nat.le_of_ble_eq_true rfl) eI_fit (fun M => ?_)
  show J M l x cX2_sleepers 3 yX2_sleepers 0 (eI (nI (cntS sl n)) (nb x q (kf, tf, sl, bf, n, d, h))) 0 0 0 [(0, .ref (q 0))] [] (nb x q (kf, tf, sl, bf, n, d, h))
  refine j_iconst (v := nI 0) dX2_sleepers_0 (by decide) ?_
  refine j_istore_n (lv' := [(1, .int (nI 0)), (0, .ref (q 0))]) dX2_sleepers_1 rfl (by decide) rfl ?_
  refine j_iconst (v := nI 0) dX2_sleepers_2 (by decide) ?_
  refine j_istore_n (lv' := [(2, .int (nI 0)), (1, .int (nI 0)), (0, .ref (q 0))]) dX2_sleepers_3 rfl (by decide) rfl ?_
  refine j_lv [2, 1, 0] (lv' := [(0, .ref (q 0)), (1, .int (nI 0)), (2, .int (nI 0))]) rfl ?_
  exact lp_sleepers l x q kf tf sl bf n d h hn (n + 1) 0 (by omega) (by omega)
set_option maxHeartbeats 4000000 in
set_option maxRecDepth 100000 in
theorem lp_tiredTogether {M : Mx} (l : Launch) (x : Cx) (q : Nat → Nat) (kf tf : Nat → Int32) (sl : Nat → Bool) (bf : Nat → Int32) (n : Nat) (d h : Int32) (hn : n ≤ 5) {k0 n0 : Nat}  : ∀ (m : Nat) (i : Nat), i ≤ n → n - i < m → J M l x cX2_tiredTogether 3 yX2_tiredTogether 0 (eI (sumT tf n) (nb x q (kf, tf, sl, bf, n, d, h))) k0 n0 4 [(0, .ref (q 0)), (1, .int (sumT tf i)), (2, .int (nI i))] [] (nb x q (kf, tf, sl, bf, n, d, h)) := by
  intro m; induction m with
  | zero => intro i hc0 hm; exact absurd hm (Nat.not_lt_zero _)
  | succ m ih =>
    intro i hc0 hm
    refine j_iload_n 2 dX2_tiredTogether_4 rfl rfl ?_
    refine j_aload_n 0 dX2_tiredTogether_5 rfl rfl ?_
    refine j_get (v := .int (nI n)) 0 dX2_tiredTogether_6 fX2_25 rfl rfl ?_
    refine j_icmpN_ge (a := i) (b := n) (by omega) (by omega) (tgt := 27) dX2_tiredTogether_9 (by decide) (fun h9 => ?_) (fun h9 => ?_)
    · skip
      refine j_iload_n 1 dX2_tiredTogether_27 rfl rfl ?_
      exact j_iret _ dX2_tiredTogether_28 (List.Perm.refl _) ⟨by rw [show i = n by omega], by rfl⟩
    · skip
      refine j_iload_n 1 dX2_tiredTogether_12 rfl rfl ?_
      refine j_aload_n 0 dX2_tiredTogether_13 rfl rfl ?_
      refine j_get (v := .ref (q 2)) 0 dX2_tiredTogether_14 fX2_15 rfl rfl ?_
      refine j_iload_n 2 dX2_tiredTogether_17 rfl rfl ?_
      refine j_ialdN (i := i) (f := tf) 2 dX2_tiredTogether_18 rfl (by omega) (by decide) ?_
      refine j_iadd dX2_tiredTogether_19 ?_
      refine j_istore_n (lv' := [(1, .int ((sumT tf i) + (tf i))), (0, .ref (q 0)), (2, .int (nI i))]) dX2_tiredTogether_20 rfl (by decide) rfl ?_
      refine j_iinc (v := nI (i + 1)) (lv' := [(2, .int (nI (i + 1))), (1, .int ((sumT tf i) + (tf i))), (0, .ref (q 0))]) 2 dX2_tiredTogether_21 rfl (nI_1 i) (by decide) rfl ?_
      refine j_goto (tgt := 4) dX2_tiredTogether_24 (by decide) ?_
      refine j_lv [2, 1, 0] (lv' := [(0, .ref (q 0)), (1, .int ((sumT tf i) + (tf i))), (2, .int (nI (i + 1)))]) rfl ?_
      exact ih (i + 1) (by omega) (by omega)
set_option maxHeartbeats 4000000 in
set_option maxRecDepth 100000 in
theorem tX2_tiredTogether (l : Launch) (x : Cx) (q : Nat → Nat) (kf tf : Nat → Int32) (sl : Nat → Bool) (bf : Nat → Int32) (n : Nat) (d h : Int32) (hn : n ≤ 5) : MC l x 0 0 0 yX2_tiredTogether cX2_tiredTogether 3 (some .int) [.ref (q 0)] (nb x q (kf, tf, sl, bf, n, d, h)) (eI (sumT tf n) (nb x q (kf, tf, sl, bf, n, d, h))) := by
  refine MC.of (by decide) (Nat.le_of_ble_eq_true rfl) eI_fit (fun M => ?_)
  show J M l x cX2_tiredTogether 3 yX2_tiredTogether 0 (eI (sumT tf n) (nb x q (kf, tf, sl, bf, n, d, h))) 0 0 0 [(0, .ref (q 0))] [] (nb x q (kf, tf, sl, bf, n, d, h))
  refine j_iconst (v := 0) dX2_tiredTogether_0 (by decide) ?_
  refine j_istore_n (lv' := [(1, .int 0), (0, .ref (q 0))]) dX2_tiredTogether_1 rfl (by decide) rfl ?_
  refine j_iconst (v := nI 0) dX2_tiredTogether_2 (by decide) ?_
  refine j_istore_n (lv' := [(2, .int (nI 0)), (1, .int 0), (0, .ref (q 0))]) dX2_tiredTogether_3 rfl (by decide) rfl ?_
  refine j_lv [2, 1, 0] (lv' := [(0, .ref (q 0)), (1, .int 0), (2, .int (nI 0))]) rfl ?_
  exact lp_tiredTogether l x q kf tf sl bf n d h hn (n + 1) 0 (by omega) (by omega)
