set_option maxHeartbeats 4000000 in
set_option maxRecDepth 100000 in
theorem tX3_length (l : Launch) (x : Cx) (q : Nat → Nat) (cs : Nat → Int32) (n : Nat) (hn : n ≤ 18) : MC l x 0 0 0 yX3_length cX3_length 1 (some .int) [.ref (q 0)] (pb x q (cs, n)) (eI (nI n) (pb x q (cs, n))) := by
  refine MC.of (by decide) (Nat.le_of_ble_eq_true rfl) eI_fit (fun M => ?_)
  show J M l x cX3_length 1 yX3_length 0 (eI (nI n) (pb x q (cs, n))) 0 0 0 [(0, .ref (q 0))] [] (pb x q (cs, n))
  refine j_aload_n 0 dX3_length_0 rfl rfl ?_
  refine j_get (v := .int (nI n)) 0 dX3_length_1 fX3_15 rfl rfl ?_
  exact j_iret _ dX3_length_4 (List.Perm.refl _) ⟨by rfl, by rfl⟩
set_option maxHeartbeats 4000000 in
set_option maxRecDepth 100000 in
theorem tX3_codeAt (l : Launch) (x : Cx) (q : Nat → Nat) (cs : Nat → Int32) (n : Nat) (hn : n ≤ 18) (p : Int32) : MC l x 0 0 0 yX3_codeAt cX3_codeAt 2 (some .int) [.ref (q 0), .int p] (pb x q (cs, n)) (eI (cAt cs n p) (pb x q (cs, n))) := by
  refine MC.of (by decide) (Nat.le_of_ble_eq_true rfl) eI_fit (fun M => ?_)
  show J M l x cX3_codeAt 2 yX3_codeAt 0 (eI (cAt cs n p) (pb x q (cs, n))) 0 0 0 [(0, .ref (q 0)), (1, .int p)] [] (pb x q (cs, n))
  refine j_iload_n 1 dX3_codeAt_0 rfl rfl ?_
  refine j_if_lt (tgt := 21) dX3_codeAt_1 (by decide) (fun h1 => ?_) (fun h1 => ?_)
  · skip
    refine j_iconst (v := 0) dX3_codeAt_21 (by decide) ?_
    exact j_iret _ dX3_codeAt_22 (List.Perm.refl _) ⟨by first | (rw [cAt_in hj (by omega)]; done) | (simp [cAt, nlt_of_le h9]; done) | (simp [cAt, nle_of_lt h1]; done), by rfl⟩
  · skip
    refine j_iload_n 1 dX3_codeAt_4 rfl rfl ?_
    refine j_aload_n 0 dX3_codeAt_5 rfl rfl ?_
    refine j_get (v := .int (nI n)) 0 dX3_codeAt_6 fX3_15 rfl rfl ?_
    refine j_icmp_ge (tgt := 21) dX3_codeAt_9 (by decide) (fun h9 => ?_) (fun h9 => ?_)
    · skip
      refine j_iconst (v := 0) dX3_codeAt_21 (by decide) ?_
      exact j_iret _ dX3_codeAt_22 (List.Perm.refl _) ⟨by first | (rw [cAt_in hj (by omega)]; done) | (simp [cAt, nlt_of_le h9]; done) | (simp [cAt, nle_of_lt h1]; done), by rfl⟩
    · skip
      obtain ⟨j, hj, rfl⟩ := kn_f (n := n) (by omega) (l := p) (by simp [kn, le_of_nlt h1, lt_of_nle h9])
      refine j_aload_n 0 dX3_codeAt_12 rfl rfl ?_
      refine j_get (v := .ref (q 1)) 0 dX3_codeAt_13 fX3_11 rfl rfl ?_
      refine j_iload_n 1 dX3_codeAt_16 rfl rfl ?_
      refine j_ialdN (i := j) (f := cs) 1 dX3_codeAt_17 rfl (by omega) (by decide) ?_
      refine j_goto (tgt := 22) dX3_codeAt_18 (by decide) ?_
      exact j_iret _ dX3_codeAt_22 (List.Perm.refl _) ⟨by first | (rw [cAt_in hj (by omega)]; done) | (simp [cAt, nlt_of_le h9]; done) | (simp [cAt, nle_of_lt h1]; done), by rfl⟩
set_option maxHeartbeats 4000000 in
set_option maxRecDepth 100000 in
theorem tX3_digitAt (l : Launch) (x : Cx) (q : Nat → Nat) (cs : Nat → Int32) (n : Nat) (hn : n ≤ 18) (p : Int32) : MC l x 1 0 0 yX3_digitAt cX3_digitAt 2 (some .int) [.ref (q 0), .int p] (pb x q (cs, n)) (eI (cAt cs n p - 48) (pb x q (cs, n))) := by
  refine MC.of (by decide) (Nat.le_of_ble_eq_true rfl) eI_fit (fun M => ?_)
  show J M l x cX3_digitAt 2 yX3_digitAt 1 (eI (cAt cs n p - 48) (pb x q (cs, n))) 0 0 0 [(0, .ref (q 0)), (1, .int p)] [] (pb x q (cs, n))
  refine j_aload_n 0 dX3_digitAt_0 rfl rfl ?_
  refine j_iload_n 1 dX3_digitAt_1 rfl rfl ?_
  refine j_cVi (As := [.int p]) (rest := []) (wr := []) (ws' := pb x q (cs, n)) (tX3_codeAt l x q cs n (by omega) p) kX3_codeAt 0 rfl rfl rfl vX3_19 dX3_digitAt_2 (by decide) rfl rfl (Nat.le_of_ble_eq_true rfl) (pm_0 _) (List.append_nil _) ?_
  refine j_bipush (v := 48) dX3_digitAt_5 (by decide) ?_
  refine j_isub dX3_digitAt_7 ?_
  exact j_iret _ dX3_digitAt_8 (List.Perm.refl _) ⟨by rfl, by rfl⟩
set_option maxHeartbeats 4000000 in
set_option maxRecDepth 100000 in
theorem tX3_put (l : Launch) (x : Cx) (q : Nat → Nat) (cs : Nat → Int32) (n : Nat) (hn : n < 18) (c : Int32) : MC l x 0 0 0 yX3_put cX3_put 2 (some .int) [.ref (q 0), .int c] (pb x q (cs, n)) (eI (nI (n + 1)) (pb x q (upd cs n c, n + 1))) := by
  refine MC.of (by decide) (Nat.le_of_ble_eq_true rfl) eI_fit (fun M => ?_)
  show J M l x cX3_put 2 yX3_put 0 (eI (nI (n + 1)) (pb x q (upd cs n c, n + 1))) 0 0 0 [(0, .ref (q 0)), (1, .int c)] [] (pb x q (cs, n))
  refine j_aload_n 0 dX3_put_0 rfl rfl ?_
  refine j_get (v := .int (nI n)) 0 dX3_put_1 fX3_15 rfl rfl ?_
  refine j_aload_n 0 dX3_put_4 rfl rfl ?_
  refine j_get (v := .ref (q 1)) 0 dX3_put_5 fX3_11 rfl rfl ?_
  refine j_alen (v := nI 18) 1 0 dX3_put_8 rfl rfl rfl ?_
  refine j_icmpN_ge (a := n) (b := 18) (by omega) (by omega) (tgt := 32) dX3_put_9 (by decide) (fun h9 => by omega) (fun h9 => ?_)
  refine j_aload_n 0 dX3_put_12 rfl rfl ?_
  refine j_get (v := .ref (q 1)) 0 dX3_put_13 fX3_11 rfl rfl ?_
  refine j_aload_n 0 dX3_put_16 rfl rfl ?_
  refine j_get (v := .int (nI n)) 0 dX3_put_17 fX3_15 rfl rfl ?_
  refine j_iload_n 1 dX3_put_20 rfl rfl ?_
  refine j_iastN (i := n) (f := cs) (ws' := pb x q (upd cs n c, n)) 1 dX3_put_21 rfl (by omega) (by decide) rfl ?_
  refine j_aload_n 0 dX3_put_22 rfl rfl ?_
  refine j_dup dX3_put_23 rfl ?_
  refine j_get (v := .int (nI n)) 0 dX3_put_24 fX3_15 rfl rfl ?_
  refine j_iconst (v := 1) dX3_put_27 (by decide) ?_
  refine j_iadd dX3_put_28 ?_
  refine j_topi (b := nI (n + 1)) (nI_1 n) ?_
  refine j_put (v := .int (nI (n + 1))) (ws' := pb x q (upd cs n c, n + 1)) 0 dX3_put_29 fX3_15 rfl rfl rfl (Nat.le_of_ble_eq_true rfl) rfl ?_
  refine j_aload_n 0 dX3_put_32 rfl rfl ?_
  refine j_get (v := .int (nI (n + 1))) 0 dX3_put_33 fX3_15 rfl rfl ?_
  exact j_iret _ dX3_put_36 (List.Perm.refl _) ⟨by rfl, by rfl⟩
set_option maxHeartbeats 4000000 in
set_option maxRecDepth 100000 in
theorem tX3_empty (l : Launch) (x : Cx) (q : Nat → Nat) (cs : Nat → Int32) (n : Nat) (hn : n ≤ 18) : MC l x 0 0 0 yX3_empty cX3_empty 2 (some .int) [.ref (q 0)] (pb x q (cs, n)) (eI (nI n) (pb x q (cs, 0))) := by
  refine MC.of (by decide) (Nat.le_of_ble_eq_true rfl) eI_fit (fun M => ?_)
  show J M l x cX3_empty 2 yX3_empty 0 (eI (nI n) (pb x q (cs, 0))) 0 0 0 [(0, .ref (q 0))] [] (pb x q (cs, n))
  refine j_aload_n 0 dX3_empty_0 rfl rfl ?_
  refine j_get (v := .int (nI n)) 0 dX3_empty_1 fX3_15 rfl rfl ?_
  refine j_istore_n (lv' := [(1, .int (nI n)), (0, .ref (q 0))]) dX3_empty_4 rfl (by decide) rfl ?_
  refine j_aload_n 1 dX3_empty_5 rfl rfl ?_
  refine j_iconst (v := nI 0) dX3_empty_6 (by decide) ?_
  refine j_put (v := .int (nI 0)) (ws' := pb x q (cs, 0)) 0 dX3_empty_7 fX3_15 rfl rfl rfl (Nat.le_of_ble_eq_true rfl) rfl ?_
  refine j_iload_n 0 dX3_empty_10 rfl rfl ?_
  exact j_iret _ dX3_empty_11 (List.Perm.refl _) ⟨by rfl, by rfl⟩
set_option maxHeartbeats 4000000 in
set_option maxRecDepth 100000 in
theorem tX3_lodgers (l : Launch) (x : Cx) (q : Nat → Nat) (cs : Nat → Int32) (n : Nat) (hn : n ≤ 18) : MC l x 0 0 0 yX3_lodgers cX3_lodgers 1 (some .int) [.ref (q 0)] (pb x q (cs, n)) (eI (nI (n / 3)) (pb x q (cs, n))) := by
  refine MC.of (by decide) (Nat.le_of_ble_eq_true rfl) eI_fit (fun M => ?_)
  show J M l x cX3_lodgers 1 yX3_lodgers 0 (eI (nI (n / 3)) (pb x q (cs, n))) 0 0 0 [(0, .ref (q 0))] [] (pb x q (cs, n))
  refine j_aload_n 0 dX3_lodgers_0 rfl rfl ?_
  refine j_get (v := .int (nI n)) 0 dX3_lodgers_1 fX3_15 rfl rfl ?_
  refine j_iconst (v := 3) dX3_lodgers_4 (by decide) ?_
  refine j_idiv dX3_lodgers_5 (by decide) ?_
  refine j_topi (b := nI (n / 3)) (pk_div3 n (by omega)) ?_
  exact j_iret _ dX3_lodgers_6 (List.Perm.refl _) ⟨by rfl, by rfl⟩
set_option maxHeartbeats 4000000 in
set_option maxRecDepth 100000 in
theorem tX3_kindOf (l : Launch) (x : Cx) (q : Nat → Nat) (cs : Nat → Int32) (n : Nat) (hn : n ≤ 18) (j : Nat) : MC l x 1 0 0 yX3_kindOf cX3_kindOf 2 (some .int) [.ref (q 0), .int (nI j)] (pb x q (cs, n)) (eI (kbl (cAt cs n (nI j * 3))) (pb x q (cs, n))) := by
  refine MC.of (by decide) (Nat.le_of_ble_eq_true rfl) eI_fit (fun M => ?_)
  show J M l x cX3_kindOf 2 yX3_kindOf 1 (eI (kbl (cAt cs n (nI j * 3))) (pb x q (cs, n))) 0 0 0 [(0, .ref (q 0)), (1, .int (nI j))] [] (pb x q (cs, n))
  refine j_aload_n 0 dX3_kindOf_0 rfl rfl ?_
  refine j_iload_n 1 dX3_kindOf_1 rfl rfl ?_
  refine j_iconst (v := 3) dX3_kindOf_2 (by decide) ?_
  refine j_imul dX3_kindOf_3 ?_
  refine j_cVi (As := [.int ((nI j) * 3)]) (rest := []) (wr := []) (ws' := pb x q (cs, n)) (tX3_codeAt l x q cs n (by omega) ((nI j) * 3)) kX3_codeAt 0 rfl rfl rfl vX3_19 dX3_kindOf_4 (by decide) rfl rfl (Nat.le_of_ble_eq_true rfl) (pm_0 _) (List.append_nil _) ?_
  refine j_cNi (As := [.int (cAt cs n ((nI j) * 3))]) (rest := []) (wr := pb x q (cs, n)) (ws' := pb x q (cs, n)) (tX5_kindByLetter l x (cAt cs n ((nI j) * 3))) kX5_kindByLetter nX3_31 dX3_kindOf_7 (by decide) rfl rfl (Nat.le_of_ble_eq_true rfl) (List.Perm.refl _) rfl ?_
  exact j_iret _ dX3_kindOf_10 (List.Perm.refl _) ⟨by rfl, by rfl⟩
set_option maxHeartbeats 4000000 in
set_option maxRecDepth 100000 in
theorem tX3_tiredOf (l : Launch) (x : Cx) (q : Nat → Nat) (cs : Nat → Int32) (n : Nat) (hn : n ≤ 18) (j : Nat) : MC l x 2 0 0 yX3_tiredOf cX3_tiredOf 2 (some .int) [.ref (q 0), .int (nI j)] (pb x q (cs, n)) (eI (cAt cs n (nI j * 3 + 1) - 48) (pb x q (cs, n))) := by
  refine MC.of (by decide) (Nat.le_of_ble_eq_true rfl) eI_fit (fun M => ?_)
  show J M l x cX3_tiredOf 2 yX3_tiredOf 2 (eI (cAt cs n (nI j * 3 + 1) - 48) (pb x q (cs, n))) 0 0 0 [(0, .ref (q 0)), (1, .int (nI j))] [] (pb x q (cs, n))
  refine j_aload_n 0 dX3_tiredOf_0 rfl rfl ?_
  refine j_iload_n 1 dX3_tiredOf_1 rfl rfl ?_
  refine j_iconst (v := 3) dX3_tiredOf_2 (by decide) ?_
  refine j_imul dX3_tiredOf_3 ?_
  refine j_iconst (v := 1) dX3_tiredOf_4 (by decide) ?_
  refine j_iadd dX3_tiredOf_5 ?_
  refine j_cVi (As := [.int (((nI j) * 3) + 1)]) (rest := []) (wr := []) (ws' := pb x q (cs, n)) (tX3_digitAt l x q cs n (by omega) (((nI j) * 3) + 1)) kX3_digitAt 0 rfl rfl rfl vX3_34 dX3_tiredOf_6 (by decide) rfl rfl (Nat.le_of_ble_eq_true rfl) (pm_0 _) (List.append_nil _) ?_
  exact j_iret _ dX3_tiredOf_9 (List.Perm.refl _) ⟨by rfl, by rfl⟩
set_option maxHeartbeats 4000000 in
set_option maxRecDepth 100000 in
theorem tX3_drowse (l : Launch) (x : Cx) (q : Nat → Nat) (cs : Nat → Int32) (n : Nat) (hn : n ≤ 18) : MC l x 2 0 0 yX3_drowse cX3_drowse 1 (some .int) [.ref (q 0)] (pb x q (cs, n)) (eI (cAt cs n (nI n - 1) - 48) (pb x q (cs, n))) := by
  refine MC.of (by decide) (Nat.le_of_ble_eq_true rfl) eI_fit (fun M => ?_)
  show J M l x cX3_drowse 1 yX3_drowse 2 (eI (cAt cs n (nI n - 1) - 48) (pb x q (cs, n))) 0 0 0 [(0, .ref (q 0))] [] (pb x q (cs, n))
  refine j_aload_n 0 dX3_drowse_0 rfl rfl ?_
  refine j_aload_n 0 dX3_drowse_1 rfl rfl ?_
  refine j_get (v := .int (nI n)) 0 dX3_drowse_2 fX3_15 rfl rfl ?_
  refine j_iconst (v := 1) dX3_drowse_5 (by decide) ?_
  refine j_isub dX3_drowse_6 ?_
  refine j_cVi (As := [.int ((nI n) - 1)]) (rest := []) (wr := []) (ws' := pb x q (cs, n)) (tX3_digitAt l x q cs n (by omega) ((nI n) - 1)) kX3_digitAt 0 rfl rfl rfl vX3_34 dX3_drowse_7 (by decide) rfl rfl (Nat.le_of_ble_eq_true rfl) (pm_0 _) (List.append_nil _) ?_
  exact j_iret _ dX3_drowse_10 (List.Perm.refl _) ⟨by rfl, by rfl⟩
set_option maxHeartbeats 4000000 in
set_option maxRecDepth 100000 in
theorem tX3_fits (l : Launch) (x : Cx) (q : Nat → Nat) (cs : Nat → Int32) (n : Nat) (hn : n ≤ 18) (i : Nat) (hi : i < n) : MC l x 1 0 0 yX3_fits cX3_fits 3 (some .boolean) [.ref (q 0), .int (nI i)] (pb x q (cs, n)) (eI (bI (fitB cs n i)) (pb x q (cs, n))) := by
  refine MC.of (by decide) (Nat.le_of_ble_eq_true rfl) eB_fit (fun M => ?_)
  show J M l x cX3_fits 3 yX3_fits 1 (eI (bI (fitB cs n i)) (pb x q (cs, n))) 0 0 0 [(0, .ref (q 0)), (1, .int (nI i))] [] (pb x q (cs, n))
  refine j_aload_n 0 dX3_fits_0 rfl rfl ?_
  refine j_iload_n 1 dX3_fits_1 rfl rfl ?_
  refine j_cVi (As := [.int (nI i)]) (rest := []) (wr := []) (ws' := pb x q (cs, n)) (tX3_codeAt l x q cs n (by omega) (nI i)) kX3_codeAt 0 rfl rfl rfl vX3_19 dX3_fits_2 (by decide) rfl rfl (Nat.le_of_ble_eq_true rfl) (pm_0 _) (List.append_nil _) ?_
  refine j_topi (b := cs i) (cAt_in hi (by omega)) ?_
  refine j_istore_n (lv' := [(2, .int (cs i)), (0, .ref (q 0)), (1, .int (nI i))]) dX3_fits_5 rfl (by decide) rfl ?_
  refine j_aload_n 1 dX3_fits_6 rfl rfl ?_
  refine j_iload_n 2 dX3_fits_7 rfl rfl ?_
  refine j_iconst (v := 1) dX3_fits_8 (by decide) ?_
  refine j_isub dX3_fits_9 ?_
  refine j_cVi (As := [.int ((nI i) - 1)]) (rest := []) (wr := []) (ws' := pb x q (cs, n)) (tX3_codeAt l x q cs n (by omega) ((nI i) - 1)) kX3_codeAt 0 rfl rfl rfl vX3_19 dX3_fits_10 (by decide) rfl rfl (Nat.le_of_ble_eq_true rfl) (pm_0 _) (List.append_nil _) ?_
  refine j_bipush (v := 59) dX3_fits_13 (by decide) ?_
  refine j_icmp_ne (tgt := 27) dX3_fits_15 (by decide) (fun h15 => ?_) (fun h15 => ?_)
  · skip
    refine j_aload_n 1 dX3_fits_27 rfl rfl ?_
    refine j_iload_n 2 dX3_fits_28 rfl rfl ?_
    refine j_iconst (v := 2) dX3_fits_29 (by decide) ?_
    refine j_isub dX3_fits_30 ?_
    refine j_cVi (As := [.int ((nI i) - 2)]) (rest := []) (wr := []) (ws' := pb x q (cs, n)) (tX3_codeAt l x q cs n (by omega) ((nI i) - 2)) kX3_codeAt 0 rfl rfl rfl vX3_19 dX3_fits_31 (by decide) rfl rfl (Nat.le_of_ble_eq_true rfl) (pm_0 _) (List.append_nil _) ?_
    refine j_bipush (v := 59) dX3_fits_34 (by decide) ?_
    refine j_icmp_ne (tgt := 41) dX3_fits_36 (by decide) (fun h36 => ?_) (fun h36 => ?_)
    · skip
      refine j_iload_n 2 dX3_fits_41 rfl rfl ?_
      refine j_iconst (v := 3) dX3_fits_42 (by decide) ?_
      refine j_irem dX3_fits_43 (by decide) ?_
      refine j_topi (b := nI (i % 3)) (pk_rem3 i (by omega)) ?_
      by_cases m0 : i % 3 = 0
      · refine j_lookC 0 (by rw [m0]; rfl) dX3_fits_44 (by decide) (by decide) (by decide : (44 : Int) + 28 = ((72 : Nat) : Int)) ?_
        refine j_iload_n 0 dX3_fits_72 rfl rfl ?_
        refine j_cNi (As := [.int (cs i)]) (rest := []) (wr := pb x q (cs, n)) (ws' := pb x q (cs, n)) (tX5_kindByLetter l x (cs i)) kX5_kindByLetter nX3_31 dX3_fits_73 (by decide) rfl rfl (Nat.le_of_ble_eq_true rfl) (List.Perm.refl _) rfl ?_
        refine j_iconst (v := (-1)) dX3_fits_76 (by decide) ?_
        refine j_icmp_eq (tgt := 84) dX3_fits_77 (by decide) (fun h77 => ?_) (fun h77 => ?_)
        · skip
          refine j_iconst (v := bI false) dX3_fits_84 (by decide) ?_
          exact j_iret _ dX3_fits_85 (List.Perm.refl _) ⟨congrArg (fun b => some (Value.int (bI b))) (by rw [fitB, if_neg h15, if_neg h36, if_pos m0]; first | (rw [h77]; done) | (simp [h77]; done)), rfl⟩
        · skip
          refine j_iconst (v := bI true) dX3_fits_80 (by decide) ?_
          refine j_goto (tgt := 85) dX3_fits_81 (by decide) ?_
          exact j_iret _ dX3_fits_85 (List.Perm.refl _) ⟨congrArg (fun b => some (Value.int (bI b))) (by rw [fitB, if_neg h15, if_neg h36, if_pos m0]; first | (rw [h77]; done) | (simp [h77]; done)), rfl⟩
      by_cases m1 : i % 3 = 1
      · refine j_lookC 1 (by rw [m1]; rfl) dX3_fits_44 (by decide) (by decide) (by decide : (44 : Int) + 42 = ((86 : Nat) : Int)) ?_
        refine j_iload_n 0 dX3_fits_86 rfl rfl ?_
        refine j_bipush (v := 48) dX3_fits_87 (by decide) ?_
        refine j_bipush (v := 57) dX3_fits_89 (by decide) ?_
        refine j_cNi (As := [.int (cs i), .int 48, .int 57]) (rest := []) (wr := pb x q (cs, n)) (ws' := pb x q (cs, n)) (tX5_isWithin l x (cs i) 48 57) kX5_isWithin nX3_37 dX3_fits_91 (by decide) rfl rfl (Nat.le_of_ble_eq_true rfl) (List.Perm.refl _) rfl ?_
        exact j_iret _ dX3_fits_94 (List.Perm.refl _) ⟨congrArg (fun b => some (Value.int (bI b))) (by rw [fitB, if_neg h15, if_neg h36, if_neg m0, if_pos m1]), rfl⟩
      have s0 : ¬ nI (i % 3) = 0 := fun e => m0 ((nI_eq (a := i % 3) (b := 0) (by omega) (by omega)).mp e)
      have s1 : ¬ nI (i % 3) = 1 := fun e => m1 ((nI_eq (a := i % 3) (b := 1) (by omega) (by omega)).mp e)
      refine j_lookup dX3_fits_44 (by decide) ((lv_osw s0 (by decide)).trans ((lv_osw s1 (by decide)).trans rfl)) (by decide : (44 : Int) + 51 = ((95 : Nat) : Int)) ?_
      refine j_iload_n 0 dX3_fits_95 rfl rfl ?_
      refine j_bipush (v := 44) dX3_fits_96 (by decide) ?_
      refine j_icmp_ne (tgt := 107) dX3_fits_98 (by decide) (fun h98 => ?_) (fun h98 => ?_)
      · skip
        refine j_iload_n 0 dX3_fits_107 rfl rfl ?_
        refine j_bipush (v := 59) dX3_fits_108 (by decide) ?_
        refine j_icmp_ne (tgt := 122) dX3_fits_110 (by decide) (fun h110 => ?_) (fun h110 => ?_)
        · skip
          refine j_iconst (v := bI false) dX3_fits_122 (by decide) ?_
          exact j_iret _ dX3_fits_123 (List.Perm.refl _) ⟨congrArg (fun b => some (Value.int (bI b))) (by rw [fitB, if_neg h15, if_neg h36, if_neg m0, if_neg m1]; first | (exfalso; rw [h98] at h110; exact absurd h110 (by decide)) | (simp [*]; done) | (simp [*]; omega)), rfl⟩
        · skip
          refine j_iload_n 2 dX3_fits_113 rfl rfl ?_
          refine j_iconst (v := 5) dX3_fits_114 (by decide) ?_
          refine j_icmpN_lt (a := i) (b := 5) (by omega) (by omega) (tgt := 122) dX3_fits_115 (by decide) (fun h115 => ?_) (fun h115 => ?_)
          · skip
            refine j_iconst (v := bI false) dX3_fits_122 (by decide) ?_
            exact j_iret _ dX3_fits_123 (List.Perm.refl _) ⟨congrArg (fun b => some (Value.int (bI b))) (by rw [fitB, if_neg h15, if_neg h36, if_neg m0, if_neg m1]; first | (exfalso; rw [h98] at h110; exact absurd h110 (by decide)) | (simp [*]; done) | (simp [*]; omega)), rfl⟩
          · skip
            refine j_iconst (v := bI true) dX3_fits_118 (by decide) ?_
            refine j_goto (tgt := 123) dX3_fits_119 (by decide) ?_
            exact j_iret _ dX3_fits_123 (List.Perm.refl _) ⟨congrArg (fun b => some (Value.int (bI b))) (by rw [fitB, if_neg h15, if_neg h36, if_neg m0, if_neg m1]; first | (exfalso; rw [h98] at h110; exact absurd h110 (by decide)) | (simp [*]; done) | (simp [*]; omega)), rfl⟩
      · skip
        refine j_iload_n 2 dX3_fits_101 rfl rfl ?_
        refine j_bipush (v := 14) dX3_fits_102 (by decide) ?_
        refine j_icmpN_lt (a := i) (b := 14) (by omega) (by omega) (tgt := 118) dX3_fits_104 (by decide) (fun h104 => ?_) (fun h104 => ?_)
        · skip
          refine j_iconst (v := bI true) dX3_fits_118 (by decide) ?_
          refine j_goto (tgt := 123) dX3_fits_119 (by decide) ?_
          exact j_iret _ dX3_fits_123 (List.Perm.refl _) ⟨congrArg (fun b => some (Value.int (bI b))) (by rw [fitB, if_neg h15, if_neg h36, if_neg m0, if_neg m1]; first | (exfalso; rw [h98] at h110; exact absurd h110 (by decide)) | (simp [*]; done) | (simp [*]; omega)), rfl⟩
        · skip
          refine j_iload_n 0 dX3_fits_107 rfl rfl ?_
          refine j_bipush (v := 59) dX3_fits_108 (by decide) ?_
          refine j_icmp_ne (tgt := 122) dX3_fits_110 (by decide) (fun h110 => ?_) (fun h110 => ?_)
          · skip
            refine j_iconst (v := bI false) dX3_fits_122 (by decide) ?_
            exact j_iret _ dX3_fits_123 (List.Perm.refl _) ⟨congrArg (fun b => some (Value.int (bI b))) (by rw [fitB, if_neg h15, if_neg h36, if_neg m0, if_neg m1]; first | (exfalso; rw [h98] at h110; exact absurd h110 (by decide)) | (simp [*]; done) | (simp [*]; omega)), rfl⟩
          · skip
            refine j_iload_n 2 dX3_fits_113 rfl rfl ?_
            refine j_iconst (v := 5) dX3_fits_114 (by decide) ?_
            refine j_icmpN_lt (a := i) (b := 5) (by omega) (by omega) (tgt := 122) dX3_fits_115 (by decide) (fun h115 => ?_) (fun h115 => ?_)
            · skip
              refine j_iconst (v := bI false) dX3_fits_122 (by decide) ?_
              exact j_iret _ dX3_fits_123 (List.Perm.refl _) ⟨congrArg (fun b => some (Value.int (bI b))) (by rw [fitB, if_neg h15, if_neg h36, if_neg m0, if_neg m1]; first | (exfalso; rw [h98] at h110; exact absurd h110 (by decide)) | (simp [*]; done) | (simp [*]; omega)), rfl⟩
            · skip
              refine j_iconst (v := bI true) dX3_fits_118 (by decide) ?_
              refine j_goto (tgt := 123) dX3_fits_119 (by decide) ?_
              exact j_iret _ dX3_fits_123 (List.Perm.refl _) ⟨congrArg (fun b => some (Value.int (bI b))) (by rw [fitB, if_neg h15, if_neg h36, if_neg m0, if_neg m1]; first | (exfalso; rw [h98] at h110; exact absurd h110 (by decide)) | (simp [*]; done) | (simp [*]; omega)), rfl⟩
    · skip
      refine j_iconst (v := bI false) dX3_fits_39 (by decide) ?_
      exact j_iret _ dX3_fits_40 (List.Perm.refl _) ⟨congrArg (fun b => some (Value.int (bI b))) (by rw [fitB, if_neg h15, if_pos h36]), rfl⟩
  · skip
    refine j_iload_n 0 dX3_fits_18 rfl rfl ?_
    refine j_bipush (v := 49) dX3_fits_19 (by decide) ?_
    refine j_bipush (v := 52) dX3_fits_21 (by decide) ?_
    refine j_cNi (As := [.int (cs i), .int 49, .int 52]) (rest := []) (wr := pb x q (cs, n)) (ws' := pb x q (cs, n)) (tX5_isWithin l x (cs i) 49 52) kX5_isWithin nX3_37 dX3_fits_23 (by decide) rfl rfl (Nat.le_of_ble_eq_true rfl) (List.Perm.refl _) rfl ?_
    exact j_iret _ dX3_fits_26 (List.Perm.refl _) ⟨congrArg (fun b => some (Value.int (bI b))) (by rw [fitB, if_pos h15]), rfl⟩
set_option maxHeartbeats 4000000 in
set_option maxRecDepth 100000 in
theorem lp_firstFault {M : Mx} (l : Launch) (x : Cx) (q : Nat → Nat) (cs : Nat → Int32) (n : Nat) (hn : n ≤ 18) (r : Nat) {k0 n0 : Nat}  : ∀ (m : Nat) (i : Nat), i ≤ n → ffr cs n (n - i) i = r → n - i < m → J M l x cX3_firstFault 2 yX3_firstFault 2 (eI (nI r) (pb x q (cs, n))) k0 n0 2 [(0, .ref (q 0)), (1, .int (nI i))] [] (pb x q (cs, n)) := by
  intro m; induction m with
  | zero => intro i hc0 hc1 hm; exact absurd hm (Nat.not_lt_zero _)
  | succ m ih =>
    intro i hc0 hc1 hm
    refine j_iload_n 1 dX3_firstFault_2 rfl rfl ?_
    refine j_aload_n 0 dX3_firstFault_3 rfl rfl ?_
    refine j_get (v := .int (nI n)) 0 dX3_firstFault_4 fX3_15 rfl rfl ?_
    refine j_icmpN_ge (a := i) (b := n) (by omega) (by omega) (tgt := 26) dX3_firstFault_7 (by decide) (fun h7 => ?_) (fun h7 => ?_)
    · skip
      refine j_aload_n 0 dX3_firstFault_26 rfl rfl ?_
      refine j_get (v := .int (nI n)) 0 dX3_firstFault_27 fX3_15 rfl rfl ?_
      exact j_iret _ dX3_firstFault_30 (List.Perm.refl _) ⟨by rw [← hc1, show n - i = 0 by omega]; rfl, rfl⟩
    · skip
      refine j_aload_n 0 dX3_firstFault_10 rfl rfl ?_
      refine j_iload_n 1 dX3_firstFault_11 rfl rfl ?_
      refine j_cVi (As := [.int (nI i)]) (rest := []) (wr := []) (ws' := pb x q (cs, n)) (tX3_fits l x q cs n (by omega) i (by omega)) kX3_fits 0 rfl rfl rfl vX3_23 dX3_firstFault_12 (by decide) rfl rfl (Nat.le_of_ble_eq_true rfl) (pm_0 _) (List.append_nil _) ?_
      refine j_ifb_ne (b := fitB cs n i) (tgt := 20) dX3_firstFault_15 (by decide) (fun h15 => ?_) (fun h15 => ?_)
      · skip
        refine j_iinc (v := nI (i + 1)) (lv' := [(1, .int (nI (i + 1))), (0, .ref (q 0))]) 1 dX3_firstFault_20 rfl (nI_1 i) (by decide) rfl ?_
        refine j_goto (tgt := 2) dX3_firstFault_23 (by decide) ?_
        refine j_lv [1, 0] (lv' := [(0, .ref (q 0)), (1, .int (nI (i + 1)))]) rfl ?_
        exact ih (i + 1) (by omega) (by rw [← hc1, show n - i = (n - (i + 1)) + 1 by omega, ffr, if_pos h15]) (by omega)
      · skip
        refine j_iload_n 1 dX3_firstFault_18 rfl rfl ?_
        exact j_iret _ dX3_firstFault_19 (List.Perm.refl _) ⟨by rw [← hc1, show n - i = (n - (i + 1)) + 1 by omega, ffr, if_neg (by rw [h15]; decide)], rfl⟩
set_option maxHeartbeats 4000000 in
set_option maxRecDepth 100000 in
theorem tX3_firstFault (l : Launch) (x : Cx) (q : Nat → Nat) (cs : Nat → Int32) (n : Nat) (hn : n ≤ 18) : MC l x 2 0 0 yX3_firstFault cX3_firstFault 2 (some .int) [.ref (q 0)] (pb x q (cs, n)) (eI (nI (ffr cs n n 0)) (pb x q (cs, n))) := by
  refine MC.of (by decide) (Nat.le_of_ble_eq_true rfl) eI_fit (fun M => ?_)
  show J M l x cX3_firstFault 2 yX3_firstFault 2 (eI (nI (ffr cs n n 0)) (pb x q (cs, n))) 0 0 0 [(0, .ref (q 0))] [] (pb x q (cs, n))
  refine j_iconst (v := nI 0) dX3_firstFault_0 (by decide) ?_
  refine j_istore_n (lv' := [(1, .int (nI 0)), (0, .ref (q 0))]) dX3_firstFault_1 rfl (by decide) rfl ?_
  refine j_lv [1, 0] (lv' := [(0, .ref (q 0)), (1, .int (nI 0))]) rfl ?_
  exact lp_firstFault l x q cs n hn _ (n + 1) 0 (by omega) rfl (by omega)
set_option maxHeartbeats 4000000 in
set_option maxRecDepth 100000 in
theorem tX3_isHouse (l : Launch) (x : Cx) (q : Nat → Nat) (cs : Nat → Int32) (n : Nat) (hn : n ≤ 18) : MC l x 3 0 0 yX3_isHouse cX3_isHouse 1 (some .boolean) [.ref (q 0)] (pb x q (cs, n)) (eI (bI (isHB cs n)) (pb x q (cs, n))) := by
  refine MC.of (by decide) (Nat.le_of_ble_eq_true rfl) eB_fit (fun M => ?_)
  show J M l x cX3_isHouse 1 yX3_isHouse 3 (eI (bI (isHB cs n)) (pb x q (cs, n))) 0 0 0 [(0, .ref (q 0))] [] (pb x q (cs, n))
  have hff := ffr_le cs n n 0 (by omega)
  refine j_aload_n 0 dX3_isHouse_0 rfl rfl ?_
  refine j_aload_n 0 dX3_isHouse_1 rfl rfl ?_
  refine j_get (v := .int (nI n)) 0 dX3_isHouse_2 fX3_15 rfl rfl ?_
  refine j_iconst (v := 2) dX3_isHouse_5 (by decide) ?_
  refine j_isub dX3_isHouse_6 ?_
  refine j_cVi (As := [.int ((nI n) - 2)]) (rest := []) (wr := []) (ws' := pb x q (cs, n)) (tX3_codeAt l x q cs n (by omega) ((nI n) - 2)) kX3_codeAt 0 rfl rfl rfl vX3_19 dX3_isHouse_7 (by decide) rfl rfl (Nat.le_of_ble_eq_true rfl) (pm_0 _) (List.append_nil _) ?_
  refine j_bipush (v := 59) dX3_isHouse_10 (by decide) ?_
  refine j_icmp_ne (tgt := 30) dX3_isHouse_12 (by decide) (fun h12 => ?_) (fun h12 => ?_)
  · skip
    refine j_iconst (v := bI false) dX3_isHouse_30 (by decide) ?_
    exact j_iret _ dX3_isHouse_31 (List.Perm.refl _) ⟨by simp [isHB, *], by rfl⟩
  · skip
    refine j_aload_n 0 dX3_isHouse_15 rfl rfl ?_
    refine j_cVi (As := []) (rest := []) (wr := []) (ws' := pb x q (cs, n)) (tX3_firstFault l x q cs n (by omega) ) kX3_firstFault 0 rfl rfl rfl vX3_27 dX3_isHouse_16 (by decide) rfl rfl (Nat.le_of_ble_eq_true rfl) (pm_0 _) (List.append_nil _) ?_
    refine j_aload_n 0 dX3_isHouse_19 rfl rfl ?_
    refine j_get (v := .int (nI n)) 0 dX3_isHouse_20 fX3_15 rfl rfl ?_
    refine j_icmpN_ne (a := ffr cs n n 0) (b := n) (by omega) (by omega) (tgt := 30) dX3_isHouse_23 (by decide) (fun h23 => ?_) (fun h23 => ?_)
    · skip
      refine j_iconst (v := bI false) dX3_isHouse_30 (by decide) ?_
      exact j_iret _ dX3_isHouse_31 (List.Perm.refl _) ⟨by simp [isHB, *], by rfl⟩
    · skip
      refine j_iconst (v := bI true) dX3_isHouse_26 (by decide) ?_
      refine j_goto (tgt := 31) dX3_isHouse_27 (by decide) ?_
      exact j_iret _ dX3_isHouse_31 (List.Perm.refl _) ⟨by simp [isHB, *], by rfl⟩
set_option maxHeartbeats 4000000 in
set_option maxRecDepth 100000 in
theorem tX4_size (l : Launch) (x : Cx) (q : Nat → Nat) (hs wh : Nat → Int32) (n : Nat) (hn : n ≤ 6) : MC l x 0 0 0 yX4_size cX4_size 1 (some .int) [.ref (q 0)] (sb x q (hs, wh, n)) (eI (nI n) (sb x q (hs, wh, n))) := by
  refine MC.of (by decide) (Nat.le_of_ble_eq_true rfl) eI_fit (fun M => ?_)
  show J M l x cX4_size 1 yX4_size 0 (eI (nI n) (sb x q (hs, wh, n))) 0 0 0 [(0, .ref (q 0))] [] (sb x q (hs, wh, n))
  refine j_aload_n 0 dX4_size_0 rfl rfl ?_
  refine j_get (v := .int (nI n)) 0 dX4_size_1 fX4_18 rfl rfl ?_
  exact j_iret _ dX4_size_4 (List.Perm.refl _) ⟨by rfl, by rfl⟩
set_option maxHeartbeats 4000000 in
set_option maxRecDepth 100000 in
theorem tX4_put (l : Launch) (x : Cx) (q : Nat → Nat) (hs wh : Nat → Int32) (n : Nat) (hn : n < 6) (b w : Int32) : MC l x 0 0 0 yX4_put cX4_put 3 (some .int) [.ref (q 0), .int b, .int w] (sb x q (hs, wh, n)) (eI (nI (n + 1)) (sb x q (upd hs n b, upd wh n w, n + 1))) := by
  refine MC.of (by decide) (Nat.le_of_ble_eq_true rfl) eI_fit (fun M => ?_)
  show J M l x cX4_put 3 yX4_put 0 (eI (nI (n + 1)) (sb x q (upd hs n b, upd wh n w, n + 1))) 0 0 0 [(0, .ref (q 0)), (1, .int b), (2, .int w)] [] (sb x q (hs, wh, n))
  refine j_aload_n 0 dX4_put_0 rfl rfl ?_
  refine j_get (v := .int (nI n)) 0 dX4_put_1 fX4_18 rfl rfl ?_
  refine j_bipush (v := 6) dX4_put_4 (by decide) ?_
  refine j_icmpN_ge (a := n) (b := 6) (by omega) (by omega) (tgt := 39) dX4_put_6 (by decide) (fun h6 => by omega) (fun h6 => ?_)
  refine j_aload_n 0 dX4_put_9 rfl rfl ?_
  refine j_get (v := .ref (q 1)) 0 dX4_put_10 fX4_9 rfl rfl ?_
  refine j_aload_n 0 dX4_put_13 rfl rfl ?_
  refine j_get (v := .int (nI n)) 0 dX4_put_14 fX4_18 rfl rfl ?_
  refine j_iload_n 1 dX4_put_17 rfl rfl ?_
  refine j_iastN (i := n) (f := hs) (ws' := sb x q (upd hs n b, wh, n)) 1 dX4_put_18 rfl (by omega) (by decide) rfl ?_
  refine j_aload_n 0 dX4_put_19 rfl rfl ?_
  refine j_get (v := .ref (q 2)) 0 dX4_put_20 fX4_15 rfl rfl ?_
  refine j_aload_n 0 dX4_put_23 rfl rfl ?_
  refine j_get (v := .int (nI n)) 0 dX4_put_24 fX4_18 rfl rfl ?_
  refine j_iload_n 2 dX4_put_27 rfl rfl ?_
  refine j_iastN (i := n) (f := wh) (ws' := sb x q (upd hs n b, upd wh n w, n)) 2 dX4_put_28 rfl (by omega) (by decide) rfl ?_
  refine j_aload_n 0 dX4_put_29 rfl rfl ?_
  refine j_dup dX4_put_30 rfl ?_
  refine j_get (v := .int (nI n)) 0 dX4_put_31 fX4_18 rfl rfl ?_
  refine j_iconst (v := 1) dX4_put_34 (by decide) ?_
  refine j_iadd dX4_put_35 ?_
  refine j_topi (b := nI (n + 1)) (nI_1 n) ?_
  refine j_put (v := .int (nI (n + 1))) (ws' := sb x q (upd hs n b, upd wh n w, n + 1)) 0 dX4_put_36 fX4_18 rfl rfl rfl (Nat.le_of_ble_eq_true rfl) rfl ?_
  refine j_aload_n 0 dX4_put_39 rfl rfl ?_
  refine j_get (v := .int (nI (n + 1))) 0 dX4_put_40 fX4_18 rfl rfl ?_
  exact j_iret _ dX4_put_43 (List.Perm.refl _) ⟨by rfl, by rfl⟩
set_option maxHeartbeats 4000000 in
set_option maxRecDepth 100000 in
theorem tX4_empty (l : Launch) (x : Cx) (q : Nat → Nat) (hs wh : Nat → Int32) (n : Nat) (hn : n ≤ 6) : MC l x 0 0 0 yX4_empty cX4_empty 2 (some .int) [.ref (q 0)] (sb x q (hs, wh, n)) (eI (nI n) (sb x q (hs, wh, 0))) := by
  refine MC.of (by decide) (Nat.le_of_ble_eq_true rfl) eI_fit (fun M => ?_)
  show J M l x cX4_empty 2 yX4_empty 0 (eI (nI n) (sb x q (hs, wh, 0))) 0 0 0 [(0, .ref (q 0))] [] (sb x q (hs, wh, n))
  refine j_aload_n 0 dX4_empty_0 rfl rfl ?_
  refine j_get (v := .int (nI n)) 0 dX4_empty_1 fX4_18 rfl rfl ?_
  refine j_istore_n (lv' := [(1, .int (nI n)), (0, .ref (q 0))]) dX4_empty_4 rfl (by decide) rfl ?_
  refine j_aload_n 1 dX4_empty_5 rfl rfl ?_
  refine j_iconst (v := nI 0) dX4_empty_6 (by decide) ?_
  refine j_put (v := .int (nI 0)) (ws' := sb x q (hs, wh, 0)) 0 dX4_empty_7 fX4_18 rfl rfl rfl (Nat.le_of_ble_eq_true rfl) rfl ?_
  refine j_iload_n 0 dX4_empty_10 rfl rfl ?_
  exact j_iret _ dX4_empty_11 (List.Perm.refl _) ⟨by rfl, by rfl⟩
set_option maxHeartbeats 4000000 in
set_option maxRecDepth 100000 in
theorem lp_allows {M : Mx} (l : Launch) (x : Cx) (q : Nat → Nat) (hs wh : Nat → Int32) (n : Nat) (hn : n ≤ 6) (b w : Int32) (r : Bool) {k0 n0 : Nat}  : ∀ (m : Nat) (i : Nat), i ≤ n → alr hs wh b w (n - i) i = r → n - i < m → J M l x cX4_allows 4 yX4_allows 0 (eI (bI r) (sb x q (hs, wh, n))) k0 n0 2 [(0, .ref (q 0)), (1, .int b), (2, .int w), (3, .int (nI i))] [] (sb x q (hs, wh, n)) := by
  intro m; induction m with
  | zero => intro i hc0 hc1 hm; exact absurd hm (Nat.not_lt_zero _)
  | succ m ih =>
    intro i hc0 hc1 hm
    refine j_iload_n 3 dX4_allows_2 rfl rfl ?_
    refine j_aload_n 0 dX4_allows_3 rfl rfl ?_
    refine j_get (v := .int (nI n)) 0 dX4_allows_4 fX4_18 rfl rfl ?_
    refine j_icmpN_ge (a := i) (b := n) (by omega) (by omega) (tgt := 38) dX4_allows_7 (by decide) (fun h7 => ?_) (fun h7 => ?_)
    · skip
      refine j_iconst (v := bI true) dX4_allows_38 (by decide) ?_
      exact j_iret _ dX4_allows_39 (List.Perm.refl _) ⟨by rw [← hc1, show n - i = 0 by omega]; rfl, rfl⟩
    · skip
      refine j_aload_n 0 dX4_allows_10 rfl rfl ?_
      refine j_get (v := .ref (q 1)) 0 dX4_allows_11 fX4_9 rfl rfl ?_
      refine j_iload_n 3 dX4_allows_14 rfl rfl ?_
      refine j_ialdN (i := i) (f := hs) 1 dX4_allows_15 rfl (by omega) (by decide) ?_
      refine j_iload_n 1 dX4_allows_16 rfl rfl ?_
      refine j_icmp_ne (tgt := 32) dX4_allows_17 (by decide) (fun h17 => ?_) (fun h17 => ?_)
      · skip
        refine j_iinc (v := nI (i + 1)) (lv' := [(3, .int (nI (i + 1))), (0, .ref (q 0)), (1, .int b), (2, .int w)]) 3 dX4_allows_32 rfl (nI_1 i) (by decide) rfl ?_
        refine j_goto (tgt := 2) dX4_allows_35 (by decide) ?_
        refine j_lv [1, 2, 3, 0] (lv' := [(0, .ref (q 0)), (1, .int b), (2, .int w), (3, .int (nI (i + 1)))]) rfl ?_
        exact ih (i + 1) (by omega) (by rw [← hc1, show n - i = (n - (i + 1)) + 1 by omega, alr, if_neg (by first | exact fun e => h17 e.1 | exact fun e => e.2 h27)]) (by omega)
      · skip
        refine j_aload_n 0 dX4_allows_20 rfl rfl ?_
        refine j_get (v := .ref (q 2)) 0 dX4_allows_21 fX4_15 rfl rfl ?_
        refine j_iload_n 3 dX4_allows_24 rfl rfl ?_
        refine j_ialdN (i := i) (f := wh) 2 dX4_allows_25 rfl (by omega) (by decide) ?_
        refine j_iload_n 2 dX4_allows_26 rfl rfl ?_
        refine j_icmp_eq (tgt := 32) dX4_allows_27 (by decide) (fun h27 => ?_) (fun h27 => ?_)
        · skip
          refine j_iinc (v := nI (i + 1)) (lv' := [(3, .int (nI (i + 1))), (0, .ref (q 0)), (1, .int b), (2, .int w)]) 3 dX4_allows_32 rfl (nI_1 i) (by decide) rfl ?_
          refine j_goto (tgt := 2) dX4_allows_35 (by decide) ?_
          refine j_lv [1, 2, 3, 0] (lv' := [(0, .ref (q 0)), (1, .int b), (2, .int w), (3, .int (nI (i + 1)))]) rfl ?_
          exact ih (i + 1) (by omega) (by rw [← hc1, show n - i = (n - (i + 1)) + 1 by omega, alr, if_neg (by first | exact fun e => h17 e.1 | exact fun e => e.2 h27)]) (by omega)
        · skip
          refine j_iconst (v := bI false) dX4_allows_30 (by decide) ?_
          exact j_iret _ dX4_allows_31 (List.Perm.refl _) ⟨by rw [← hc1, show n - i = (n - (i + 1)) + 1 by omega, alr, if_pos ⟨h17, h27⟩], rfl⟩
set_option maxHeartbeats 4000000 in
set_option maxRecDepth 100000 in
theorem tX4_allows (l : Launch) (x : Cx) (q : Nat → Nat) (hs wh : Nat → Int32) (n : Nat) (hn : n ≤ 6) (b w : Int32) : MC l x 0 0 0 yX4_allows cX4_allows 4 (some .boolean) [.ref (q 0), .int b, .int w] (sb x q (hs, wh, n)) (eI (bI (alr hs wh b w n 0)) (sb x q (hs, wh, n))) := by
  refine MC.of (by decide) (Nat.le_of_ble_eq_true rfl) eB_fit (fun M => ?_)
  show J M l x cX4_allows 4 yX4_allows 0 (eI (bI (alr hs wh b w n 0)) (sb x q (hs, wh, n))) 0 0 0 [(0, .ref (q 0)), (1, .int b), (2, .int w)] [] (sb x q (hs, wh, n))
  refine j_iconst (v := nI 0) dX4_allows_0 (by decide) ?_
  refine j_istore_n (lv' := [(3, .int (nI 0)), (0, .ref (q 0)), (1, .int b), (2, .int w)]) dX4_allows_1 rfl (by decide) rfl ?_
  refine j_lv [1, 2, 3, 0] (lv' := [(0, .ref (q 0)), (1, .int b), (2, .int w), (3, .int (nI 0))]) rfl ?_
  exact lp_allows l x q hs wh n hn b w _ (n + 1) 0 (by omega) rfl (by omega)
set_option maxHeartbeats 4000000 in
set_option maxRecDepth 100000 in
theorem lp_scopy {M : Mx} (l : Launch) (x : Cx) (q q2 : Nat → Nat) (hs wh : Nat → Int32) (n : Nat) (hs2 wh2 : Nat → Int32) (n2 : Nat) (hn : n2 ≤ 6) {k0 n0 : Nat}  : ∀ (m : Nat) (i : Nat), i ≤ n2 → n2 - i < m → J M l x cX4_copyFrom 3 yX4_copyFrom 0 (eV (sb x q (mix n2 hs2 hs, mix n2 wh2 wh, n2) ++ sb x q2 (hs2, wh2, n2))) k0 n0 10 [(0, .ref (q 0)), (1, .ref (q2 0)), (2, .int (nI i))] [] (sb x q (mix i hs2 hs, mix i wh2 wh, n2) ++ sb x q2 (hs2, wh2, n2)) := by
  intro m; induction m with
  | zero => intro i hc0 hm; exact absurd hm (Nat.not_lt_zero _)
  | succ m ih =>
    intro i hc0 hm
    refine j_iload_n 2 dX4_copyFrom_10 rfl rfl ?_
    refine j_aload_n 0 dX4_copyFrom_11 rfl rfl ?_
    refine j_get (v := .int (nI n2)) 0 dX4_copyFrom_12 fX4_18 rfl rfl ?_
    refine j_icmpN_ge (a := i) (b := n2) (by omega) (by omega) (tgt := 48) dX4_copyFrom_15 (by decide) (fun h15 => ?_) (fun h15 => ?_)
    · skip
      exact j_vret _ dX4_copyFrom_48 (List.Perm.refl _) ⟨rfl, by rw [show i = n2 by omega]⟩
    · skip
      refine j_aload_n 0 dX4_copyFrom_18 rfl rfl ?_
      refine j_get (v := .ref (q 1)) 0 dX4_copyFrom_19 fX4_9 rfl rfl ?_
      refine j_iload_n 2 dX4_copyFrom_22 rfl rfl ?_
      refine j_aload_n 1 dX4_copyFrom_23 rfl rfl ?_
      refine j_get (v := .ref (q2 1)) 3 dX4_copyFrom_24 fX4_9 rfl rfl ?_
      refine j_iload_n 2 dX4_copyFrom_27 rfl rfl ?_
      refine j_ialdN (i := i) (f := hs2) 4 dX4_copyFrom_28 rfl (by omega) (by decide) ?_
      refine j_iastN (i := i) (f := mix i hs2 hs) (ws' := sb x q (upd (mix i hs2 hs) i (hs2 i), mix i wh2 wh, n2) ++ sb x q2 (hs2, wh2, n2)) 1 dX4_copyFrom_29 rfl (by omega) (by decide) rfl ?_
      refine j_aload_n 0 dX4_copyFrom_30 rfl rfl ?_
      refine j_get (v := .ref (q 2)) 0 dX4_copyFrom_31 fX4_15 rfl rfl ?_
      refine j_iload_n 2 dX4_copyFrom_34 rfl rfl ?_
      refine j_aload_n 1 dX4_copyFrom_35 rfl rfl ?_
      refine j_get (v := .ref (q2 2)) 3 dX4_copyFrom_36 fX4_15 rfl rfl ?_
      refine j_iload_n 2 dX4_copyFrom_39 rfl rfl ?_
      refine j_ialdN (i := i) (f := wh2) 5 dX4_copyFrom_40 rfl (by omega) (by decide) ?_
      refine j_iastN (i := i) (f := mix i wh2 wh) (ws' := sb x q (upd (mix i hs2 hs) i (hs2 i), upd (mix i wh2 wh) i (wh2 i), n2) ++ sb x q2 (hs2, wh2, n2)) 2 dX4_copyFrom_41 rfl (by omega) (by decide) rfl ?_
      refine j_iinc (v := nI (i + 1)) (lv' := [(2, .int (nI (i + 1))), (0, .ref (q 0)), (1, .ref (q2 0))]) 2 dX4_copyFrom_42 rfl (nI_1 i) (by decide) rfl ?_
      refine j_goto (tgt := 10) dX4_copyFrom_45 (by decide) ?_
      refine j_lv [1, 2, 0] (lv' := [(0, .ref (q 0)), (1, .ref (q2 0)), (2, .int (nI (i + 1)))]) rfl ?_
      refine j_ws (ws' := sb x q (mix (i + 1) hs2 hs, mix (i + 1) wh2 wh, n2) ++ sb x q2 (hs2, wh2, n2)) (by rw [mix_upd _ _ _ rfl, mix_upd _ _ _ rfl]) ?_
      exact ih (i + 1) (by omega) (by omega)
set_option maxHeartbeats 4000000 in
set_option maxRecDepth 100000 in
theorem tX4_copyFrom (l : Launch) (x : Cx) (q q2 : Nat → Nat) (hs wh : Nat → Int32) (n : Nat) (hs2 wh2 : Nat → Int32) (n2 : Nat) (hn : n2 ≤ 6) : MC l x 0 0 0 yX4_copyFrom cX4_copyFrom 3 none [.ref (q 0), .ref (q2 0)] (sb x q (hs, wh, n) ++ sb x q2 (hs2, wh2, n2)) (eV (sb x q (mix n2 hs2 hs, mix n2 wh2 wh, n2) ++ sb x q2 (hs2, wh2, n2))) := by
  refine MC.of (by decide) (Nat.le_of_ble_eq_true rfl) eV_fit (fun M => ?_)
  show J M l x cX4_copyFrom 3 yX4_copyFrom 0 (eV (sb x q (mix n2 hs2 hs, mix n2 wh2 wh, n2) ++ sb x q2 (hs2, wh2, n2))) 0 0 0 [(0, .ref (q 0)), (1, .ref (q2 0))] [] (sb x q (hs, wh, n) ++ sb x q2 (hs2, wh2, n2))
  refine j_aload_n 0 dX4_copyFrom_0 rfl rfl ?_
  refine j_aload_n 1 dX4_copyFrom_1 rfl rfl ?_
  refine j_get (v := .int (nI n2)) 3 dX4_copyFrom_2 fX4_18 rfl rfl ?_
  refine j_put (v := .int (nI n2)) (ws' := sb x q (hs, wh, n2) ++ sb x q2 (hs2, wh2, n2)) 0 dX4_copyFrom_5 fX4_18 rfl rfl rfl (Nat.le_of_ble_eq_true rfl) rfl ?_
  refine j_iconst (v := nI 0) dX4_copyFrom_8 (by decide) ?_
  refine j_istore_n (lv' := [(2, .int (nI 0)), (0, .ref (q 0)), (1, .ref (q2 0))]) dX4_copyFrom_9 rfl (by decide) rfl ?_
  refine j_lv [1, 2, 0] (lv' := [(0, .ref (q 0)), (1, .ref (q2 0)), (2, .int (nI 0))]) rfl ?_
  have hl := lp_scopy (M := M) (k0 := 0) (n0 := 0) l x q q2 hs wh n hs2 wh2 n2 hn (n2 + 1) 0 (by omega) (by omega)
  rw [mix_0, mix_0] at hl
  exact hl
set_option maxHeartbeats 4000000 in
set_option maxRecDepth 100000 in
theorem lp_begin {M : Mx} (l : Launch) (x : Cx) (q g : Nat → Nat) (kf tf : Nat → Int32) (sl : Nat → Bool) (bf : Nat → Int32) (n : Nat) (d h : Int32) (cs : Nat → Int32) (pn : Nat) (hn : pn ≤ 18) {k0 n0 : Nat}  : ∀ (m : Nat) (i : Nat), i ≤ min (pn / 3) 5 → min (pn / 3) 5 - i < m → J M l x cX2_begin 3 yX2_begin 3 (eV (fl [nb x q (bgn (cs, pn) (kf, tf, sl, bf, n, d, h)), pb x g (cs, pn)])) k0 n0 27 [(0, .ref (q 0)), (1, .ref (g 0)), (2, .int (nI i))] [] (fl [nb x q (mix i (fun j => kbl (cAt cs pn (nI j * 3))) kf, mix i (fun j => cAt cs pn (nI j * 3 + 1) - 48) tf, mix i (fun _ => false) sl, mix i (fun _ => 0) bf, min (pn / 3) 5, cAt cs pn (nI pn - 1) - 48, 0), pb x g (cs, pn)]) := by
  intro m; induction m with
  | zero => intro i hc0 hm; exact absurd hm (Nat.not_lt_zero _)
  | succ m ih =>
    intro i hc0 hm
    refine j_iload_n 2 dX2_begin_27 rfl rfl ?_
    refine j_aload_n 0 dX2_begin_28 rfl rfl ?_
    refine j_get (v := .int (nI (min (pn / 3) 5))) 0 dX2_begin_29 fX2_25 rfl rfl ?_
    refine j_icmpN_ge (a := i) (b := min (pn / 3) 5) (by omega) (by omega) (tgt := 77) dX2_begin_32 (by decide) (fun h32 => ?_) (fun h32 => ?_)
    · skip
      exact j_vret (fl [nb x q (mix i (fun j => kbl (cAt cs pn (nI j * 3))) kf, mix i (fun j => cAt cs pn (nI j * 3 + 1) - 48) tf, mix i (fun _ => false) sl, mix i (fun _ => 0) bf, min (pn / 3) 5, cAt cs pn (nI pn - 1) - 48, 0), pb x g (cs, pn)]) dX2_begin_77 (pm_b [0, 1] rfl rfl) ⟨rfl, by rw [show i = min (pn / 3) 5 by omega]; rfl⟩
    · skip
      refine j_aload_n 0 dX2_begin_35 rfl rfl ?_
      refine j_get (v := .ref (q 1)) 0 dX2_begin_36 fX2_9 rfl rfl ?_
      refine j_iload_n 2 dX2_begin_39 rfl rfl ?_
      refine j_aload_n 1 dX2_begin_40 rfl rfl ?_
      refine j_iload_n 2 dX2_begin_41 rfl rfl ?_
      refine j_cVi (As := [.int (nI i)]) (rest := [.int (nI i), .ref (q 1)]) (wr := fl [nb x q (mix i (fun j => kbl (cAt cs pn (nI j * 3))) kf, mix i (fun j => cAt cs pn (nI j * 3 + 1) - 48) tf, mix i (fun _ => false) sl, mix i (fun _ => 0) bf, min (pn / 3) 5, cAt cs pn (nI pn - 1) - 48, 0)]) (ws' := fl [pb x g (cs, pn), nb x q (mix i (fun j => kbl (cAt cs pn (nI j * 3))) kf, mix i (fun j => cAt cs pn (nI j * 3 + 1) - 48) tf, mix i (fun _ => false) sl, mix i (fun _ => 0) bf, min (pn / 3) 5, cAt cs pn (nI pn - 1) - 48, 0)]) (tX3_kindOf l x g cs pn (by omega) i) kX3_kindOf 0 rfl rfl rfl vX2_48 dX2_begin_42 (by decide) rfl rfl (Nat.le_of_ble_eq_true rfl) (pm_1 1 [0] rfl rfl rfl) rfl ?_
      refine j_iastN (i := i) (f := mix i (fun j => kbl (cAt cs pn (nI j * 3))) kf) (ws' := fl [pb x g (cs, pn), nb x q (upd (mix i (fun j => kbl (cAt cs pn (nI j * 3))) kf) i (kbl (cAt cs pn (nI i * 3))), mix i (fun j => cAt cs pn (nI j * 3 + 1) - 48) tf, mix i (fun _ => false) sl, mix i (fun _ => 0) bf, min (pn / 3) 5, cAt cs pn (nI pn - 1) - 48, 0)]) 3 dX2_begin_45 rfl (by omega) (by decide) rfl ?_
      refine j_aload_n 0 dX2_begin_46 rfl rfl ?_
      refine j_get (v := .ref (q 2)) 2 dX2_begin_47 fX2_15 rfl rfl ?_
      refine j_iload_n 2 dX2_begin_50 rfl rfl ?_
      refine j_aload_n 1 dX2_begin_51 rfl rfl ?_
      refine j_iload_n 2 dX2_begin_52 rfl rfl ?_
      refine j_cVi (As := [.int (nI i)]) (rest := [.int (nI i), .ref (q 2)]) (wr := fl [nb x q (upd (mix i (fun j => kbl (cAt cs pn (nI j * 3))) kf) i (kbl (cAt cs pn (nI i * 3))), mix i (fun j => cAt cs pn (nI j * 3 + 1) - 48) tf, mix i (fun _ => false) sl, mix i (fun _ => 0) bf, min (pn / 3) 5, cAt cs pn (nI pn - 1) - 48, 0)]) (ws' := fl [pb x g (cs, pn), nb x q (upd (mix i (fun j => kbl (cAt cs pn (nI j * 3))) kf) i (kbl (cAt cs pn (nI i * 3))), mix i (fun j => cAt cs pn (nI j * 3 + 1) - 48) tf, mix i (fun _ => false) sl, mix i (fun _ => 0) bf, min (pn / 3) 5, cAt cs pn (nI pn - 1) - 48, 0)]) (tX3_tiredOf l x g cs pn (by omega) i) kX3_tiredOf 0 rfl rfl rfl vX2_52 dX2_begin_53 (by decide) rfl rfl (Nat.le_of_ble_eq_true rfl) (pm_1 0 [1] rfl rfl rfl) rfl ?_
      refine j_iastN (i := i) (f := mix i (fun j => cAt cs pn (nI j * 3 + 1) - 48) tf) (ws' := fl [pb x g (cs, pn), nb x q (upd (mix i (fun j => kbl (cAt cs pn (nI j * 3))) kf) i (kbl (cAt cs pn (nI i * 3))), upd (mix i (fun j => cAt cs pn (nI j * 3 + 1) - 48) tf) i (cAt cs pn (nI i * 3 + 1) - 48), mix i (fun _ => false) sl, mix i (fun _ => 0) bf, min (pn / 3) 5, cAt cs pn (nI pn - 1) - 48, 0)]) 4 dX2_begin_56 rfl (by omega) (by decide) rfl ?_
      refine j_aload_n 0 dX2_begin_57 rfl rfl ?_
      refine j_get (v := .ref (q 3)) 2 dX2_begin_58 fX2_18 rfl rfl ?_
      refine j_iload_n 2 dX2_begin_61 rfl rfl ?_
      refine j_iconst (v := 0) dX2_begin_62 (by decide) ?_
      refine j_zastB (i := i) (f := mix i (fun _ => false) sl) (ws' := fl [pb x g (cs, pn), nb x q (upd (mix i (fun j => kbl (cAt cs pn (nI j * 3))) kf) i (kbl (cAt cs pn (nI i * 3))), upd (mix i (fun j => cAt cs pn (nI j * 3 + 1) - 48) tf) i (cAt cs pn (nI i * 3 + 1) - 48), bup (mix i (fun _ => false) sl) i false, mix i (fun _ => 0) bf, min (pn / 3) 5, cAt cs pn (nI pn - 1) - 48, 0)]) 5 false dX2_begin_63 rfl (by omega) (by decide) rfl ?_
      refine j_aload_n 0 dX2_begin_64 rfl rfl ?_
      refine j_get (v := .ref (q 4)) 2 dX2_begin_65 fX2_22 rfl rfl ?_
      refine j_iload_n 2 dX2_begin_68 rfl rfl ?_
      refine j_iconst (v := 0) dX2_begin_69 (by decide) ?_
      refine j_iastN (i := i) (f := mix i (fun _ => 0) bf) (ws' := fl [pb x g (cs, pn), nb x q (upd (mix i (fun j => kbl (cAt cs pn (nI j * 3))) kf) i (kbl (cAt cs pn (nI i * 3))), upd (mix i (fun j => cAt cs pn (nI j * 3 + 1) - 48) tf) i (cAt cs pn (nI i * 3 + 1) - 48), bup (mix i (fun _ => false) sl) i false, upd (mix i (fun _ => 0) bf) i 0, min (pn / 3) 5, cAt cs pn (nI pn - 1) - 48, 0)]) 6 dX2_begin_70 rfl (by omega) (by decide) rfl ?_
      refine j_iinc (v := nI (i + 1)) (lv' := [(2, .int (nI (i + 1))), (0, .ref (q 0)), (1, .ref (g 0))]) 2 dX2_begin_71 rfl (nI_1 i) (by decide) rfl ?_
      refine j_goto (tgt := 27) dX2_begin_74 (by decide) ?_
      refine j_lv [1, 2, 0] (lv' := [(0, .ref (q 0)), (1, .ref (g 0)), (2, .int (nI (i + 1)))]) rfl ?_
      refine j_perm (fl [nb x q (upd (mix i (fun j => kbl (cAt cs pn (nI j * 3))) kf) i (kbl (cAt cs pn (nI i * 3))), upd (mix i (fun j => cAt cs pn (nI j * 3 + 1) - 48) tf) i (cAt cs pn (nI i * 3 + 1) - 48), bup (mix i (fun _ => false) sl) i false, upd (mix i (fun _ => 0) bf) i 0, min (pn / 3) 5, cAt cs pn (nI pn - 1) - 48, 0), pb x g (cs, pn)]) (pm_b [1, 0] rfl rfl) ?_
      refine j_ws (ws' := fl [nb x q (mix (i + 1) (fun j => kbl (cAt cs pn (nI j * 3))) kf, mix (i + 1) (fun j => cAt cs pn (nI j * 3 + 1) - 48) tf, mix (i + 1) (fun _ => false) sl, mix (i + 1) (fun _ => 0) bf, min (pn / 3) 5, cAt cs pn (nI pn - 1) - 48, 0), pb x g (cs, pn)]) (by rw [mix_upd _ _ _ rfl, mix_upd _ _ _ rfl, mix_bup _ _ _ rfl, mix_upd _ _ _ rfl]) ?_
      exact ih (i + 1) (by omega) (by omega)
set_option maxHeartbeats 4000000 in
set_option maxRecDepth 100000 in
theorem tX2_begin (l : Launch) (x : Cx) (q g : Nat → Nat) (kf tf : Nat → Int32) (sl : Nat → Bool) (bf : Nat → Int32) (n : Nat) (d h : Int32) (cs : Nat → Int32) (pn : Nat) (hn : pn ≤ 18) : MC l x 3 0 0 yX2_begin cX2_begin 3 none [.ref (q 0), .ref (g 0)] (fl [nb x q (kf, tf, sl, bf, n, d, h), pb x g (cs, pn)]) (eV (fl [nb x q (bgn (cs, pn) (kf, tf, sl, bf, n, d, h)), pb x g (cs, pn)])) := by
  refine MC.of (by decide) (Nat.le_of_ble_eq_true rfl) eV_fit (fun M => ?_)
  show J M l x cX2_begin 3 yX2_begin 3 (eV (fl [nb x q (bgn (cs, pn) (kf, tf, sl, bf, n, d, h)), pb x g (cs, pn)])) 0 0 0 [(0, .ref (q 0)), (1, .ref (g 0))] [] (fl [nb x q (kf, tf, sl, bf, n, d, h), pb x g (cs, pn)])
  refine j_aload_n 0 dX2_begin_0 rfl rfl ?_
  refine j_aload_n 1 dX2_begin_1 rfl rfl ?_
  refine j_cVi (As := []) (rest := [.ref (q 0)]) (wr := fl [nb x q (kf, tf, sl, bf, n, d, h)]) (ws' := fl [pb x g (cs, pn), nb x q (kf, tf, sl, bf, n, d, h)]) (tX3_lodgers l x g cs pn (by omega) ) kX3_lodgers 0 rfl rfl rfl vX2_35 dX2_begin_2 (by decide) rfl rfl (Nat.le_of_ble_eq_true rfl) (pm_1 1 [0] rfl rfl rfl) rfl ?_
  refine j_iconst (v := 5) dX2_begin_5 (by decide) ?_
  refine j_mmin dX2_begin_6 mX2_40 (by decide) (Nat.le_of_ble_eq_true rfl) ?_
  refine j_topi (b := nI (min (pn / 3) 5)) (mmin_nI (a := pn / 3) (b := 5) (by omega) (by omega)) ?_
  refine j_put (v := .int (nI (min (pn / 3) 5))) (ws' := fl [pb x g (cs, pn), nb x q (kf, tf, sl, bf, min (pn / 3) 5, d, h)]) 2 dX2_begin_9 fX2_25 rfl rfl rfl (Nat.le_of_ble_eq_true rfl) rfl ?_
  refine j_aload_n 0 dX2_begin_12 rfl rfl ?_
  refine j_aload_n 1 dX2_begin_13 rfl rfl ?_
  refine j_cVi (As := []) (rest := [.ref (q 0)]) (wr := fl [nb x q (kf, tf, sl, bf, min (pn / 3) 5, d, h)]) (ws' := fl [pb x g (cs, pn), nb x q (kf, tf, sl, bf, min (pn / 3) 5, d, h)]) (tX3_drowse l x g cs pn (by omega) ) kX3_drowse 0 rfl rfl rfl vX2_46 dX2_begin_14 (by decide) rfl rfl (Nat.le_of_ble_eq_true rfl) (pm_1 0 [1] rfl rfl rfl) rfl ?_
  refine j_put (v := .int (cAt cs pn (nI pn - 1) - 48)) (ws' := fl [pb x g (cs, pn), nb x q (kf, tf, sl, bf, min (pn / 3) 5, cAt cs pn (nI pn - 1) - 48, h)]) 2 dX2_begin_17 fX2_29 rfl rfl rfl (Nat.le_of_ble_eq_true rfl) rfl ?_
  refine j_aload_n 0 dX2_begin_20 rfl rfl ?_
  refine j_iconst (v := 0) dX2_begin_21 (by decide) ?_
  refine j_put (v := .int 0) (ws' := fl [pb x g (cs, pn), nb x q (kf, tf, sl, bf, min (pn / 3) 5, cAt cs pn (nI pn - 1) - 48, 0)]) 2 dX2_begin_22 fX2_32 rfl rfl rfl (Nat.le_of_ble_eq_true rfl) rfl ?_
  refine j_iconst (v := nI 0) dX2_begin_25 (by decide) ?_
  refine j_istore_n (lv' := [(2, .int (nI 0)), (0, .ref (q 0)), (1, .ref (g 0))]) dX2_begin_26 rfl (by decide) rfl ?_
  refine j_lv [1, 2, 0] (lv' := [(0, .ref (q 0)), (1, .ref (g 0)), (2, .int (nI 0))]) rfl ?_
  refine j_perm (fl [nb x q (kf, tf, sl, bf, min (pn / 3) 5, cAt cs pn (nI pn - 1) - 48, 0), pb x g (cs, pn)]) (pm_b [1, 0] rfl rfl) ?_
  have hl := lp_begin (M := M) (k0 := 0) (n0 := 0) l x q g kf tf sl bf n d h cs pn hn (min (pn / 3) 5 + 1) 0 (by omega) (by omega)
  rw [mix_0, mix_0, mix_0, mix_0] at hl
  exact hl
