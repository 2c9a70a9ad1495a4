set_option maxHeartbeats 4000000 in
set_option maxRecDepth 100000 in
theorem tX6_within (l : Launch) (x : Cx) (a b c : Int32) : MC l x 0 0 0 yX6_within cX6_within 3 (some .boolean) [.int a, .int b, .int c] ([]) (eI (bI (isW a b c)) []) := by
  refine MC.of (by decide) (Nat.le_of_ble_eq_true rfl) eB_fit (fun M => ?_)
  show J M l x cX6_within 3 yX6_within 0 (eI (bI (isW a b c)) []) 0 0 0 [(0, .int a), (1, .int b), (2, .int c)] [] ([])
  refine j_iload_n 0 dX6_within_0 rfl rfl ?_
  refine j_iload_n 1 dX6_within_1 rfl rfl ?_
  refine j_icmp_lt (tgt := 14) dX6_within_2 (by decide) (fun h2 => ?_) (fun h2 => ?_)
  · skip
    refine j_iconst (v := 0) dX6_within_14 (by decide) ?_
    exact j_iret _ dX6_within_15 (List.Perm.refl _) ⟨by first | simp [isW, le_of_nlt h2, le_of_nlt h7, bI] | simp [isW, nle_of_lt h2, bI] | simp [isW, nle_of_lt h7, bI], by rfl⟩
  · skip
    refine j_iload_n 0 dX6_within_5 rfl rfl ?_
    refine j_iload_n 2 dX6_within_6 rfl rfl ?_
    refine j_icmp_gt (tgt := 14) dX6_within_7 (by decide) (fun h7 => ?_) (fun h7 => ?_)
    · skip
      refine j_iconst (v := 0) dX6_within_14 (by decide) ?_
      exact j_iret _ dX6_within_15 (List.Perm.refl _) ⟨by first | simp [isW, le_of_nlt h2, le_of_nlt h7, bI] | simp [isW, nle_of_lt h2, bI] | simp [isW, nle_of_lt h7, bI], by rfl⟩
    · skip
      refine j_iconst (v := 1) dX6_within_10 (by decide) ?_
      refine j_goto (tgt := 15) dX6_within_11 (by decide) ?_
      exact j_iret _ dX6_within_15 (List.Perm.refl _) ⟨by first | simp [isW, le_of_nlt h2, le_of_nlt h7, bI] | simp [isW, nle_of_lt h2, bI] | simp [isW, nle_of_lt h7, bI], by rfl⟩
set_option maxHeartbeats 4000000 in
set_option maxRecDepth 100000 in
theorem tX6_isIn (l : Launch) (x : Cx) (a b : Int32) : MC l x 0 0 0 yX6_isIn cX6_isIn 2 (some .boolean) [.int a, .int b] ([]) (eI (bI (decide ((a >>> (b &&& 31)) &&& 1 = 1))) []) := by
  refine MC.of (by decide) (Nat.le_of_ble_eq_true rfl) eB_fit (fun M => ?_)
  show J M l x cX6_isIn 2 yX6_isIn 0 (eI (bI (decide ((a >>> (b &&& 31)) &&& 1 = 1))) []) 0 0 0 [(0, .int a), (1, .int b)] [] ([])
  refine j_iload_n 0 dX6_isIn_0 rfl rfl ?_
  refine j_iload_n 1 dX6_isIn_1 rfl rfl ?_
  refine j_ishr dX6_isIn_2 ?_
  refine j_iconst (v := 1) dX6_isIn_3 (by decide) ?_
  refine j_iand dX6_isIn_4 ?_
  refine j_iconst (v := 1) dX6_isIn_5 (by decide) ?_
  refine j_icmp_ne (tgt := 13) dX6_isIn_6 (by decide) (fun h6 => ?_) (fun h6 => ?_)
  · skip
    refine j_iconst (v := bI false) dX6_isIn_13 (by decide) ?_
    exact j_iret _ dX6_isIn_14 (List.Perm.refl _) ⟨by simp [h6], by rfl⟩
  · skip
    refine j_iconst (v := bI true) dX6_isIn_9 (by decide) ?_
    refine j_goto (tgt := 14) dX6_isIn_10 (by decide) ?_
    exact j_iret _ dX6_isIn_14 (List.Perm.refl _) ⟨by simp [h6], by rfl⟩
set_option maxHeartbeats 4000000 in
set_option maxRecDepth 100000 in
theorem tX6_kindBy (l : Launch) (x : Cx) (c : Int32) : MC l x 0 0 0 yX6_kindBy cX6_kindBy 1 (some .int) [.int c] ([]) (eI (kbl c) []) := by
  refine MC.of (by decide) (Nat.le_of_ble_eq_true rfl) eI_fit (fun M => ?_)
  show J M l x cX6_kindBy 1 yX6_kindBy 0 (eI (kbl c) []) 0 0 0 [(0, .int c)] [] ([])
  refine j_iload_n 0 dX6_kindBy_0 rfl rfl ?_
  by_cases s1_108 : c = 108
  · refine j_tabC (108) 0 s1_108 (by decide) dX6_kindBy_1 rfl (by decide : (1 : Int) + 63 = ((64 : Nat) : Int)) ?_
    refine j_iconst (v := 0) dX6_kindBy_64 (by decide) ?_
    exact j_iret _ dX6_kindBy_65 (List.Perm.refl _) ⟨by simp [kbl, *], by rfl⟩
  by_cases s1_109 : c = 109
  · refine j_tabC (109) 1 s1_109 (by decide) dX6_kindBy_1 rfl (by decide : (1 : Int) + 69 = ((70 : Nat) : Int)) ?_
    refine j_iconst (v := 3) dX6_kindBy_70 (by decide) ?_
    exact j_iret _ dX6_kindBy_71 (List.Perm.refl _) ⟨by simp [kbl, *], by rfl⟩
  by_cases s1_112 : c = 112
  · refine j_tabC (112) 4 s1_112 (by decide) dX6_kindBy_1 rfl (by decide : (1 : Int) + 71 = ((72 : Nat) : Int)) ?_
    refine j_iconst (v := 4) dX6_kindBy_72 (by decide) ?_
    exact j_iret _ dX6_kindBy_73 (List.Perm.refl _) ⟨by simp [kbl, *], by rfl⟩
  by_cases s1_118 : c = 118
  · refine j_tabC (118) 10 s1_118 (by decide) dX6_kindBy_1 rfl (by decide : (1 : Int) + 67 = ((68 : Nat) : Int)) ?_
    refine j_iconst (v := 2) dX6_kindBy_68 (by decide) ?_
    exact j_iret _ dX6_kindBy_69 (List.Perm.refl _) ⟨by simp [kbl, *], by rfl⟩
  by_cases s1_119 : c = 119
  · refine j_tabC (119) 11 s1_119 (by decide) dX6_kindBy_1 rfl (by decide : (1 : Int) + 65 = ((66 : Nat) : Int)) ?_
    refine j_iconst (v := 1) dX6_kindBy_66 (by decide) ?_
    exact j_iret _ dX6_kindBy_67 (List.Perm.refl _) ⟨by simp [kbl, *], by rfl⟩
  refine j_tabD dX6_kindBy_1 (fun j hj => match j, hj with | 0, _ => Or.inr (lv_neT s1_108 (by decide)) | 1, _ => Or.inr (lv_neT s1_109 (by decide)) | 2, _ => Or.inl rfl | 3, _ => Or.inl rfl | 4, _ => Or.inr (lv_neT s1_112 (by decide)) | 5, _ => Or.inl rfl | 6, _ => Or.inl rfl | 7, _ => Or.inl rfl | 8, _ => Or.inl rfl | 9, _ => Or.inl rfl | 10, _ => Or.inr (lv_neT s1_118 (by decide)) | 11, _ => Or.inr (lv_neT s1_119 (by decide)) | j + 12, hj => absurd hj (by omega)) (by decide : (1 : Int) + 73 = ((74 : Nat) : Int)) ?_
  refine j_iconst (v := (-1)) dX6_kindBy_74 (by decide) ?_
  exact j_iret _ dX6_kindBy_75 (List.Perm.refl _) ⟨by simp [kbl, *], by rfl⟩
set_option maxHeartbeats 4000000 in
set_option maxRecDepth 100000 in
theorem tX6_more (l : Launch) (x : Cx) (a t h : Int32) (b : Bool) : MC l x 0 0 0 yX6_more cX6_more 4 (some .int) [.int a, .int t, .int h, .int (bI b)] ([]) (eI (tbh a t h b) []) := by
  refine MC.of (by decide) (Nat.le_of_ble_eq_true rfl) eI_fit (fun M => ?_)
  show J M l x cX6_more 4 yX6_more 0 (eI (tbh a t h b) []) 0 0 0 [(0, .int a), (1, .int t), (2, .int h), (3, .int (bI b))] [] ([])
  refine j_iload_n 0 dX6_more_0 rfl rfl ?_
  by_cases s1_2 : a = 2
  · refine j_tabC (2) 0 s1_2 (by decide) dX6_more_1 rfl (by decide : (1 : Int) + 27 = ((28 : Nat) : Int)) ?_
    refine j_iload_n 2 dX6_more_28 rfl rfl ?_
    refine j_iconst (v := 2) dX6_more_29 (by decide) ?_
    refine j_irem dX6_more_30 (by decide) ?_
    refine j_if_ne (tgt := 38) dX6_more_31 (by decide) (fun h31 => ?_) (fun h31 => ?_)
    · skip
      refine j_iconst (v := 0) dX6_more_38 (by decide) ?_
      exact j_iret _ dX6_more_39 (List.Perm.refl _) ⟨by simp [tbh, ev, bI, *], by rfl⟩
    · skip
      refine j_iconst (v := 1) dX6_more_34 (by decide) ?_
      refine j_goto (tgt := 39) dX6_more_35 (by decide) ?_
      exact j_iret _ dX6_more_39 (List.Perm.refl _) ⟨by simp [tbh, ev, bI, *], by rfl⟩
  by_cases s1_3 : a = 3
  · refine j_tabC (3) 1 s1_3 (by decide) dX6_more_1 rfl (by decide : (1 : Int) + 39 = ((40 : Nat) : Int)) ?_
    refine j_iload_n 1 dX6_more_40 rfl rfl ?_
    refine j_bipush (v := 6) dX6_more_41 (by decide) ?_
    refine j_icmp_ge (tgt := 50) dX6_more_43 (by decide) (fun h43 => ?_) (fun h43 => ?_)
    · skip
      refine j_iconst (v := 0) dX6_more_50 (by decide) ?_
      exact j_iret _ dX6_more_51 (List.Perm.refl _) ⟨by simp [tbh, ev, bI, *], by rfl⟩
    · skip
      refine j_iconst (v := 1) dX6_more_46 (by decide) ?_
      refine j_goto (tgt := 51) dX6_more_47 (by decide) ?_
      exact j_iret _ dX6_more_51 (List.Perm.refl _) ⟨by simp [tbh, ev, bI, *], by rfl⟩
  by_cases s1_4 : a = 4
  · refine j_tabC (4) 2 s1_4 (by decide) dX6_more_1 rfl (by decide : (1 : Int) + 51 = ((52 : Nat) : Int)) ?_
    refine j_iload_n 2 dX6_more_52 rfl rfl ?_
    refine j_iconst (v := 2) dX6_more_53 (by decide) ?_
    refine j_irem dX6_more_54 (by decide) ?_
    refine j_if_ne (tgt := 62) dX6_more_55 (by decide) (fun h55 => ?_) (fun h55 => ?_)
    · skip
      refine j_iconst (v := 0) dX6_more_62 (by decide) ?_
      refine j_iload_n 3 dX6_more_63 rfl rfl ?_
      refine j_ifb_eq (b := b) (tgt := 71) dX6_more_64 (by decide) (fun h64 => ?_) (fun h64 => ?_)
      · skip
        refine j_iconst (v := bI false) dX6_more_71 (by decide) ?_
        refine j_iadd dX6_more_72 ?_
        exact j_iret _ dX6_more_73 (List.Perm.refl _) ⟨by simp [tbh, ev, bI, *], by rfl⟩
      · skip
        refine j_iconst (v := bI true) dX6_more_67 (by decide) ?_
        refine j_goto (tgt := 72) dX6_more_68 (by decide) ?_
        refine j_iadd dX6_more_72 ?_
        exact j_iret _ dX6_more_73 (List.Perm.refl _) ⟨by simp [tbh, ev, bI, *], by rfl⟩
    · skip
      refine j_iconst (v := 1) dX6_more_58 (by decide) ?_
      refine j_goto (tgt := 63) dX6_more_59 (by decide) ?_
      refine j_iload_n 3 dX6_more_63 rfl rfl ?_
      refine j_ifb_eq (b := b) (tgt := 71) dX6_more_64 (by decide) (fun h64 => ?_) (fun h64 => ?_)
      · skip
        refine j_iconst (v := bI false) dX6_more_71 (by decide) ?_
        refine j_iadd dX6_more_72 ?_
        exact j_iret _ dX6_more_73 (List.Perm.refl _) ⟨by simp [tbh, ev, bI, *], by rfl⟩
      · skip
        refine j_iconst (v := bI true) dX6_more_67 (by decide) ?_
        refine j_goto (tgt := 72) dX6_more_68 (by decide) ?_
        refine j_iadd dX6_more_72 ?_
        exact j_iret _ dX6_more_73 (List.Perm.refl _) ⟨by simp [tbh, ev, bI, *], by rfl⟩
  refine j_tabD dX6_more_1 (fun j hj => match j, hj with | 0, _ => Or.inr (lv_neT s1_2 (by decide)) | 1, _ => Or.inr (lv_neT s1_3 (by decide)) | 2, _ => Or.inr (lv_neT s1_4 (by decide)) | j + 3, hj => absurd hj (by omega)) (by decide : (1 : Int) + 73 = ((74 : Nat) : Int)) ?_
  refine j_iconst (v := 1) dX6_more_74 (by decide) ?_
  exact j_iret _ dX6_more_75 (List.Perm.refl _) ⟨by simp [tbh, ev, bI, *], by rfl⟩
set_option maxHeartbeats 4000000 in
set_option maxRecDepth 100000 in
theorem tX6_isLodger (l : Launch) (x : Cx) (q : Nat → Nat) (kf tf : Nat → Int32) (sl : Nat → Bool) (bf : Nat → Int32) (n : Nat) (d h : Int32) (v : SS) (g : PG) (pw : Bool × Nat) (kp : KS) (o : OS) (hn : n ≤ 5) (a : Int32) : MC l x 1 0 0 yX6_isLodger cX6_isLodger 2 (some .boolean) [.ref (q 0), .int a] (mb x q (kf, tf, sl, bf, n, d, h) v g pw kp o) (eI (bI (kn n a)) (mb x q (kf, tf, sl, bf, n, d, h) v g pw kp o)) := by
  refine MC.of (by decide) (Nat.le_of_ble_eq_true rfl) eB_fit (fun M => ?_)
  show J M l x cX6_isLodger 2 yX6_isLodger 1 (eI (bI (kn n a)) (mb x q (kf, tf, sl, bf, n, d, h) v g pw kp o)) 0 0 0 [(0, .ref (q 0)), (1, .int a)] [] (mb x q (kf, tf, sl, bf, n, d, h) v g pw kp o)
  refine j_iload_n 1 dX6_isLodger_0 rfl rfl ?_
  refine j_iconst (v := 0) dX6_isLodger_1 (by decide) ?_
  refine j_aload_n 0 dX6_isLodger_2 rfl rfl ?_
  refine j_get (v := .int (nI n)) 0 dX6_isLodger_3 fX6_77 rfl rfl ?_
  refine j_iconst (v := 1) dX6_isLodger_6 (by decide) ?_
  refine j_isub dX6_isLodger_7 ?_
  refine j_cSi (As := [.int a, .int 0, .int ((nI n) - 1)]) (rest := []) (wr := mb x q (kf, tf, sl, bf, n, d, h) v g pw kp o) (ws' := mb x q (kf, tf, sl, bf, n, d, h) v g pw kp o) (tX6_within l x a 0 ((nI n) - 1)) kX6_within sX6_51 dX6_isLodger_8 (by decide) rfl rfl (Nat.le_of_ble_eq_true rfl) (List.Perm.refl _) rfl ?_
  refine j_topi (b := bI (kn n a)) (congrArg bI (kn_isW (by omega) a)) ?_
  exact j_iret _ dX6_isLodger_11 (List.Perm.refl _) ⟨by rfl, by rfl⟩
set_option maxHeartbeats 4000000 in
set_option maxRecDepth 100000 in
theorem lp_whose {M : Mx} (l : Launch) (x : Cx) (q : Nat → Nat) (kf tf : Nat → Int32) (sl : Nat → Bool) (bf : Nat → Int32) (n : Nat) (d h : Int32) (v : SS) (g : PG) (pw : Bool × Nat) (kp : KS) (o : OS) (hn : n ≤ 5) (hw10 : ∀ i, i < n → sl i = false → tf i < 10) {k0 n0 : Nat}  : ∀ (m : Nat) (i : Nat), i ≤ n → n - i < m → J M l x cX6_whose 4 yX6_whose 0 (eI (oI (wb kf tf sl n)) (mb x q (kf, tf, sl, bf, n, d, h) v g pw kp o)) k0 n0 4 [(0, .ref (q 0)), (1, .int (oI (wb kf tf sl i))), (2, .int (nI i))] [] (mb x q (kf, tf, sl, bf, n, d, h) v g pw kp o) := by
  intro m; induction m with
  | zero => intro i hc0 hm; exact absurd hm (Nat.not_lt_zero _)
  | succ m ih =>
    intro i hc0 hm
    refine j_iload_n 2 dX6_whose_4 rfl rfl ?_
    refine j_aload_n 0 dX6_whose_5 rfl rfl ?_
    refine j_get (v := .int (nI n)) 0 dX6_whose_6 fX6_77 rfl rfl ?_
    refine j_icmpN_ge (a := i) (b := n) (by omega) (by omega) (tgt := 73) dX6_whose_9 (by decide) (fun h9 => ?_) (fun h9 => ?_)
    · skip
      refine j_iload_n 1 dX6_whose_73 rfl rfl ?_
      exact j_iret _ dX6_whose_74 (List.Perm.refl _) ⟨by rw [show i = n by omega], by rfl⟩
    · skip
      refine j_aload_n 0 dX6_whose_12 rfl rfl ?_
      refine j_get (v := .ref (q 3)) 0 dX6_whose_13 fX6_16 rfl rfl ?_
      refine j_iload_n 2 dX6_whose_16 rfl rfl ?_
      refine j_zaldB (i := i) (f := sl) 3 dX6_whose_17 rfl (by omega) (by decide) ?_
      refine j_ifb_ne (b := sl i) (tgt := 35) dX6_whose_18 (by decide) (fun h18 => ?_) (fun h18 => ?_)
      · skip
        have hm : may kf sl i = false := by simp [may, h18]
        refine j_iconst (v := bI false) dX6_whose_35 (by decide) ?_
        refine j_istore_n (lv' := [(3, .int (bI false)), (0, .ref (q 0)), (1, .int (oI (wb kf tf sl i))), (2, .int (nI i))]) dX6_whose_36 rfl (by decide) rfl ?_
        refine j_iload_n 0 dX6_whose_37 rfl rfl ?_
        refine j_ifb_eq (b := false) (tgt := 65) dX6_whose_38 (by decide) (fun h38 => ?_) (fun h38 => absurd h38 (by decide))
        refine j_iload_n 2 dX6_whose_65 rfl rfl ?_
        refine j_istore_n (lv' := [(1, .int (oI (wb kf tf sl i))), (3, .int (bI false)), (0, .ref (q 0)), (2, .int (nI i))]) dX6_whose_66 rfl (by decide) rfl ?_
        refine j_iinc (v := nI (i + 1)) (lv' := [(2, .int (nI (i + 1))), (1, .int (oI (wb kf tf sl i))), (3, .int (bI false)), (0, .ref (q 0))]) 3 dX6_whose_67 rfl (nI_1 i) (by decide) rfl ?_
        refine j_goto (tgt := 4) dX6_whose_70 (by decide) ?_
        refine j_lv [3, 1, 0] (lv' := [(0, .ref (q 0)), (1, .int (oI (wb kf tf sl i))), (2, .int (nI (i + 1)))]) rfl ?_
        refine j_lve (lv' := [(0, .ref (q 0)), (1, .int (oI (wb kf tf sl (i + 1)))), (2, .int (nI (i + 1)))]) (by first | (rw [wb_f hm]; done) | (rw [wb_n hm hz (hw10 i (by omega) (may_sl hm))]; rfl) | (rw [wb_l hm hj h58]; rfl) | (rw [wb_g hm hj h58]; rfl)) ?_
        exact ih (i + 1) (by omega) (by omega)
      · skip
        refine j_aload_n 0 dX6_whose_21 rfl rfl ?_
        refine j_get (v := .ref (q 1)) 0 dX6_whose_22 fX6_7 rfl rfl ?_
        refine j_iload_n 2 dX6_whose_25 rfl rfl ?_
        refine j_ialdN (i := i) (f := kf) 1 dX6_whose_26 rfl (by omega) (by decide) ?_
        refine j_iconst (v := 1) dX6_whose_27 (by decide) ?_
        refine j_icmp_eq (tgt := 35) dX6_whose_28 (by decide) (fun h28 => ?_) (fun h28 => ?_)
        · skip
          have hm : may kf sl i = false := by simp [may, h18, h28]
          refine j_iconst (v := bI false) dX6_whose_35 (by decide) ?_
          refine j_istore_n (lv' := [(3, .int (bI false)), (0, .ref (q 0)), (1, .int (oI (wb kf tf sl i))), (2, .int (nI i))]) dX6_whose_36 rfl (by decide) rfl ?_
          refine j_iload_n 0 dX6_whose_37 rfl rfl ?_
          refine j_ifb_eq (b := false) (tgt := 65) dX6_whose_38 (by decide) (fun h38 => ?_) (fun h38 => absurd h38 (by decide))
          refine j_iload_n 2 dX6_whose_65 rfl rfl ?_
          refine j_istore_n (lv' := [(1, .int (oI (wb kf tf sl i))), (3, .int (bI false)), (0, .ref (q 0)), (2, .int (nI i))]) dX6_whose_66 rfl (by decide) rfl ?_
          refine j_iinc (v := nI (i + 1)) (lv' := [(2, .int (nI (i + 1))), (1, .int (oI (wb kf tf sl i))), (3, .int (bI false)), (0, .ref (q 0))]) 3 dX6_whose_67 rfl (nI_1 i) (by decide) rfl ?_
          refine j_goto (tgt := 4) dX6_whose_70 (by decide) ?_
          refine j_lv [3, 1, 0] (lv' := [(0, .ref (q 0)), (1, .int (oI (wb kf tf sl i))), (2, .int (nI (i + 1)))]) rfl ?_
          refine j_lve (lv' := [(0, .ref (q 0)), (1, .int (oI (wb kf tf sl (i + 1)))), (2, .int (nI (i + 1)))]) (by first | (rw [wb_f hm]; done) | (rw [wb_n hm hz (hw10 i (by omega) (may_sl hm))]; rfl) | (rw [wb_l hm hj h58]; rfl) | (rw [wb_g hm hj h58]; rfl)) ?_
          exact ih (i + 1) (by omega) (by omega)
        · skip
          have hm : may kf sl i = true := by simp [may, h18, h28]
          refine j_iconst (v := bI true) dX6_whose_31 (by decide) ?_
          refine j_goto (tgt := 36) dX6_whose_32 (by decide) ?_
          refine j_istore_n (lv' := [(3, .int (bI true)), (0, .ref (q 0)), (1, .int (oI (wb kf tf sl i))), (2, .int (nI i))]) dX6_whose_36 rfl (by decide) rfl ?_
          refine j_iload_n 0 dX6_whose_37 rfl rfl ?_
          refine j_ifb_eq (b := true) (tgt := 65) dX6_whose_38 (by decide) (fun h38 => absurd h38 (by decide)) (fun h38 => ?_)
          refine j_iload_n 2 dX6_whose_41 rfl rfl ?_
          refine j_iconst (v := (-1)) dX6_whose_42 (by decide) ?_
          refine j_icmp_eq (tgt := 61) dX6_whose_43 (by decide) (fun h43 => ?_) (fun h43 => ?_)
          · skip
            have hz : wb kf tf sl i = none := (oI_m1 (fun j e => by have := wb_lt e; omega)).mp h43
            refine j_iload_n 3 dX6_whose_61 rfl rfl ?_
            refine j_goto (tgt := 66) dX6_whose_62 (by decide) ?_
            refine j_istore_n (lv' := [(1, .int (nI i)), (3, .int (bI true)), (0, .ref (q 0)), (2, .int (nI i))]) dX6_whose_66 rfl (by decide) rfl ?_
            refine j_iinc (v := nI (i + 1)) (lv' := [(2, .int (nI (i + 1))), (1, .int (nI i)), (3, .int (bI true)), (0, .ref (q 0))]) 3 dX6_whose_67 rfl (nI_1 i) (by decide) rfl ?_
            refine j_goto (tgt := 4) dX6_whose_70 (by decide) ?_
            refine j_lv [3, 1, 0] (lv' := [(0, .ref (q 0)), (1, .int (nI i)), (2, .int (nI (i + 1)))]) rfl ?_
            refine j_lve (lv' := [(0, .ref (q 0)), (1, .int (oI (wb kf tf sl (i + 1)))), (2, .int (nI (i + 1)))]) (by first | (rw [wb_f hm]; done) | (rw [wb_n hm hz (hw10 i (by omega) (may_sl hm))]; rfl) | (rw [wb_l hm hj h58]; rfl) | (rw [wb_g hm hj h58]; rfl)) ?_
            exact ih (i + 1) (by omega) (by omega)
          · skip
            obtain ⟨j, hj⟩ : ∃ j, wb kf tf sl i = some j := by
              cases e : wb kf tf sl i with
              | none => rw [e] at h43; exact absurd rfl h43
              | some j => exact ⟨j, rfl⟩
            have hjl := wb_lt hj
            refine j_lve (lv' := [(3, .int (bI true)), (0, .ref (q 0)), (1, .int (nI j)), (2, .int (nI i))]) (by rw [hj]; rfl) ?_
            refine j_aload_n 1 dX6_whose_46 rfl rfl ?_
            refine j_get (v := .ref (q 2)) 0 dX6_whose_47 fX6_13 rfl rfl ?_
            refine j_iload_n 3 dX6_whose_50 rfl rfl ?_
            refine j_ialdN (i := i) (f := tf) 2 dX6_whose_51 rfl (by omega) (by decide) ?_
            refine j_aload_n 1 dX6_whose_52 rfl rfl ?_
            refine j_get (v := .ref (q 2)) 0 dX6_whose_53 fX6_13 rfl rfl ?_
            refine j_iload_n 2 dX6_whose_56 rfl rfl ?_
            refine j_ialdN (i := j) (f := tf) 2 dX6_whose_57 rfl (by omega) (by decide) ?_
            refine j_icmp_ge (tgt := 65) dX6_whose_58 (by decide) (fun h58 => ?_) (fun h58 => ?_)
            · skip
              refine j_iload_n 2 dX6_whose_65 rfl rfl ?_
              refine j_istore_n (lv' := [(1, .int (nI j)), (3, .int (bI true)), (0, .ref (q 0)), (2, .int (nI i))]) dX6_whose_66 rfl (by decide) rfl ?_
              refine j_iinc (v := nI (i + 1)) (lv' := [(2, .int (nI (i + 1))), (1, .int (nI j)), (3, .int (bI true)), (0, .ref (q 0))]) 3 dX6_whose_67 rfl (nI_1 i) (by decide) rfl ?_
              refine j_goto (tgt := 4) dX6_whose_70 (by decide) ?_
              refine j_lv [3, 1, 0] (lv' := [(0, .ref (q 0)), (1, .int (nI j)), (2, .int (nI (i + 1)))]) rfl ?_
              refine j_lve (lv' := [(0, .ref (q 0)), (1, .int (oI (wb kf tf sl (i + 1)))), (2, .int (nI (i + 1)))]) (by first | (rw [wb_f hm]; done) | (rw [wb_n hm hz (hw10 i (by omega) (may_sl hm))]; rfl) | (rw [wb_l hm hj h58]; rfl) | (rw [wb_g hm hj h58]; rfl)) ?_
              exact ih (i + 1) (by omega) (by omega)
            · skip
              refine j_iload_n 3 dX6_whose_61 rfl rfl ?_
              refine j_goto (tgt := 66) dX6_whose_62 (by decide) ?_
              refine j_istore_n (lv' := [(1, .int (nI i)), (3, .int (bI true)), (0, .ref (q 0)), (2, .int (nI i))]) dX6_whose_66 rfl (by decide) rfl ?_
              refine j_iinc (v := nI (i + 1)) (lv' := [(2, .int (nI (i + 1))), (1, .int (nI i)), (3, .int (bI true)), (0, .ref (q 0))]) 3 dX6_whose_67 rfl (nI_1 i) (by decide) rfl ?_
              refine j_goto (tgt := 4) dX6_whose_70 (by decide) ?_
              refine j_lv [3, 1, 0] (lv' := [(0, .ref (q 0)), (1, .int (nI i)), (2, .int (nI (i + 1)))]) rfl ?_
              refine j_lve (lv' := [(0, .ref (q 0)), (1, .int (oI (wb kf tf sl (i + 1)))), (2, .int (nI (i + 1)))]) (by first | (rw [wb_f hm]; done) | (rw [wb_n hm hz (hw10 i (by omega) (may_sl hm))]; rfl) | (rw [wb_l hm hj h58]; rfl) | (rw [wb_g hm hj h58]; rfl)) ?_
              exact ih (i + 1) (by omega) (by omega)
set_option maxHeartbeats 4000000 in
set_option maxRecDepth 100000 in
theorem tX6_whose (l : Launch) (x : Cx) (q : Nat → Nat) (kf tf : Nat → Int32) (sl : Nat → Bool) (bf : Nat → Int32) (n : Nat) (d h : Int32) (v : SS) (g : PG) (pw : Bool × Nat) (kp : KS) (o : OS) (hn : n ≤ 5) (hw10 : ∀ i, i < n → sl i = false → tf i < 10) : MC l x 0 0 0 yX6_whose cX6_whose 4 (some .int) [.ref (q 0)] (mb x q (kf, tf, sl, bf, n, d, h) v g pw kp o) (eI (oI (wb kf tf sl n)) (mb x q (kf, tf, sl, bf, n, d, h) v g pw kp o)) := by
  refine MC.of (by decide) (Nat.le_of_ble_eq_true rfl) eI_fit (fun M => ?_)
  show J M l x cX6_whose 4 yX6_whose 0 (eI (oI (wb kf tf sl n)) (mb x q (kf, tf, sl, bf, n, d, h) v g pw kp o)) 0 0 0 [(0, .ref (q 0))] [] (mb x q (kf, tf, sl, bf, n, d, h) v g pw kp o)
  refine j_iconst (v := (-1)) dX6_whose_0 (by decide) ?_
  refine j_istore_n (lv' := [(1, .int (-1)), (0, .ref (q 0))]) dX6_whose_1 rfl (by decide) rfl ?_
  refine j_iconst (v := nI 0) dX6_whose_2 (by decide) ?_
  refine j_istore_n (lv' := [(2, .int (nI 0)), (1, .int (-1)), (0, .ref (q 0))]) dX6_whose_3 rfl (by decide) rfl ?_
  refine j_lv [2, 1, 0] (lv' := [(0, .ref (q 0)), (1, .int (-1)), (2, .int (nI 0))]) rfl ?_
  exact lp_whose l x q kf tf sl bf n d h v g pw kp o hn hw10 (n + 1) 0 (by omega) (by omega)
set_option maxHeartbeats 4000000 in
set_option maxRecDepth 100000 in
theorem lp_sleeping {M : Mx} (l : Launch) (x : Cx) (q : Nat → Nat) (kf tf : Nat → Int32) (sl : Nat → Bool) (bf : Nat → Int32) (n : Nat) (d h : Int32) (v : SS) (g : PG) (pw : Bool × Nat) (kp : KS) (o : OS) (hn : n ≤ 5) {k0 n0 : Nat}  : ∀ (m : Nat) (i : Nat), i ≤ n → n - i < m → J M l x cX6_sleeping 3 yX6_sleeping 0 (eI (nI (cntS sl n)) (mb x q (kf, tf, sl, bf, n, d, h) v g pw kp o)) k0 n0 4 [(0, .ref (q 0)), (1, .int (nI (cntS sl i))), (2, .int (nI i))] [] (mb x q (kf, tf, sl, bf, n, d, h) v g pw kp o) := by
  intro m; induction m with
  | zero => intro i hc0 hm; exact absurd hm (Nat.not_lt_zero _)
  | succ m ih =>
    intro i hc0 hm
    refine j_iload_n 2 dX6_sleeping_4 rfl rfl ?_
    refine j_aload_n 0 dX6_sleeping_5 rfl rfl ?_
    refine j_get (v := .int (nI n)) 0 dX6_sleeping_6 fX6_77 rfl rfl ?_
    refine j_icmpN_ge (a := i) (b := n) (by omega) (by omega) (tgt := 35) dX6_sleeping_9 (by decide) (fun h9 => ?_) (fun h9 => ?_)
    · skip
      refine j_iload_n 1 dX6_sleeping_35 rfl rfl ?_
      exact j_iret _ dX6_sleeping_36 (List.Perm.refl _) ⟨by rw [show i = n by omega], by rfl⟩
    · skip
      refine j_iload_n 1 dX6_sleeping_12 rfl rfl ?_
      refine j_aload_n 0 dX6_sleeping_13 rfl rfl ?_
      refine j_get (v := .ref (q 3)) 0 dX6_sleeping_14 fX6_16 rfl rfl ?_
      refine j_iload_n 2 dX6_sleeping_17 rfl rfl ?_
      refine j_zaldB (i := i) (f := sl) 3 dX6_sleeping_18 rfl (by omega) (by decide) ?_
      refine j_ifb_eq (b := sl i) (tgt := 26) dX6_sleeping_19 (by decide) (fun h19 => ?_) (fun h19 => ?_)
      · skip
        refine j_iconst (v := 0) dX6_sleeping_26 (by decide) ?_
        refine j_iadd dX6_sleeping_27 ?_
        refine j_topi (b := nI (cntS sl (i + 1))) (by simp [cntS, h19, nI_add, nI_1]; try rfl) ?_
        refine j_istore_n (lv' := [(1, .int (nI (cntS sl (i + 1)))), (0, .ref (q 0)), (2, .int (nI i))]) dX6_sleeping_28 rfl (by decide) rfl ?_
        refine j_iinc (v := nI (i + 1)) (lv' := [(2, .int (nI (i + 1))), (1, .int (nI (cntS sl (i + 1)))), (0, .ref (q 0))]) 2 dX6_sleeping_29 rfl (nI_1 i) (by decide) rfl ?_
        refine j_goto (tgt := 4) dX6_sleeping_32 (by decide) ?_
        refine j_lv [2, 1, 0] (lv' := [(0, .ref (q 0)), (1, .int (nI (cntS sl (i + 1)))), (2, .int (nI (i + 1)))]) rfl ?_
        exact ih (i + 1) (by omega) (by omega)
      · skip
        refine j_iconst (v := 1) dX6_sleeping_22 (by decide) ?_
        refine j_goto (tgt := 27) dX6_sleeping_23 (by decide) ?_
        refine j_iadd dX6_sleeping_27 ?_
        refine j_topi (b := nI (cntS sl (i + 1))) (by simp [cntS, h19, nI_add, nI_1]; try rfl) ?_
        refine j_istore_n (lv' := [(1, .int (nI (cntS sl (i + 1)))), (0, .ref (q 0)), (2, .int (nI i))]) dX6_sleeping_28 rfl (by decide) rfl ?_
        refine j_iinc (v := nI (i + 1)) (lv' := [(2, .int (nI (i + 1))), (1, .int (nI (cntS sl (i + 1)))), (0, .ref (q 0))]) 2 dX6_sleeping_29 rfl (nI_1 i) (by decide) rfl ?_
        refine j_goto (tgt := 4) dX6_sleeping_32 (by decide) ?_
        refine j_lv [2, 1, 0] (lv' := [(0, .ref (q 0)), (1, .int (nI (cntS sl (i + 1)))), (2, .int (nI (i + 1)))]) rfl ?_
        exact ih (i + 1) (by omega) (by omega)
set_option maxHeartbeats 4000000 in
set_option maxRecDepth 100000 in
theorem tX6_sleeping (l : Launch) (x : Cx) (q : Nat → Nat) (kf tf : Nat → Int32) (sl : Nat → Bool) (bf : Nat → Int32) (n : Nat) (d h : Int32) (v : SS) (g : PG) (pw : Bool × Nat) (kp : KS) (o : OS) (hn : n ≤ 5) : MC l x 0 0 0 yX6_sleeping cX6_sleeping 3 (some .int) [.ref (q 0)] (mb x q (kf, tf, sl, bf, n, d, h) v g pw kp o) (eI (nI (cntS sl n)) (mb x q (kf, tf, sl, bf, n, d, h) v g pw kp o)) := by
  refine MC.of (by decide) (Nat.le_of_ble_eq_true rfl) eI_fit (fun M => ?_)
  show J M l x cX6_sleeping 3 yX6_sleeping 0 (eI (nI (cntS sl n)) (mb x q (kf, tf, sl, bf, n, d, h) v g pw kp o)) 0 0 0 [(0, .ref (q 0))] [] (mb x q (kf, tf, sl, bf, n, d, h) v g pw kp o)
  refine j_iconst (v := nI 0) dX6_sleeping_0 (by decide) ?_
  refine j_istore_n (lv' := [(1, .int (nI 0)), (0, .ref (q 0))]) dX6_sleeping_1 rfl (by decide) rfl ?_
  refine j_iconst (v := nI 0) dX6_sleeping_2 (by decide) ?_
  refine j_istore_n (lv' := [(2, .int (nI 0)), (1, .int (nI 0)), (0, .ref (q 0))]) dX6_sleeping_3 rfl (by decide) rfl ?_
  refine j_lv [2, 1, 0] (lv' := [(0, .ref (q 0)), (1, .int (nI 0)), (2, .int (nI 0))]) rfl ?_
  exact lp_sleeping l x q kf tf sl bf n d h v g pw kp o hn (n + 1) 0 (by omega) (by omega)
set_option maxHeartbeats 4000000 in
set_option maxRecDepth 100000 in
theorem lp_tiredAll {M : Mx} (l : Launch) (x : Cx) (q : Nat → Nat) (kf tf : Nat → Int32) (sl : Nat → Bool) (bf : Nat → Int32) (n : Nat) (d h : Int32) (v : SS) (g : PG) (pw : Bool × Nat) (kp : KS) (o : OS) (hn : n ≤ 5) {k0 n0 : Nat}  : ∀ (m : Nat) (i : Nat), i ≤ n → n - i < m → J M l x cX6_tiredAll 3 yX6_tiredAll 0 (eI (sumT tf n) (mb x q (kf, tf, sl, bf, n, d, h) v g pw kp o)) k0 n0 4 [(0, .ref (q 0)), (1, .int (sumT tf i)), (2, .int (nI i))] [] (mb x q (kf, tf, sl, bf, n, d, h) v g pw kp o) := by
  intro m; induction m with
  | zero => intro i hc0 hm; exact absurd hm (Nat.not_lt_zero _)
  | succ m ih =>
    intro i hc0 hm
    refine j_iload_n 2 dX6_tiredAll_4 rfl rfl ?_
    refine j_aload_n 0 dX6_tiredAll_5 rfl rfl ?_
    refine j_get (v := .int (nI n)) 0 dX6_tiredAll_6 fX6_77 rfl rfl ?_
    refine j_icmpN_ge (a := i) (b := n) (by omega) (by omega) (tgt := 27) dX6_tiredAll_9 (by decide) (fun h9 => ?_) (fun h9 => ?_)
    · skip
      refine j_iload_n 1 dX6_tiredAll_27 rfl rfl ?_
      exact j_iret _ dX6_tiredAll_28 (List.Perm.refl _) ⟨by rw [show i = n by omega], by rfl⟩
    · skip
      refine j_iload_n 1 dX6_tiredAll_12 rfl rfl ?_
      refine j_aload_n 0 dX6_tiredAll_13 rfl rfl ?_
      refine j_get (v := .ref (q 2)) 0 dX6_tiredAll_14 fX6_13 rfl rfl ?_
      refine j_iload_n 2 dX6_tiredAll_17 rfl rfl ?_
      refine j_ialdN (i := i) (f := tf) 2 dX6_tiredAll_18 rfl (by omega) (by decide) ?_
      refine j_iadd dX6_tiredAll_19 ?_
      refine j_istore_n (lv' := [(1, .int ((sumT tf i) + (tf i))), (0, .ref (q 0)), (2, .int (nI i))]) dX6_tiredAll_20 rfl (by decide) rfl ?_
      refine j_iinc (v := nI (i + 1)) (lv' := [(2, .int (nI (i + 1))), (1, .int ((sumT tf i) + (tf i))), (0, .ref (q 0))]) 2 dX6_tiredAll_21 rfl (nI_1 i) (by decide) rfl ?_
      refine j_goto (tgt := 4) dX6_tiredAll_24 (by decide) ?_
      refine j_lv [2, 1, 0] (lv' := [(0, .ref (q 0)), (1, .int ((sumT tf i) + (tf i))), (2, .int (nI (i + 1)))]) rfl ?_
      exact ih (i + 1) (by omega) (by omega)
set_option maxHeartbeats 4000000 in
set_option maxRecDepth 100000 in
theorem tX6_tiredAll (l : Launch) (x : Cx) (q : Nat → Nat) (kf tf : Nat → Int32) (sl : Nat → Bool) (bf : Nat → Int32) (n : Nat) (d h : Int32) (v : SS) (g : PG) (pw : Bool × Nat) (kp : KS) (o : OS) (hn : n ≤ 5) : MC l x 0 0 0 yX6_tiredAll cX6_tiredAll 3 (some .int) [.ref (q 0)] (mb x q (kf, tf, sl, bf, n, d, h) v g pw kp o) (eI (sumT tf n) (mb x q (kf, tf, sl, bf, n, d, h) v g pw kp o)) := by
  refine MC.of (by decide) (Nat.le_of_ble_eq_true rfl) eI_fit (fun M => ?_)
  show J M l x cX6_tiredAll 3 yX6_tiredAll 0 (eI (sumT tf n) (mb x q (kf, tf, sl, bf, n, d, h) v g pw kp o)) 0 0 0 [(0, .ref (q 0))] [] (mb x q (kf, tf, sl, bf, n, d, h) v g pw kp o)
  refine j_iconst (v := 0) dX6_tiredAll_0 (by decide) ?_
  refine j_istore_n (lv' := [(1, .int 0), (0, .ref (q 0))]) dX6_tiredAll_1 rfl (by decide) rfl ?_
  refine j_iconst (v := nI 0) dX6_tiredAll_2 (by decide) ?_
  refine j_istore_n (lv' := [(2, .int (nI 0)), (1, .int 0), (0, .ref (q 0))]) dX6_tiredAll_3 rfl (by decide) rfl ?_
  refine j_lv [2, 1, 0] (lv' := [(0, .ref (q 0)), (1, .int 0), (2, .int (nI 0))]) rfl ?_
  exact lp_tiredAll l x q kf tf sl bf n d h v g pw kp o hn (n + 1) 0 (by omega) (by omega)
set_option maxHeartbeats 4000000 in
set_option maxRecDepth 100000 in
theorem tX6_drink (l : Launch) (x : Cx) (q : Nat → Nat) (kf tf : Nat → Int32) (sl : Nat → Bool) (bf : Nat → Int32) (n : Nat) (d h : Int32) (v : SS) (g : PG) (pw : Bool × Nat) (kp : KS) (o : OS) (hn : n ≤ 5) (j : Nat) (hj : j < n) (k : Nat) (hk : k ≤ 10) (ht : tf j = nI k) : MC l x 0 0 0 yX6_drink cX6_drink 2 none [.ref (q 0), .int (nI j)] (mb x q (kf, tf, sl, bf, n, d, h) v g pw kp o) (eV (mb x q (cof (kf, tf, sl, bf, n, d, h) j) v g pw kp o)) := by
  refine MC.of (by decide) (Nat.le_of_ble_eq_true rfl) eV_fit (fun M => ?_)
  show J M l x cX6_drink 2 yX6_drink 0 (eV (mb x q (cof (kf, tf, sl, bf, n, d, h) j) v g pw kp o)) 0 0 0 [(0, .ref (q 0)), (1, .int (nI j))] [] (mb x q (kf, tf, sl, bf, n, d, h) v g pw kp o)
  have e1 : ∀ k, k < 11 → (if nI k < 3 then 0 else nI k - 3) = cT (nI k) := by decide +kernel
  have e2 := e1 k (by omega)
  rw [← ht] at e2
  refine j_aload_n 0 dX6_drink_0 rfl rfl ?_
  refine j_get (v := .ref (q 3)) 0 dX6_drink_1 fX6_16 rfl rfl ?_
  refine j_iload_n 1 dX6_drink_4 rfl rfl ?_
  refine j_zaldB (i := j) (f := sl) 3 dX6_drink_5 rfl (by omega) (by decide) ?_
  refine j_ifb_ne (b := sl j) (tgt := 37) dX6_drink_6 (by decide) (fun h6 => ?_) (fun h6 => ?_)
  · skip
    exact j_vret _ dX6_drink_37 (List.Perm.refl _) ⟨rfl, by (simp only [cof, h6, if_pos rfl, Bool.false_eq_true, if_false, if_true]; first | done | (rw [← e2, if_pos (lt_of_nle h21)]; done) | (rw [← e2, if_neg (nlt_of_le h21)]; done))⟩
  · skip
    refine j_aload_n 0 dX6_drink_9 rfl rfl ?_
    refine j_get (v := .ref (q 2)) 0 dX6_drink_10 fX6_13 rfl rfl ?_
    refine j_iload_n 1 dX6_drink_13 rfl rfl ?_
    refine j_aload_n 0 dX6_drink_14 rfl rfl ?_
    refine j_get (v := .ref (q 2)) 0 dX6_drink_15 fX6_13 rfl rfl ?_
    refine j_iload_n 1 dX6_drink_18 rfl rfl ?_
    refine j_ialdN (i := j) (f := tf) 2 dX6_drink_19 rfl (by omega) (by decide) ?_
    refine j_iconst (v := 3) dX6_drink_20 (by decide) ?_
    refine j_icmp_ge (tgt := 28) dX6_drink_21 (by decide) (fun h21 => ?_) (fun h21 => ?_)
    · skip
      refine j_aload_n 0 dX6_drink_28 rfl rfl ?_
      refine j_get (v := .ref (q 2)) 0 dX6_drink_29 fX6_13 rfl rfl ?_
      refine j_iload_n 1 dX6_drink_32 rfl rfl ?_
      refine j_ialdN (i := j) (f := tf) 2 dX6_drink_33 rfl (by omega) (by decide) ?_
      refine j_iconst (v := 3) dX6_drink_34 (by decide) ?_
      refine j_isub dX6_drink_35 ?_
      refine j_iastN (i := j) (f := tf) (ws' := mb x q (kf, upd tf j ((tf j) - 3), sl, bf, n, d, h) v g pw kp o) 2 dX6_drink_36 rfl (by omega) (by decide) rfl ?_
      exact j_vret _ dX6_drink_37 (List.Perm.refl _) ⟨rfl, by (simp only [cof, h6, if_pos rfl, Bool.false_eq_true, if_false, if_true]; first | done | (rw [← e2, if_pos (lt_of_nle h21)]; done) | (rw [← e2, if_neg (nlt_of_le h21)]; done))⟩
    · skip
      refine j_iconst (v := 0) dX6_drink_24 (by decide) ?_
      refine j_goto (tgt := 36) dX6_drink_25 (by decide) ?_
      refine j_iastN (i := j) (f := tf) (ws' := mb x q (kf, upd tf j 0, sl, bf, n, d, h) v g pw kp o) 2 dX6_drink_36 rfl (by omega) (by decide) rfl ?_
      exact j_vret _ dX6_drink_37 (List.Perm.refl _) ⟨rfl, by (simp only [cof, h6, if_pos rfl, Bool.false_eq_true, if_false, if_true]; first | done | (rw [← e2, if_pos (lt_of_nle h21)]; done) | (rw [← e2, if_neg (nlt_of_le h21)]; done))⟩
set_option maxHeartbeats 4000000 in
set_option maxRecDepth 100000 in
theorem tX6_hearLecture (l : Launch) (x : Cx) (q : Nat → Nat) (kf tf : Nat → Int32) (sl : Nat → Bool) (bf : Nat → Int32) (n : Nat) (d h : Int32) (v : SS) (g : PG) (pw : Bool × Nat) (kp : KS) (o : OS) (hn : n ≤ 5) (j : Nat) (hj : j < n) (k : Nat) (hk : k ≤ 10) (ht : tf j = nI k) : MC l x 0 0 0 yX6_hearLecture cX6_hearLecture 2 none [.ref (q 0), .int (nI j)] (mb x q (kf, tf, sl, bf, n, d, h) v g pw kp o) (eV (mb x q (lec (kf, tf, sl, bf, n, d, h) (some j)) v g pw kp o)) := by
  refine MC.of (by decide) (Nat.le_of_ble_eq_true rfl) eV_fit (fun M => ?_)
  show J M l x cX6_hearLecture 2 yX6_hearLecture 0 (eV (mb x q (lec (kf, tf, sl, bf, n, d, h) (some j)) v g pw kp o)) 0 0 0 [(0, .ref (q 0)), (1, .int (nI j))] [] (mb x q (kf, tf, sl, bf, n, d, h) v g pw kp o)
  have e1 : ∀ k, k < 11 → (if nI k + 2 ≤ 10 then nI k + 2 else 10) = stT (nI k + 2) ∧ decide ((if nI k + 2 ≤ 10 then nI k + 2 else 10) = (10 : Int32)) = stS (nI k + 2) false := by decide +kernel
  have e2 := e1 k (by omega)
  rw [← ht] at e2
  refine j_aload_n 0 dX6_hearLecture_0 rfl rfl ?_
  refine j_get (v := .ref (q 3)) 0 dX6_hearLecture_1 fX6_16 rfl rfl ?_
  refine j_iload_n 1 dX6_hearLecture_4 rfl rfl ?_
  refine j_zaldB (i := j) (f := sl) 3 dX6_hearLecture_5 rfl (by omega) (by decide) ?_
  refine j_ifb_ne (b := sl j) (tgt := 63) dX6_hearLecture_6 (by decide) (fun h6 => ?_) (fun h6 => ?_)
  · skip
    exact j_vret _ dX6_hearLecture_63 (List.Perm.refl _) ⟨rfl, by (simp only [lec, h6, if_true, Bool.false_eq_true, if_false]; first | done | (rw [upd_self] at h54; rw [← e2.1, ← e2.2, if_pos h24, show decide (tf j + 2 = 10) = true from decide_eq_true h54]; done) | (rw [upd_self] at h54; rw [← e2.1, ← e2.2, if_pos h24, show decide (tf j + 2 = 10) = false from decide_eq_false h54]; done) | (rw [upd_self] at h54; rw [← e2.1, ← e2.2, if_neg h24]; rfl) | (rw [upd_self] at h54; exact absurd rfl h54))⟩
  · skip
    refine j_aload_n 0 dX6_hearLecture_9 rfl rfl ?_
    refine j_get (v := .ref (q 2)) 0 dX6_hearLecture_10 fX6_13 rfl rfl ?_
    refine j_iload_n 1 dX6_hearLecture_13 rfl rfl ?_
    refine j_aload_n 0 dX6_hearLecture_14 rfl rfl ?_
    refine j_get (v := .ref (q 2)) 0 dX6_hearLecture_15 fX6_13 rfl rfl ?_
    refine j_iload_n 1 dX6_hearLecture_18 rfl rfl ?_
    refine j_ialdN (i := j) (f := tf) 2 dX6_hearLecture_19 rfl (by omega) (by decide) ?_
    refine j_iconst (v := 2) dX6_hearLecture_20 (by decide) ?_
    refine j_iadd dX6_hearLecture_21 ?_
    refine j_bipush (v := 10) dX6_hearLecture_22 (by decide) ?_
    refine j_icmp_le (tgt := 32) dX6_hearLecture_24 (by decide) (fun h24 => ?_) (fun h24 => ?_)
    · skip
      refine j_aload_n 0 dX6_hearLecture_32 rfl rfl ?_
      refine j_get (v := .ref (q 2)) 0 dX6_hearLecture_33 fX6_13 rfl rfl ?_
      refine j_iload_n 1 dX6_hearLecture_36 rfl rfl ?_
      refine j_ialdN (i := j) (f := tf) 2 dX6_hearLecture_37 rfl (by omega) (by decide) ?_
      refine j_iconst (v := 2) dX6_hearLecture_38 (by decide) ?_
      refine j_iadd dX6_hearLecture_39 ?_
      refine j_iastN (i := j) (f := tf) (ws' := mb x q (kf, upd tf j ((tf j) + 2), sl, bf, n, d, h) v g pw kp o) 2 dX6_hearLecture_40 rfl (by omega) (by decide) rfl ?_
      refine j_aload_n 0 dX6_hearLecture_41 rfl rfl ?_
      refine j_get (v := .ref (q 3)) 0 dX6_hearLecture_42 fX6_16 rfl rfl ?_
      refine j_iload_n 1 dX6_hearLecture_45 rfl rfl ?_
      refine j_aload_n 0 dX6_hearLecture_46 rfl rfl ?_
      refine j_get (v := .ref (q 2)) 0 dX6_hearLecture_47 fX6_13 rfl rfl ?_
      refine j_iload_n 1 dX6_hearLecture_50 rfl rfl ?_
      refine j_ialdN (i := j) (f := upd tf j ((tf j) + 2)) 2 dX6_hearLecture_51 rfl (by omega) (by decide) ?_
      refine j_bipush (v := 10) dX6_hearLecture_52 (by decide) ?_
      refine j_icmp_ne (tgt := 61) dX6_hearLecture_54 (by decide) (fun h54 => ?_) (fun h54 => ?_)
      · skip
        refine j_iconst (v := bI false) dX6_hearLecture_61 (by decide) ?_
        refine j_zastB (i := j) (f := sl) (ws' := mb x q (kf, upd tf j ((tf j) + 2), bup sl j false, bf, n, d, h) v g pw kp o) 3 false dX6_hearLecture_62 rfl (by omega) (by decide) rfl ?_
        exact j_vret _ dX6_hearLecture_63 (List.Perm.refl _) ⟨rfl, by (simp only [lec, h6, if_true, Bool.false_eq_true, if_false]; first | done | (rw [upd_self] at h54; rw [← e2.1, ← e2.2, if_pos h24, show decide (tf j + 2 = 10) = true from decide_eq_true h54]; done) | (rw [upd_self] at h54; rw [← e2.1, ← e2.2, if_pos h24, show decide (tf j + 2 = 10) = false from decide_eq_false h54]; done) | (rw [upd_self] at h54; rw [← e2.1, ← e2.2, if_neg h24]; rfl) | (rw [upd_self] at h54; exact absurd rfl h54))⟩
      · skip
        refine j_iconst (v := bI true) dX6_hearLecture_57 (by decide) ?_
        refine j_goto (tgt := 62) dX6_hearLecture_58 (by decide) ?_
        refine j_zastB (i := j) (f := sl) (ws' := mb x q (kf, upd tf j ((tf j) + 2), bup sl j true, bf, n, d, h) v g pw kp o) 3 true dX6_hearLecture_62 rfl (by omega) (by decide) rfl ?_
        exact j_vret _ dX6_hearLecture_63 (List.Perm.refl _) ⟨rfl, by (simp only [lec, h6, if_true, Bool.false_eq_true, if_false]; first | done | (rw [upd_self] at h54; rw [← e2.1, ← e2.2, if_pos h24, show decide (tf j + 2 = 10) = true from decide_eq_true h54]; done) | (rw [upd_self] at h54; rw [← e2.1, ← e2.2, if_pos h24, show decide (tf j + 2 = 10) = false from decide_eq_false h54]; done) | (rw [upd_self] at h54; rw [← e2.1, ← e2.2, if_neg h24]; rfl) | (rw [upd_self] at h54; exact absurd rfl h54))⟩
    · skip
      refine j_bipush (v := 10) dX6_hearLecture_27 (by decide) ?_
      refine j_goto (tgt := 40) dX6_hearLecture_29 (by decide) ?_
      refine j_iastN (i := j) (f := tf) (ws' := mb x q (kf, upd tf j 10, sl, bf, n, d, h) v g pw kp o) 2 dX6_hearLecture_40 rfl (by omega) (by decide) rfl ?_
      refine j_aload_n 0 dX6_hearLecture_41 rfl rfl ?_
      refine j_get (v := .ref (q 3)) 0 dX6_hearLecture_42 fX6_16 rfl rfl ?_
      refine j_iload_n 1 dX6_hearLecture_45 rfl rfl ?_
      refine j_aload_n 0 dX6_hearLecture_46 rfl rfl ?_
      refine j_get (v := .ref (q 2)) 0 dX6_hearLecture_47 fX6_13 rfl rfl ?_
      refine j_iload_n 1 dX6_hearLecture_50 rfl rfl ?_
      refine j_ialdN (i := j) (f := upd tf j 10) 2 dX6_hearLecture_51 rfl (by omega) (by decide) ?_
      refine j_bipush (v := 10) dX6_hearLecture_52 (by decide) ?_
      refine j_icmp_ne (tgt := 61) dX6_hearLecture_54 (by decide) (fun h54 => ?_) (fun h54 => ?_)
      · skip
        refine j_iconst (v := bI false) dX6_hearLecture_61 (by decide) ?_
        refine j_zastB (i := j) (f := sl) (ws' := mb x q (kf, upd tf j 10, bup sl j false, bf, n, d, h) v g pw kp o) 3 false dX6_hearLecture_62 rfl (by omega) (by decide) rfl ?_
        exact j_vret _ dX6_hearLecture_63 (List.Perm.refl _) ⟨rfl, by (simp only [lec, h6, if_true, Bool.false_eq_true, if_false]; first | done | (rw [upd_self] at h54; rw [← e2.1, ← e2.2, if_pos h24, show decide (tf j + 2 = 10) = true from decide_eq_true h54]; done) | (rw [upd_self] at h54; rw [← e2.1, ← e2.2, if_pos h24, show decide (tf j + 2 = 10) = false from decide_eq_false h54]; done) | (rw [upd_self] at h54; rw [← e2.1, ← e2.2, if_neg h24]; rfl) | (rw [upd_self] at h54; exact absurd rfl h54))⟩
      · skip
        refine j_iconst (v := bI true) dX6_hearLecture_57 (by decide) ?_
        refine j_goto (tgt := 62) dX6_hearLecture_58 (by decide) ?_
        refine j_zastB (i := j) (f := sl) (ws' := mb x q (kf, upd tf j 10, bup sl j true, bf, n, d, h) v g pw kp o) 3 true dX6_hearLecture_62 rfl (by omega) (by decide) rfl ?_
        exact j_vret _ dX6_hearLecture_63 (List.Perm.refl _) ⟨rfl, by (simp only [lec, h6, if_true, Bool.false_eq_true, if_false]; first | done | (rw [upd_self] at h54; rw [← e2.1, ← e2.2, if_pos h24, show decide (tf j + 2 = 10) = true from decide_eq_true h54]; done) | (rw [upd_self] at h54; rw [← e2.1, ← e2.2, if_pos h24, show decide (tf j + 2 = 10) = false from decide_eq_false h54]; done) | (rw [upd_self] at h54; rw [← e2.1, ← e2.2, if_neg h24]; rfl) | (rw [upd_self] at h54; exact absurd rfl h54))⟩
set_option maxHeartbeats 4000000 in
set_option maxRecDepth 100000 in
theorem lp_goHour {M : Mx} (l : Launch) (x : Cx) (q : Nat → Nat) (kf tf1 : Nat → Int32) (sl : Nat → Bool) (bf : Nat → Int32) (n : Nat) (d h' : Int32) (w : Option Nat) (hn : n ≤ 5) (ho : ∀ j, w = some j → j < n) (hk : ∀ i, i < n → ∃ k, k ≤ 14 ∧ tf1 i = nI k) (v : SS) (g : PG) (pw : Bool × Nat) (kp : KS) (o : OS) {k0 n0 : Nat}  : ∀ (m : Nat) (i : Nat), i ≤ n → n - i < m → J M l x cX6_goHour 4 yX6_goHour 1 (eV (mb x q (kf, mix n (pT kf tf1 sl h' w) tf1, mix n (pS kf tf1 sl h' w) sl, bf, n, d, h') v g pw kp o)) k0 n0 45 [(0, .ref (q 0)), (1, .int (oI w)), (2, .int (nI i))] [] (mb x q (kf, mix i (pT kf tf1 sl h' w) tf1, mix i (pS kf tf1 sl h' w) sl, bf, n, d, h') v g pw kp o) := by
  intro m; induction m with
  | zero => intro i hc0 hm; exact absurd hm (Nat.not_lt_zero _)
  | succ m ih =>
    intro i hc0 hm
    refine j_iload_n 2 dX6_goHour_45 rfl rfl ?_
    refine j_aload_n 0 dX6_goHour_46 rfl rfl ?_
    refine j_get (v := .int (nI n)) 0 dX6_goHour_47 fX6_77 rfl rfl ?_
    refine j_icmpN_ge (a := i) (b := n) (by omega) (by omega) (tgt := 167) dX6_goHour_50 (by decide) (fun h50 => ?_) (fun h50 => ?_)
    · skip
      exact j_vret _ dX6_goHour_167 (List.Perm.refl _) ⟨rfl, by rw [show i = n by omega]⟩
    · skip
      obtain ⟨k1, hk1b, hk1⟩ := hk i h50
      refine j_aload_n 0 dX6_goHour_53 rfl rfl ?_
      refine j_get (v := .ref (q 2)) 0 dX6_goHour_54 fX6_13 rfl rfl ?_
      refine j_iload_n 2 dX6_goHour_57 rfl rfl ?_
      refine j_ialdN (i := i) (f := mix i (pT kf tf1 sl h' w) tf1) 2 dX6_goHour_58 rfl (by omega) (by decide) ?_
      refine j_topi (b := tf1 i) mix_self ?_
      refine j_istore_n (lv' := [(3, .int (tf1 i)), (0, .ref (q 0)), (1, .int (oI w)), (2, .int (nI i))]) dX6_goHour_59 rfl (by decide) rfl ?_
      refine j_aload_n 1 dX6_goHour_60 rfl rfl ?_
      refine j_get (v := .ref (q 3)) 0 dX6_goHour_61 fX6_16 rfl rfl ?_
      refine j_iload_n 3 dX6_goHour_64 rfl rfl ?_
      refine j_zaldB (i := i) (f := mix i (pS kf tf1 sl h' w) sl) 3 dX6_goHour_65 rfl (by omega) (by decide) ?_
      refine j_topi (b := bI (sl i)) (congrArg bI mix_self) ?_
      refine j_ifb_eq (b := sl i) (tgt := 75) dX6_goHour_66 (by decide) (fun h66 => ?_) (fun h66 => ?_)
      · skip
        refine j_iload_n 0 dX6_goHour_75 rfl rfl ?_
        refine j_aload_n 1 dX6_goHour_76 rfl rfl ?_
        refine j_get (v := .ref (q 1)) 0 dX6_goHour_77 fX6_7 rfl rfl ?_
        refine j_iload_n 3 dX6_goHour_80 rfl rfl ?_
        refine j_ialdN (i := i) (f := kf) 1 dX6_goHour_81 rfl (by omega) (by decide) ?_
        refine j_iload_n 0 dX6_goHour_82 rfl rfl ?_
        refine j_aload_n 1 dX6_goHour_83 rfl rfl ?_
        refine j_get (v := .int h') 0 dX6_goHour_84 fX6_86 rfl rfl ?_
        refine j_iload_n 3 dX6_goHour_87 rfl rfl ?_
        refine j_iload_n 2 dX6_goHour_88 rfl rfl ?_
        refine j_icmp_ne (tgt := 96) dX6_goHour_89 (by decide) (fun h89 => ?_) (fun h89 => ?_)
        · skip
          have eo : (w == some i) = false := by
            have : ¬ w = some i := fun e => h89 ((oI_eq (by omega) (fun j e => by have := ho j e; omega)).mpr e)
            simp [this]
          have hv : pT kf tf1 sl h' w i = mT (tf1 i + tbh (kf i) (tf1 i) h' false) ∧ pS kf tf1 sl h' w i = mS (mT (tf1 i + tbh (kf i) (tf1 i) h' false)) false := by
            obtain ⟨e, he, ee⟩ := tbh_nat (kf i) (tf1 i) h' false
            rw [pT, pS, pX, if_neg (by rw [h66]; decide), h66, eo, ee, hk1, nI_add]; exact mT_w _ (by omega)
          refine j_iconst (v := bI false) dX6_goHour_96 (by decide) ?_
          refine j_cSi (As := [.int (kf i), .int (tf1 i), .int h', .int (bI false)]) (rest := [.int (tf1 i)]) (wr := mb x q (kf, mix i (pT kf tf1 sl h' w) tf1, mix i (pS kf tf1 sl h' w) sl, bf, n, d, h') v g pw kp o) (ws' := mb x q (kf, mix i (pT kf tf1 sl h' w) tf1, mix i (pS kf tf1 sl h' w) sl, bf, n, d, h') v g pw kp o) (tX6_more l x (kf i) (tf1 i) h' false) kX6_more sX6_95 dX6_goHour_97 (by decide) rfl rfl (Nat.le_of_ble_eq_true rfl) (List.Perm.refl _) rfl ?_
          refine j_iadd dX6_goHour_100 ?_
          refine j_istore_n (lv' := [(3, .int ((tf1 i) + (tbh (kf i) (tf1 i) h' false))), (0, .ref (q 0)), (1, .int (oI w)), (2, .int (nI i))]) dX6_goHour_101 rfl (by decide) rfl ?_
          refine j_iload_n 0 dX6_goHour_102 rfl rfl ?_
          refine j_if_ge (tgt := 110) dX6_goHour_103 (by decide) (fun h103 => ?_) (fun h103 => ?_)
          · skip
            refine j_iload_n 0 dX6_goHour_110 rfl rfl ?_
            refine j_bipush (v := 10) dX6_goHour_111 (by decide) ?_
            refine j_icmp_le (tgt := 121) dX6_goHour_113 (by decide) (fun h113 => ?_) (fun h113 => ?_)
            · skip
              refine j_iload_n 0 dX6_goHour_121 rfl rfl ?_
              refine j_istore_n (lv' := [(3, .int ((tf1 i) + (tbh (kf i) (tf1 i) h' false))), (0, .ref (q 0)), (1, .int (oI w)), (2, .int (nI i))]) dX6_goHour_122 rfl (by decide) rfl ?_
              refine j_aload_n 1 dX6_goHour_123 rfl rfl ?_
              refine j_get (v := .ref (q 2)) 0 dX6_goHour_124 fX6_13 rfl rfl ?_
              refine j_iload_n 3 dX6_goHour_127 rfl rfl ?_
              refine j_iload_n 0 dX6_goHour_128 rfl rfl ?_
              refine j_iastN (i := i) (f := mix i (pT kf tf1 sl h' w) tf1) (ws' := mb x q (kf, upd (mix i (pT kf tf1 sl h' w) tf1) i ((tf1 i) + (tbh (kf i) (tf1 i) h' false)), mix i (pS kf tf1 sl h' w) sl, bf, n, d, h') v g pw kp o) 2 dX6_goHour_129 rfl (by omega) (by decide) rfl ?_
              refine j_aload_n 1 dX6_goHour_130 rfl rfl ?_
              refine j_get (v := .ref (q 3)) 0 dX6_goHour_131 fX6_16 rfl rfl ?_
              refine j_iload_n 3 dX6_goHour_134 rfl rfl ?_
              refine j_iload_n 0 dX6_goHour_135 rfl rfl ?_
              refine j_bipush (v := 10) dX6_goHour_136 (by decide) ?_
              refine j_icmp_eq (tgt := 155) dX6_goHour_138 (by decide) (fun h138 => ?_) (fun h138 => ?_)
              · skip
                refine j_iconst (v := bI true) dX6_goHour_155 (by decide) ?_
                refine j_goto (tgt := 160) dX6_goHour_156 (by decide) ?_
                refine j_zastB (i := i) (f := mix i (pS kf tf1 sl h' w) sl) (ws' := mb x q (kf, upd (mix i (pT kf tf1 sl h' w) tf1) i ((tf1 i) + (tbh (kf i) (tf1 i) h' false)), bup (mix i (pS kf tf1 sl h' w) sl) i true, bf, n, d, h') v g pw kp o) 3 true dX6_goHour_160 rfl (by omega) (by decide) rfl ?_
                refine j_iinc (v := nI (i + 1)) (lv' := [(2, .int (nI (i + 1))), (3, .int ((tf1 i) + (tbh (kf i) (tf1 i) h' false))), (0, .ref (q 0)), (1, .int (oI w))]) 3 dX6_goHour_161 rfl (nI_1 i) (by decide) rfl ?_
                refine j_goto (tgt := 45) dX6_goHour_164 (by decide) ?_
                refine j_lv [2, 3, 0] (lv' := [(0, .ref (q 0)), (1, .int (oI w)), (2, .int (nI (i + 1)))]) rfl ?_
                have v1 : ((tf1 i) + (tbh (kf i) (tf1 i) h' false)) = pT kf tf1 sl h' w i := by rw [hv.1]; simp only [mT]; first | (rw [if_pos (lt_of_nle h103)]; done) | (rw [if_neg (nlt_of_le h103), if_neg (nlt_of_le h113)]; done) | (rw [if_neg (nlt_of_le h103), if_pos (lt_of_nle h113)]; done)
                have v2 : true = pS kf tf1 sl h' w i := by rw [hv.2, ← hv.1, ← v1]; first | (simp [mS, h138]; done) | (simp [mS, h138, nlt_of_le h152]; done) | (simp [mS, h138, lt_of_nle h152]; done) | (simp [mS]; done) | (exact absurd rfl h138) | (rw [h147] at h66; cases h66)
                refine j_ws (ws' := mb x q (kf, mix (i + 1) (pT kf tf1 sl h' w) tf1, mix (i + 1) (pS kf tf1 sl h' w) sl, bf, n, d, h') v g pw kp o) (by rw [mix_upd _ _ _ v1, mix_bup _ _ _ v2]) ?_
                exact ih (i + 1) (by omega) (by omega)
              · skip
                refine j_aload_n 1 dX6_goHour_141 rfl rfl ?_
                refine j_get (v := .ref (q 3)) 0 dX6_goHour_142 fX6_16 rfl rfl ?_
                refine j_iload_n 3 dX6_goHour_145 rfl rfl ?_
                refine j_zaldB (i := i) (f := mix i (pS kf tf1 sl h' w) sl) 3 dX6_goHour_146 rfl (by omega) (by decide) ?_
                refine j_topi (b := bI (sl i)) (congrArg bI mix_self) ?_
                refine j_ifb_eq (b := sl i) (tgt := 159) dX6_goHour_147 (by decide) (fun h147 => ?_) (fun h147 => ?_)
                · skip
                  refine j_iconst (v := bI false) dX6_goHour_159 (by decide) ?_
                  refine j_zastB (i := i) (f := mix i (pS kf tf1 sl h' w) sl) (ws' := mb x q (kf, upd (mix i (pT kf tf1 sl h' w) tf1) i ((tf1 i) + (tbh (kf i) (tf1 i) h' false)), bup (mix i (pS kf tf1 sl h' w) sl) i false, bf, n, d, h') v g pw kp o) 3 false dX6_goHour_160 rfl (by omega) (by decide) rfl ?_
                  refine j_iinc (v := nI (i + 1)) (lv' := [(2, .int (nI (i + 1))), (3, .int ((tf1 i) + (tbh (kf i) (tf1 i) h' false))), (0, .ref (q 0)), (1, .int (oI w))]) 3 dX6_goHour_161 rfl (nI_1 i) (by decide) rfl ?_
                  refine j_goto (tgt := 45) dX6_goHour_164 (by decide) ?_
                  refine j_lv [2, 3, 0] (lv' := [(0, .ref (q 0)), (1, .int (oI w)), (2, .int (nI (i + 1)))]) rfl ?_
                  have v1 : ((tf1 i) + (tbh (kf i) (tf1 i) h' false)) = pT kf tf1 sl h' w i := by rw [hv.1]; simp only [mT]; first | (rw [if_pos (lt_of_nle h103)]; done) | (rw [if_neg (nlt_of_le h103), if_neg (nlt_of_le h113)]; done) | (rw [if_neg (nlt_of_le h103), if_pos (lt_of_nle h113)]; done)
                  have v2 : false = pS kf tf1 sl h' w i := by rw [hv.2, ← hv.1, ← v1]; first | (simp [mS, h138]; done) | (simp [mS, h138, nlt_of_le h152]; done) | (simp [mS, h138, lt_of_nle h152]; done) | (simp [mS]; done) | (exact absurd rfl h138) | (rw [h147] at h66; cases h66)
                  refine j_ws (ws' := mb x q (kf, mix (i + 1) (pT kf tf1 sl h' w) tf1, mix (i + 1) (pS kf tf1 sl h' w) sl, bf, n, d, h') v g pw kp o) (by rw [mix_upd _ _ _ v1, mix_bup _ _ _ v2]) ?_
                  exact ih (i + 1) (by omega) (by omega)
                · skip
                  refine j_iload_n 0 dX6_goHour_150 rfl rfl ?_
                  refine j_iconst (v := 2) dX6_goHour_151 (by decide) ?_
                  refine j_icmp_le (tgt := 159) dX6_goHour_152 (by decide) (fun h152 => ?_) (fun h152 => ?_)
                  · skip
                    refine j_iconst (v := bI false) dX6_goHour_159 (by decide) ?_
                    refine j_zastB (i := i) (f := mix i (pS kf tf1 sl h' w) sl) (ws' := mb x q (kf, upd (mix i (pT kf tf1 sl h' w) tf1) i ((tf1 i) + (tbh (kf i) (tf1 i) h' false)), bup (mix i (pS kf tf1 sl h' w) sl) i false, bf, n, d, h') v g pw kp o) 3 false dX6_goHour_160 rfl (by omega) (by decide) rfl ?_
                    refine j_iinc (v := nI (i + 1)) (lv' := [(2, .int (nI (i + 1))), (3, .int ((tf1 i) + (tbh (kf i) (tf1 i) h' false))), (0, .ref (q 0)), (1, .int (oI w))]) 3 dX6_goHour_161 rfl (nI_1 i) (by decide) rfl ?_
                    refine j_goto (tgt := 45) dX6_goHour_164 (by decide) ?_
                    refine j_lv [2, 3, 0] (lv' := [(0, .ref (q 0)), (1, .int (oI w)), (2, .int (nI (i + 1)))]) rfl ?_
                    have v1 : ((tf1 i) + (tbh (kf i) (tf1 i) h' false)) = pT kf tf1 sl h' w i := by rw [hv.1]; simp only [mT]; first | (rw [if_pos (lt_of_nle h103)]; done) | (rw [if_neg (nlt_of_le h103), if_neg (nlt_of_le h113)]; done) | (rw [if_neg (nlt_of_le h103), if_pos (lt_of_nle h113)]; done)
                    have v2 : false = pS kf tf1 sl h' w i := by rw [hv.2, ← hv.1, ← v1]; first | (simp [mS, h138]; done) | (simp [mS, h138, nlt_of_le h152]; done) | (simp [mS, h138, lt_of_nle h152]; done) | (simp [mS]; done) | (exact absurd rfl h138) | (rw [h147] at h66; cases h66)
                    refine j_ws (ws' := mb x q (kf, mix (i + 1) (pT kf tf1 sl h' w) tf1, mix (i + 1) (pS kf tf1 sl h' w) sl, bf, n, d, h') v g pw kp o) (by rw [mix_upd _ _ _ v1, mix_bup _ _ _ v2]) ?_
                    exact ih (i + 1) (by omega) (by omega)
                  · skip
                    refine j_iconst (v := bI true) dX6_goHour_155 (by decide) ?_
                    refine j_goto (tgt := 160) dX6_goHour_156 (by decide) ?_
                    refine j_zastB (i := i) (f := mix i (pS kf tf1 sl h' w) sl) (ws' := mb x q (kf, upd (mix i (pT kf tf1 sl h' w) tf1) i ((tf1 i) + (tbh (kf i) (tf1 i) h' false)), bup (mix i (pS kf tf1 sl h' w) sl) i true, bf, n, d, h') v g pw kp o) 3 true dX6_goHour_160 rfl (by omega) (by decide) rfl ?_
                    refine j_iinc (v := nI (i + 1)) (lv' := [(2, .int (nI (i + 1))), (3, .int ((tf1 i) + (tbh (kf i) (tf1 i) h' false))), (0, .ref (q 0)), (1, .int (oI w))]) 3 dX6_goHour_161 rfl (nI_1 i) (by decide) rfl ?_
                    refine j_goto (tgt := 45) dX6_goHour_164 (by decide) ?_
                    refine j_lv [2, 3, 0] (lv' := [(0, .ref (q 0)), (1, .int (oI w)), (2, .int (nI (i + 1)))]) rfl ?_
                    have v1 : ((tf1 i) + (tbh (kf i) (tf1 i) h' false)) = pT kf tf1 sl h' w i := by rw [hv.1]; simp only [mT]; first | (rw [if_pos (lt_of_nle h103)]; done) | (rw [if_neg (nlt_of_le h103), if_neg (nlt_of_le h113)]; done) | (rw [if_neg (nlt_of_le h103), if_pos (lt_of_nle h113)]; done)
                    have v2 : true = pS kf tf1 sl h' w i := by rw [hv.2, ← hv.1, ← v1]; first | (simp [mS, h138]; done) | (simp [mS, h138, nlt_of_le h152]; done) | (simp [mS, h138, lt_of_nle h152]; done) | (simp [mS]; done) | (exact absurd rfl h138) | (rw [h147] at h66; cases h66)
                    refine j_ws (ws' := mb x q (kf, mix (i + 1) (pT kf tf1 sl h' w) tf1, mix (i + 1) (pS kf tf1 sl h' w) sl, bf, n, d, h') v g pw kp o) (by rw [mix_upd _ _ _ v1, mix_bup _ _ _ v2]) ?_
                    exact ih (i + 1) (by omega) (by omega)
            · skip
              refine j_bipush (v := 10) dX6_goHour_116 (by decide) ?_
              refine j_goto (tgt := 122) dX6_goHour_118 (by decide) ?_
              refine j_istore_n (lv' := [(3, .int 10), (0, .ref (q 0)), (1, .int (oI w)), (2, .int (nI i))]) dX6_goHour_122 rfl (by decide) rfl ?_
              refine j_aload_n 1 dX6_goHour_123 rfl rfl ?_
              refine j_get (v := .ref (q 2)) 0 dX6_goHour_124 fX6_13 rfl rfl ?_
              refine j_iload_n 3 dX6_goHour_127 rfl rfl ?_
              refine j_iload_n 0 dX6_goHour_128 rfl rfl ?_
              refine j_iastN (i := i) (f := mix i (pT kf tf1 sl h' w) tf1) (ws' := mb x q (kf, upd (mix i (pT kf tf1 sl h' w) tf1) i 10, mix i (pS kf tf1 sl h' w) sl, bf, n, d, h') v g pw kp o) 2 dX6_goHour_129 rfl (by omega) (by decide) rfl ?_
              refine j_aload_n 1 dX6_goHour_130 rfl rfl ?_
              refine j_get (v := .ref (q 3)) 0 dX6_goHour_131 fX6_16 rfl rfl ?_
              refine j_iload_n 3 dX6_goHour_134 rfl rfl ?_
              refine j_iload_n 0 dX6_goHour_135 rfl rfl ?_
              refine j_bipush (v := 10) dX6_goHour_136 (by decide) ?_
              refine j_icmp_eq (tgt := 155) dX6_goHour_138 (by decide) (fun h138 => ?_) (fun h138 => ?_)
              · skip
                refine j_iconst (v := bI true) dX6_goHour_155 (by decide) ?_
                refine j_goto (tgt := 160) dX6_goHour_156 (by decide) ?_
                refine j_zastB (i := i) (f := mix i (pS kf tf1 sl h' w) sl) (ws' := mb x q (kf, upd (mix i (pT kf tf1 sl h' w) tf1) i 10, bup (mix i (pS kf tf1 sl h' w) sl) i true, bf, n, d, h') v g pw kp o) 3 true dX6_goHour_160 rfl (by omega) (by decide) rfl ?_
                refine j_iinc (v := nI (i + 1)) (lv' := [(2, .int (nI (i + 1))), (3, .int 10), (0, .ref (q 0)), (1, .int (oI w))]) 3 dX6_goHour_161 rfl (nI_1 i) (by decide) rfl ?_
                refine j_goto (tgt := 45) dX6_goHour_164 (by decide) ?_
                refine j_lv [2, 3, 0] (lv' := [(0, .ref (q 0)), (1, .int (oI w)), (2, .int (nI (i + 1)))]) rfl ?_
                have v1 : 10 = pT kf tf1 sl h' w i := by rw [hv.1]; simp only [mT]; first | (rw [if_pos (lt_of_nle h103)]; done) | (rw [if_neg (nlt_of_le h103), if_neg (nlt_of_le h113)]; done) | (rw [if_neg (nlt_of_le h103), if_pos (lt_of_nle h113)]; done)
                have v2 : true = pS kf tf1 sl h' w i := by rw [hv.2, ← hv.1, ← v1]; first | (simp [mS, h138]; done) | (simp [mS, h138, nlt_of_le h152]; done) | (simp [mS, h138, lt_of_nle h152]; done) | (simp [mS]; done) | (exact absurd rfl h138) | (rw [h147] at h66; cases h66)
                refine j_ws (ws' := mb x q (kf, mix (i + 1) (pT kf tf1 sl h' w) tf1, mix (i + 1) (pS kf tf1 sl h' w) sl, bf, n, d, h') v g pw kp o) (by rw [mix_upd _ _ _ v1, mix_bup _ _ _ v2]) ?_
                exact ih (i + 1) (by omega) (by omega)
              · skip
                refine j_aload_n 1 dX6_goHour_141 rfl rfl ?_
                refine j_get (v := .ref (q 3)) 0 dX6_goHour_142 fX6_16 rfl rfl ?_
                refine j_iload_n 3 dX6_goHour_145 rfl rfl ?_
                refine j_zaldB (i := i) (f := mix i (pS kf tf1 sl h' w) sl) 3 dX6_goHour_146 rfl (by omega) (by decide) ?_
                refine j_topi (b := bI (sl i)) (congrArg bI mix_self) ?_
                refine j_ifb_eq (b := sl i) (tgt := 159) dX6_goHour_147 (by decide) (fun h147 => ?_) (fun h147 => ?_)
                · skip
                  refine j_iconst (v := bI false) dX6_goHour_159 (by decide) ?_
                  refine j_zastB (i := i) (f := mix i (pS kf tf1 sl h' w) sl) (ws' := mb x q (kf, upd (mix i (pT kf tf1 sl h' w) tf1) i 10, bup (mix i (pS kf tf1 sl h' w) sl) i false, bf, n, d, h') v g pw kp o) 3 false dX6_goHour_160 rfl (by omega) (by decide) rfl ?_
                  refine j_iinc (v := nI (i + 1)) (lv' := [(2, .int (nI (i + 1))), (3, .int 10), (0, .ref (q 0)), (1, .int (oI w))]) 3 dX6_goHour_161 rfl (nI_1 i) (by decide) rfl ?_
                  refine j_goto (tgt := 45) dX6_goHour_164 (by decide) ?_
                  refine j_lv [2, 3, 0] (lv' := [(0, .ref (q 0)), (1, .int (oI w)), (2, .int (nI (i + 1)))]) rfl ?_
                  have v1 : 10 = pT kf tf1 sl h' w i := by rw [hv.1]; simp only [mT]; first | (rw [if_pos (lt_of_nle h103)]; done) | (rw [if_neg (nlt_of_le h103), if_neg (nlt_of_le h113)]; done) | (rw [if_neg (nlt_of_le h103), if_pos (lt_of_nle h113)]; done)
                  have v2 : false = pS kf tf1 sl h' w i := by rw [hv.2, ← hv.1, ← v1]; first | (simp [mS, h138]; done) | (simp [mS, h138, nlt_of_le h152]; done) | (simp [mS, h138, lt_of_nle h152]; done) | (simp [mS]; done) | (exact absurd rfl h138) | (rw [h147] at h66; cases h66)
                  refine j_ws (ws' := mb x q (kf, mix (i + 1) (pT kf tf1 sl h' w) tf1, mix (i + 1) (pS kf tf1 sl h' w) sl, bf, n, d, h') v g pw kp o) (by rw [mix_upd _ _ _ v1, mix_bup _ _ _ v2]) ?_
                  exact ih (i + 1) (by omega) (by omega)
                · skip
                  refine j_iload_n 0 dX6_goHour_150 rfl rfl ?_
                  refine j_iconst (v := 2) dX6_goHour_151 (by decide) ?_
                  refine j_icmp_le (tgt := 159) dX6_goHour_152 (by decide) (fun h152 => ?_) (fun h152 => ?_)
                  · skip
                    refine j_iconst (v := bI false) dX6_goHour_159 (by decide) ?_
                    refine j_zastB (i := i) (f := mix i (pS kf tf1 sl h' w) sl) (ws' := mb x q (kf, upd (mix i (pT kf tf1 sl h' w) tf1) i 10, bup (mix i (pS kf tf1 sl h' w) sl) i false, bf, n, d, h') v g pw kp o) 3 false dX6_goHour_160 rfl (by omega) (by decide) rfl ?_
                    refine j_iinc (v := nI (i + 1)) (lv' := [(2, .int (nI (i + 1))), (3, .int 10), (0, .ref (q 0)), (1, .int (oI w))]) 3 dX6_goHour_161 rfl (nI_1 i) (by decide) rfl ?_
                    refine j_goto (tgt := 45) dX6_goHour_164 (by decide) ?_
                    refine j_lv [2, 3, 0] (lv' := [(0, .ref (q 0)), (1, .int (oI w)), (2, .int (nI (i + 1)))]) rfl ?_
                    have v1 : 10 = pT kf tf1 sl h' w i := by rw [hv.1]; simp only [mT]; first | (rw [if_pos (lt_of_nle h103)]; done) | (rw [if_neg (nlt_of_le h103), if_neg (nlt_of_le h113)]; done) | (rw [if_neg (nlt_of_le h103), if_pos (lt_of_nle h113)]; done)
                    have v2 : false = pS kf tf1 sl h' w i := by rw [hv.2, ← hv.1, ← v1]; first | (simp [mS, h138]; done) | (simp [mS, h138, nlt_of_le h152]; done) | (simp [mS, h138, lt_of_nle h152]; done) | (simp [mS]; done) | (exact absurd rfl h138) | (rw [h147] at h66; cases h66)
                    refine j_ws (ws' := mb x q (kf, mix (i + 1) (pT kf tf1 sl h' w) tf1, mix (i + 1) (pS kf tf1 sl h' w) sl, bf, n, d, h') v g pw kp o) (by rw [mix_upd _ _ _ v1, mix_bup _ _ _ v2]) ?_
                    exact ih (i + 1) (by omega) (by omega)
                  · skip
                    refine j_iconst (v := bI true) dX6_goHour_155 (by decide) ?_
                    refine j_goto (tgt := 160) dX6_goHour_156 (by decide) ?_
                    refine j_zastB (i := i) (f := mix i (pS kf tf1 sl h' w) sl) (ws' := mb x q (kf, upd (mix i (pT kf tf1 sl h' w) tf1) i 10, bup (mix i (pS kf tf1 sl h' w) sl) i true, bf, n, d, h') v g pw kp o) 3 true dX6_goHour_160 rfl (by omega) (by decide) rfl ?_
                    refine j_iinc (v := nI (i + 1)) (lv' := [(2, .int (nI (i + 1))), (3, .int 10), (0, .ref (q 0)), (1, .int (oI w))]) 3 dX6_goHour_161 rfl (nI_1 i) (by decide) rfl ?_
                    refine j_goto (tgt := 45) dX6_goHour_164 (by decide) ?_
                    refine j_lv [2, 3, 0] (lv' := [(0, .ref (q 0)), (1, .int (oI w)), (2, .int (nI (i + 1)))]) rfl ?_
                    have v1 : 10 = pT kf tf1 sl h' w i := by rw [hv.1]; simp only [mT]; first | (rw [if_pos (lt_of_nle h103)]; done) | (rw [if_neg (nlt_of_le h103), if_neg (nlt_of_le h113)]; done) | (rw [if_neg (nlt_of_le h103), if_pos (lt_of_nle h113)]; done)
                    have v2 : true = pS kf tf1 sl h' w i := by rw [hv.2, ← hv.1, ← v1]; first | (simp [mS, h138]; done) | (simp [mS, h138, nlt_of_le h152]; done) | (simp [mS, h138, lt_of_nle h152]; done) | (simp [mS]; done) | (exact absurd rfl h138) | (rw [h147] at h66; cases h66)
                    refine j_ws (ws' := mb x q (kf, mix (i + 1) (pT kf tf1 sl h' w) tf1, mix (i + 1) (pS kf tf1 sl h' w) sl, bf, n, d, h') v g pw kp o) (by rw [mix_upd _ _ _ v1, mix_bup _ _ _ v2]) ?_
                    exact ih (i + 1) (by omega) (by omega)
          · skip
            refine j_iconst (v := 0) dX6_goHour_106 (by decide) ?_
            refine j_goto (tgt := 122) dX6_goHour_107 (by decide) ?_
            refine j_istore_n (lv' := [(3, .int 0), (0, .ref (q 0)), (1, .int (oI w)), (2, .int (nI i))]) dX6_goHour_122 rfl (by decide) rfl ?_
            refine j_aload_n 1 dX6_goHour_123 rfl rfl ?_
            refine j_get (v := .ref (q 2)) 0 dX6_goHour_124 fX6_13 rfl rfl ?_
            refine j_iload_n 3 dX6_goHour_127 rfl rfl ?_
            refine j_iload_n 0 dX6_goHour_128 rfl rfl ?_
            refine j_iastN (i := i) (f := mix i (pT kf tf1 sl h' w) tf1) (ws' := mb x q (kf, upd (mix i (pT kf tf1 sl h' w) tf1) i 0, mix i (pS kf tf1 sl h' w) sl, bf, n, d, h') v g pw kp o) 2 dX6_goHour_129 rfl (by omega) (by decide) rfl ?_
            refine j_aload_n 1 dX6_goHour_130 rfl rfl ?_
            refine j_get (v := .ref (q 3)) 0 dX6_goHour_131 fX6_16 rfl rfl ?_
            refine j_iload_n 3 dX6_goHour_134 rfl rfl ?_
            refine j_iload_n 0 dX6_goHour_135 rfl rfl ?_
            refine j_bipush (v := 10) dX6_goHour_136 (by decide) ?_
            refine j_icmp_eq (tgt := 155) dX6_goHour_138 (by decide) (fun h138 => ?_) (fun h138 => ?_)
            · skip
              refine j_iconst (v := bI true) dX6_goHour_155 (by decide) ?_
              refine j_goto (tgt := 160) dX6_goHour_156 (by decide) ?_
              refine j_zastB (i := i) (f := mix i (pS kf tf1 sl h' w) sl) (ws' := mb x q (kf, upd (mix i (pT kf tf1 sl h' w) tf1) i 0, bup (mix i (pS kf tf1 sl h' w) sl) i true, bf, n, d, h') v g pw kp o) 3 true dX6_goHour_160 rfl (by omega) (by decide) rfl ?_
              refine j_iinc (v := nI (i + 1)) (lv' := [(2, .int (nI (i + 1))), (3, .int 0), (0, .ref (q 0)), (1, .int (oI w))]) 3 dX6_goHour_161 rfl (nI_1 i) (by decide) rfl ?_
              refine j_goto (tgt := 45) dX6_goHour_164 (by decide) ?_
              refine j_lv [2, 3, 0] (lv' := [(0, .ref (q 0)), (1, .int (oI w)), (2, .int (nI (i + 1)))]) rfl ?_
              have v1 : 0 = pT kf tf1 sl h' w i := by rw [hv.1]; simp only [mT]; first | (rw [if_pos (lt_of_nle h103)]; done) | (rw [if_neg (nlt_of_le h103), if_neg (nlt_of_le h113)]; done) | (rw [if_neg (nlt_of_le h103), if_pos (lt_of_nle h113)]; done)
              have v2 : true = pS kf tf1 sl h' w i := by rw [hv.2, ← hv.1, ← v1]; first | (simp [mS, h138]; done) | (simp [mS, h138, nlt_of_le h152]; done) | (simp [mS, h138, lt_of_nle h152]; done) | (simp [mS]; done) | (exact absurd rfl h138) | (rw [h147] at h66; cases h66)
              refine j_ws (ws' := mb x q (kf, mix (i + 1) (pT kf tf1 sl h' w) tf1, mix (i + 1) (pS kf tf1 sl h' w) sl, bf, n, d, h') v g pw kp o) (by rw [mix_upd _ _ _ v1, mix_bup _ _ _ v2]) ?_
              exact ih (i + 1) (by omega) (by omega)
            · skip
              refine j_aload_n 1 dX6_goHour_141 rfl rfl ?_
              refine j_get (v := .ref (q 3)) 0 dX6_goHour_142 fX6_16 rfl rfl ?_
              refine j_iload_n 3 dX6_goHour_145 rfl rfl ?_
              refine j_zaldB (i := i) (f := mix i (pS kf tf1 sl h' w) sl) 3 dX6_goHour_146 rfl (by omega) (by decide) ?_
              refine j_topi (b := bI (sl i)) (congrArg bI mix_self) ?_
              refine j_ifb_eq (b := sl i) (tgt := 159) dX6_goHour_147 (by decide) (fun h147 => ?_) (fun h147 => ?_)
              · skip
                refine j_iconst (v := bI false) dX6_goHour_159 (by decide) ?_
                refine j_zastB (i := i) (f := mix i (pS kf tf1 sl h' w) sl) (ws' := mb x q (kf, upd (mix i (pT kf tf1 sl h' w) tf1) i 0, bup (mix i (pS kf tf1 sl h' w) sl) i false, bf, n, d, h') v g pw kp o) 3 false dX6_goHour_160 rfl (by omega) (by decide) rfl ?_
                refine j_iinc (v := nI (i + 1)) (lv' := [(2, .int (nI (i + 1))), (3, .int 0), (0, .ref (q 0)), (1, .int (oI w))]) 3 dX6_goHour_161 rfl (nI_1 i) (by decide) rfl ?_
                refine j_goto (tgt := 45) dX6_goHour_164 (by decide) ?_
                refine j_lv [2, 3, 0] (lv' := [(0, .ref (q 0)), (1, .int (oI w)), (2, .int (nI (i + 1)))]) rfl ?_
                have v1 : 0 = pT kf tf1 sl h' w i := by rw [hv.1]; simp only [mT]; first | (rw [if_pos (lt_of_nle h103)]; done) | (rw [if_neg (nlt_of_le h103), if_neg (nlt_of_le h113)]; done) | (rw [if_neg (nlt_of_le h103), if_pos (lt_of_nle h113)]; done)
                have v2 : false = pS kf tf1 sl h' w i := by rw [hv.2, ← hv.1, ← v1]; first | (simp [mS, h138]; done) | (simp [mS, h138, nlt_of_le h152]; done) | (simp [mS, h138, lt_of_nle h152]; done) | (simp [mS]; done) | (exact absurd rfl h138) | (rw [h147] at h66; cases h66)
                refine j_ws (ws' := mb x q (kf, mix (i + 1) (pT kf tf1 sl h' w) tf1, mix (i + 1) (pS kf tf1 sl h' w) sl, bf, n, d, h') v g pw kp o) (by rw [mix_upd _ _ _ v1, mix_bup _ _ _ v2]) ?_
                exact ih (i + 1) (by omega) (by omega)
              · skip
                refine j_iload_n 0 dX6_goHour_150 rfl rfl ?_
                refine j_iconst (v := 2) dX6_goHour_151 (by decide) ?_
                refine j_icmp_le (tgt := 159) dX6_goHour_152 (by decide) (fun h152 => ?_) (fun h152 => ?_)
                · skip
                  refine j_iconst (v := bI false) dX6_goHour_159 (by decide) ?_
                  refine j_zastB (i := i) (f := mix i (pS kf tf1 sl h' w) sl) (ws' := mb x q (kf, upd (mix i (pT kf tf1 sl h' w) tf1) i 0, bup (mix i (pS kf tf1 sl h' w) sl) i false, bf, n, d, h') v g pw kp o) 3 false dX6_goHour_160 rfl (by omega) (by decide) rfl ?_
                  refine j_iinc (v := nI (i + 1)) (lv' := [(2, .int (nI (i + 1))), (3, .int 0), (0, .ref (q 0)), (1, .int (oI w))]) 3 dX6_goHour_161 rfl (nI_1 i) (by decide) rfl ?_
                  refine j_goto (tgt := 45) dX6_goHour_164 (by decide) ?_
                  refine j_lv [2, 3, 0] (lv' := [(0, .ref (q 0)), (1, .int (oI w)), (2, .int (nI (i + 1)))]) rfl ?_
                  have v1 : 0 = pT kf tf1 sl h' w i := by rw [hv.1]; simp only [mT]; first | (rw [if_pos (lt_of_nle h103)]; done) | (rw [if_neg (nlt_of_le h103), if_neg (nlt_of_le h113)]; done) | (rw [if_neg (nlt_of_le h103), if_pos (lt_of_nle h113)]; done)
                  have v2 : false = pS kf tf1 sl h' w i := by rw [hv.2, ← hv.1, ← v1]; first | (simp [mS, h138]; done) | (simp [mS, h138, nlt_of_le h152]; done) | (simp [mS, h138, lt_of_nle h152]; done) | (simp [mS]; done) | (exact absurd rfl h138) | (rw [h147] at h66; cases h66)
                  refine j_ws (ws' := mb x q (kf, mix (i + 1) (pT kf tf1 sl h' w) tf1, mix (i + 1) (pS kf tf1 sl h' w) sl, bf, n, d, h') v g pw kp o) (by rw [mix_upd _ _ _ v1, mix_bup _ _ _ v2]) ?_
                  exact ih (i + 1) (by omega) (by omega)
                · skip
                  refine j_iconst (v := bI true) dX6_goHour_155 (by decide) ?_
                  refine j_goto (tgt := 160) dX6_goHour_156 (by decide) ?_
                  refine j_zastB (i := i) (f := mix i (pS kf tf1 sl h' w) sl) (ws' := mb x q (kf, upd (mix i (pT kf tf1 sl h' w) tf1) i 0, bup (mix i (pS kf tf1 sl h' w) sl) i true, bf, n, d, h') v g pw kp o) 3 true dX6_goHour_160 rfl (by omega) (by decide) rfl ?_
                  refine j_iinc (v := nI (i + 1)) (lv' := [(2, .int (nI (i + 1))), (3, .int 0), (0, .ref (q 0)), (1, .int (oI w))]) 3 dX6_goHour_161 rfl (nI_1 i) (by decide) rfl ?_
                  refine j_goto (tgt := 45) dX6_goHour_164 (by decide) ?_
                  refine j_lv [2, 3, 0] (lv' := [(0, .ref (q 0)), (1, .int (oI w)), (2, .int (nI (i + 1)))]) rfl ?_
                  have v1 : 0 = pT kf tf1 sl h' w i := by rw [hv.1]; simp only [mT]; first | (rw [if_pos (lt_of_nle h103)]; done) | (rw [if_neg (nlt_of_le h103), if_neg (nlt_of_le h113)]; done) | (rw [if_neg (nlt_of_le h103), if_pos (lt_of_nle h113)]; done)
                  have v2 : true = pS kf tf1 sl h' w i := by rw [hv.2, ← hv.1, ← v1]; first | (simp [mS, h138]; done) | (simp [mS, h138, nlt_of_le h152]; done) | (simp [mS, h138, lt_of_nle h152]; done) | (simp [mS]; done) | (exact absurd rfl h138) | (rw [h147] at h66; cases h66)
                  refine j_ws (ws' := mb x q (kf, mix (i + 1) (pT kf tf1 sl h' w) tf1, mix (i + 1) (pS kf tf1 sl h' w) sl, bf, n, d, h') v g pw kp o) (by rw [mix_upd _ _ _ v1, mix_bup _ _ _ v2]) ?_
                  exact ih (i + 1) (by omega) (by omega)
        · skip
          have eo : (w == some i) = true := by
            rw [(oI_eq (by omega) (fun j e => by have := ho j e; omega)).mp h89]; simp
          have hv : pT kf tf1 sl h' w i = mT (tf1 i + tbh (kf i) (tf1 i) h' true) ∧ pS kf tf1 sl h' w i = mS (mT (tf1 i + tbh (kf i) (tf1 i) h' true)) false := by
            obtain ⟨e, he, ee⟩ := tbh_nat (kf i) (tf1 i) h' true
            rw [pT, pS, pX, if_neg (by rw [h66]; decide), h66, eo, ee, hk1, nI_add]; exact mT_w _ (by omega)
          refine j_iconst (v := bI true) dX6_goHour_92 (by decide) ?_
          refine j_goto (tgt := 97) dX6_goHour_93 (by decide) ?_
          refine j_cSi (As := [.int (kf i), .int (tf1 i), .int h', .int (bI true)]) (rest := [.int (tf1 i)]) (wr := mb x q (kf, mix i (pT kf tf1 sl h' w) tf1, mix i (pS kf tf1 sl h' w) sl, bf, n, d, h') v g pw kp o) (ws' := mb x q (kf, mix i (pT kf tf1 sl h' w) tf1, mix i (pS kf tf1 sl h' w) sl, bf, n, d, h') v g pw kp o) (tX6_more l x (kf i) (tf1 i) h' true) kX6_more sX6_95 dX6_goHour_97 (by decide) rfl rfl (Nat.le_of_ble_eq_true rfl) (List.Perm.refl _) rfl ?_
          refine j_iadd dX6_goHour_100 ?_
          refine j_istore_n (lv' := [(3, .int ((tf1 i) + (tbh (kf i) (tf1 i) h' true))), (0, .ref (q 0)), (1, .int (oI w)), (2, .int (nI i))]) dX6_goHour_101 rfl (by decide) rfl ?_
          refine j_iload_n 0 dX6_goHour_102 rfl rfl ?_
          refine j_if_ge (tgt := 110) dX6_goHour_103 (by decide) (fun h103 => ?_) (fun h103 => ?_)
          · skip
            refine j_iload_n 0 dX6_goHour_110 rfl rfl ?_
            refine j_bipush (v := 10) dX6_goHour_111 (by decide) ?_
            refine j_icmp_le (tgt := 121) dX6_goHour_113 (by decide) (fun h113 => ?_) (fun h113 => ?_)
            · skip
              refine j_iload_n 0 dX6_goHour_121 rfl rfl ?_
              refine j_istore_n (lv' := [(3, .int ((tf1 i) + (tbh (kf i) (tf1 i) h' true))), (0, .ref (q 0)), (1, .int (oI w)), (2, .int (nI i))]) dX6_goHour_122 rfl (by decide) rfl ?_
              refine j_aload_n 1 dX6_goHour_123 rfl rfl ?_
              refine j_get (v := .ref (q 2)) 0 dX6_goHour_124 fX6_13 rfl rfl ?_
              refine j_iload_n 3 dX6_goHour_127 rfl rfl ?_
              refine j_iload_n 0 dX6_goHour_128 rfl rfl ?_
              refine j_iastN (i := i) (f := mix i (pT kf tf1 sl h' w) tf1) (ws' := mb x q (kf, upd (mix i (pT kf tf1 sl h' w) tf1) i ((tf1 i) + (tbh (kf i) (tf1 i) h' true)), mix i (pS kf tf1 sl h' w) sl, bf, n, d, h') v g pw kp o) 2 dX6_goHour_129 rfl (by omega) (by decide) rfl ?_
              refine j_aload_n 1 dX6_goHour_130 rfl rfl ?_
              refine j_get (v := .ref (q 3)) 0 dX6_goHour_131 fX6_16 rfl rfl ?_
              refine j_iload_n 3 dX6_goHour_134 rfl rfl ?_
              refine j_iload_n 0 dX6_goHour_135 rfl rfl ?_
              refine j_bipush (v := 10) dX6_goHour_136 (by decide) ?_
              refine j_icmp_eq (tgt := 155) dX6_goHour_138 (by decide) (fun h138 => ?_) (fun h138 => ?_)
              · skip
                refine j_iconst (v := bI true) dX6_goHour_155 (by decide) ?_
                refine j_goto (tgt := 160) dX6_goHour_156 (by decide) ?_
                refine j_zastB (i := i) (f := mix i (pS kf tf1 sl h' w) sl) (ws' := mb x q (kf, upd (mix i (pT kf tf1 sl h' w) tf1) i ((tf1 i) + (tbh (kf i) (tf1 i) h' true)), bup (mix i (pS kf tf1 sl h' w) sl) i true, bf, n, d, h') v g pw kp o) 3 true dX6_goHour_160 rfl (by omega) (by decide) rfl ?_
                refine j_iinc (v := nI (i + 1)) (lv' := [(2, .int (nI (i + 1))), (3, .int ((tf1 i) + (tbh (kf i) (tf1 i) h' true))), (0, .ref (q 0)), (1, .int (oI w))]) 3 dX6_goHour_161 rfl (nI_1 i) (by decide) rfl ?_
                refine j_goto (tgt := 45) dX6_goHour_164 (by decide) ?_
                refine j_lv [2, 3, 0] (lv' := [(0, .ref (q 0)), (1, .int (oI w)), (2, .int (nI (i + 1)))]) rfl ?_
                have v1 : ((tf1 i) + (tbh (kf i) (tf1 i) h' true)) = pT kf tf1 sl h' w i := by rw [hv.1]; simp only [mT]; first | (rw [if_pos (lt_of_nle h103)]; done) | (rw [if_neg (nlt_of_le h103), if_neg (nlt_of_le h113)]; done) | (rw [if_neg (nlt_of_le h103), if_pos (lt_of_nle h113)]; done)
                have v2 : true = pS kf tf1 sl h' w i := by rw [hv.2, ← hv.1, ← v1]; first | (simp [mS, h138]; done) | (simp [mS, h138, nlt_of_le h152]; done) | (simp [mS, h138, lt_of_nle h152]; done) | (simp [mS]; done) | (exact absurd rfl h138) | (rw [h147] at h66; cases h66)
                refine j_ws (ws' := mb x q (kf, mix (i + 1) (pT kf tf1 sl h' w) tf1, mix (i + 1) (pS kf tf1 sl h' w) sl, bf, n, d, h') v g pw kp o) (by rw [mix_upd _ _ _ v1, mix_bup _ _ _ v2]) ?_
                exact ih (i + 1) (by omega) (by omega)
              · skip
                refine j_aload_n 1 dX6_goHour_141 rfl rfl ?_
                refine j_get (v := .ref (q 3)) 0 dX6_goHour_142 fX6_16 rfl rfl ?_
                refine j_iload_n 3 dX6_goHour_145 rfl rfl ?_
                refine j_zaldB (i := i) (f := mix i (pS kf tf1 sl h' w) sl) 3 dX6_goHour_146 rfl (by omega) (by decide) ?_
                refine j_topi (b := bI (sl i)) (congrArg bI mix_self) ?_
                refine j_ifb_eq (b := sl i) (tgt := 159) dX6_goHour_147 (by decide) (fun h147 => ?_) (fun h147 => ?_)
                · skip
                  refine j_iconst (v := bI false) dX6_goHour_159 (by decide) ?_
                  refine j_zastB (i := i) (f := mix i (pS kf tf1 sl h' w) sl) (ws' := mb x q (kf, upd (mix i (pT kf tf1 sl h' w) tf1) i ((tf1 i) + (tbh (kf i) (tf1 i) h' true)), bup (mix i (pS kf tf1 sl h' w) sl) i false, bf, n, d, h') v g pw kp o) 3 false dX6_goHour_160 rfl (by omega) (by decide) rfl ?_
                  refine j_iinc (v := nI (i + 1)) (lv' := [(2, .int (nI (i + 1))), (3, .int ((tf1 i) + (tbh (kf i) (tf1 i) h' true))), (0, .ref (q 0)), (1, .int (oI w))]) 3 dX6_goHour_161 rfl (nI_1 i) (by decide) rfl ?_
                  refine j_goto (tgt := 45) dX6_goHour_164 (by decide) ?_
                  refine j_lv [2, 3, 0] (lv' := [(0, .ref (q 0)), (1, .int (oI w)), (2, .int (nI (i + 1)))]) rfl ?_
                  have v1 : ((tf1 i) + (tbh (kf i) (tf1 i) h' true)) = pT kf tf1 sl h' w i := by rw [hv.1]; simp only [mT]; first | (rw [if_pos (lt_of_nle h103)]; done) | (rw [if_neg (nlt_of_le h103), if_neg (nlt_of_le h113)]; done) | (rw [if_neg (nlt_of_le h103), if_pos (lt_of_nle h113)]; done)
                  have v2 : false = pS kf tf1 sl h' w i := by rw [hv.2, ← hv.1, ← v1]; first | (simp [mS, h138]; done) | (simp [mS, h138, nlt_of_le h152]; done) | (simp [mS, h138, lt_of_nle h152]; done) | (simp [mS]; done) | (exact absurd rfl h138) | (rw [h147] at h66; cases h66)
                  refine j_ws (ws' := mb x q (kf, mix (i + 1) (pT kf tf1 sl h' w) tf1, mix (i + 1) (pS kf tf1 sl h' w) sl, bf, n, d, h') v g pw kp o) (by rw [mix_upd _ _ _ v1, mix_bup _ _ _ v2]) ?_
                  exact ih (i + 1) (by omega) (by omega)
                · skip
                  refine j_iload_n 0 dX6_goHour_150 rfl rfl ?_
                  refine j_iconst (v := 2) dX6_goHour_151 (by decide) ?_
                  refine j_icmp_le (tgt := 159) dX6_goHour_152 (by decide) (fun h152 => ?_) (fun h152 => ?_)
                  · skip
                    refine j_iconst (v := bI false) dX6_goHour_159 (by decide) ?_
                    refine j_zastB (i := i) (f := mix i (pS kf tf1 sl h' w) sl) (ws' := mb x q (kf, upd (mix i (pT kf tf1 sl h' w) tf1) i ((tf1 i) + (tbh (kf i) (tf1 i) h' true)), bup (mix i (pS kf tf1 sl h' w) sl) i false, bf, n, d, h') v g pw kp o) 3 false dX6_goHour_160 rfl (by omega) (by decide) rfl ?_
                    refine j_iinc (v := nI (i + 1)) (lv' := [(2, .int (nI (i + 1))), (3, .int ((tf1 i) + (tbh (kf i) (tf1 i) h' true))), (0, .ref (q 0)), (1, .int (oI w))]) 3 dX6_goHour_161 rfl (nI_1 i) (by decide) rfl ?_
                    refine j_goto (tgt := 45) dX6_goHour_164 (by decide) ?_
                    refine j_lv [2, 3, 0] (lv' := [(0, .ref (q 0)), (1, .int (oI w)), (2, .int (nI (i + 1)))]) rfl ?_
                    have v1 : ((tf1 i) + (tbh (kf i) (tf1 i) h' true)) = pT kf tf1 sl h' w i := by rw [hv.1]; simp only [mT]; first | (rw [if_pos (lt_of_nle h103)]; done) | (rw [if_neg (nlt_of_le h103), if_neg (nlt_of_le h113)]; done) | (rw [if_neg (nlt_of_le h103), if_pos (lt_of_nle h113)]; done)
                    have v2 : false = pS kf tf1 sl h' w i := by rw [hv.2, ← hv.1, ← v1]; first | (simp [mS, h138]; done) | (simp [mS, h138, nlt_of_le h152]; done) | (simp [mS, h138, lt_of_nle h152]; done) | (simp [mS]; done) | (exact absurd rfl h138) | (rw [h147] at h66; cases h66)
                    refine j_ws (ws' := mb x q (kf, mix (i + 1) (pT kf tf1 sl h' w) tf1, mix (i + 1) (pS kf tf1 sl h' w) sl, bf, n, d, h') v g pw kp o) (by rw [mix_upd _ _ _ v1, mix_bup _ _ _ v2]) ?_
                    exact ih (i + 1) (by omega) (by omega)
                  · skip
                    refine j_iconst (v := bI true) dX6_goHour_155 (by decide) ?_
                    refine j_goto (tgt := 160) dX6_goHour_156 (by decide) ?_
                    refine j_zastB (i := i) (f := mix i (pS kf tf1 sl h' w) sl) (ws' := mb x q (kf, upd (mix i (pT kf tf1 sl h' w) tf1) i ((tf1 i) + (tbh (kf i) (tf1 i) h' true)), bup (mix i (pS kf tf1 sl h' w) sl) i true, bf, n, d, h') v g pw kp o) 3 true dX6_goHour_160 rfl (by omega) (by decide) rfl ?_
                    refine j_iinc (v := nI (i + 1)) (lv' := [(2, .int (nI (i + 1))), (3, .int ((tf1 i) + (tbh (kf i) (tf1 i) h' true))), (0, .ref (q 0)), (1, .int (oI w))]) 3 dX6_goHour_161 rfl (nI_1 i) (by decide) rfl ?_
                    refine j_goto (tgt := 45) dX6_goHour_164 (by decide) ?_
                    refine j_lv [2, 3, 0] (lv' := [(0, .ref (q 0)), (1, .int (oI w)), (2, .int (nI (i + 1)))]) rfl ?_
                    have v1 : ((tf1 i) + (tbh (kf i) (tf1 i) h' true)) = pT kf tf1 sl h' w i := by rw [hv.1]; simp only [mT]; first | (rw [if_pos (lt_of_nle h103)]; done) | (rw [if_neg (nlt_of_le h103), if_neg (nlt_of_le h113)]; done) | (rw [if_neg (nlt_of_le h103), if_pos (lt_of_nle h113)]; done)
                    have v2 : true = pS kf tf1 sl h' w i := by rw [hv.2, ← hv.1, ← v1]; first | (simp [mS, h138]; done) | (simp [mS, h138, nlt_of_le h152]; done) | (simp [mS, h138, lt_of_nle h152]; done) | (simp [mS]; done) | (exact absurd rfl h138) | (rw [h147] at h66; cases h66)
                    refine j_ws (ws' := mb x q (kf, mix (i + 1) (pT kf tf1 sl h' w) tf1, mix (i + 1) (pS kf tf1 sl h' w) sl, bf, n, d, h') v g pw kp o) (by rw [mix_upd _ _ _ v1, mix_bup _ _ _ v2]) ?_
                    exact ih (i + 1) (by omega) (by omega)
            · skip
              refine j_bipush (v := 10) dX6_goHour_116 (by decide) ?_
              refine j_goto (tgt := 122) dX6_goHour_118 (by decide) ?_
              refine j_istore_n (lv' := [(3, .int 10), (0, .ref (q 0)), (1, .int (oI w)), (2, .int (nI i))]) dX6_goHour_122 rfl (by decide) rfl ?_
              refine j_aload_n 1 dX6_goHour_123 rfl rfl ?_
              refine j_get (v := .ref (q 2)) 0 dX6_goHour_124 fX6_13 rfl rfl ?_
              refine j_iload_n 3 dX6_goHour_127 rfl rfl ?_
              refine j_iload_n 0 dX6_goHour_128 rfl rfl ?_
              refine j_iastN (i := i) (f := mix i (pT kf tf1 sl h' w) tf1) (ws' := mb x q (kf, upd (mix i (pT kf tf1 sl h' w) tf1) i 10, mix i (pS kf tf1 sl h' w) sl, bf, n, d, h') v g pw kp o) 2 dX6_goHour_129 rfl (by omega) (by decide) rfl ?_
              refine j_aload_n 1 dX6_goHour_130 rfl rfl ?_
              refine j_get (v := .ref (q 3)) 0 dX6_goHour_131 fX6_16 rfl rfl ?_
              refine j_iload_n 3 dX6_goHour_134 rfl rfl ?_
              refine j_iload_n 0 dX6_goHour_135 rfl rfl ?_
              refine j_bipush (v := 10) dX6_goHour_136 (by decide) ?_
              refine j_icmp_eq (tgt := 155) dX6_goHour_138 (by decide) (fun h138 => ?_) (fun h138 => ?_)
              · skip
                refine j_iconst (v := bI true) dX6_goHour_155 (by decide) ?_
                refine j_goto (tgt := 160) dX6_goHour_156 (by decide) ?_
                refine j_zastB (i := i) (f := mix i (pS kf tf1 sl h' w) sl) (ws' := mb x q (kf, upd (mix i (pT kf tf1 sl h' w) tf1) i 10, bup (mix i (pS kf tf1 sl h' w) sl) i true, bf, n, d, h') v g pw kp o) 3 true dX6_goHour_160 rfl (by omega) (by decide) rfl ?_
                refine j_iinc (v := nI (i + 1)) (lv' := [(2, .int (nI (i + 1))), (3, .int 10), (0, .ref (q 0)), (1, .int (oI w))]) 3 dX6_goHour_161 rfl (nI_1 i) (by decide) rfl ?_
                refine j_goto (tgt := 45) dX6_goHour_164 (by decide) ?_
                refine j_lv [2, 3, 0] (lv' := [(0, .ref (q 0)), (1, .int (oI w)), (2, .int (nI (i + 1)))]) rfl ?_
                have v1 : 10 = pT kf tf1 sl h' w i := by rw [hv.1]; simp only [mT]; first | (rw [if_pos (lt_of_nle h103)]; done) | (rw [if_neg (nlt_of_le h103), if_neg (nlt_of_le h113)]; done) | (rw [if_neg (nlt_of_le h103), if_pos (lt_of_nle h113)]; done)
                have v2 : true = pS kf tf1 sl h' w i := by rw [hv.2, ← hv.1, ← v1]; first | (simp [mS, h138]; done) | (simp [mS, h138, nlt_of_le h152]; done) | (simp [mS, h138, lt_of_nle h152]; done) | (simp [mS]; done) | (exact absurd rfl h138) | (rw [h147] at h66; cases h66)
                refine j_ws (ws' := mb x q (kf, mix (i + 1) (pT kf tf1 sl h' w) tf1, mix (i + 1) (pS kf tf1 sl h' w) sl, bf, n, d, h') v g pw kp o) (by rw [mix_upd _ _ _ v1, mix_bup _ _ _ v2]) ?_
                exact ih (i + 1) (by omega) (by omega)
              · skip
                refine j_aload_n 1 dX6_goHour_141 rfl rfl ?_
                refine j_get (v := .ref (q 3)) 0 dX6_goHour_142 fX6_16 rfl rfl ?_
                refine j_iload_n 3 dX6_goHour_145 rfl rfl ?_
                refine j_zaldB (i := i) (f := mix i (pS kf tf1 sl h' w) sl) 3 dX6_goHour_146 rfl (by omega) (by decide) ?_
                refine j_topi (b := bI (sl i)) (congrArg bI mix_self) ?_
                refine j_ifb_eq (b := sl i) (tgt := 159) dX6_goHour_147 (by decide) (fun h147 => ?_) (fun h147 => ?_)
                · skip
                  refine j_iconst (v := bI false) dX6_goHour_159 (by decide) ?_
                  refine j_zastB (i := i) (f := mix i (pS kf tf1 sl h' w) sl) (ws' := mb x q (kf, upd (mix i (pT kf tf1 sl h' w) tf1) i 10, bup (mix i (pS kf tf1 sl h' w) sl) i false, bf, n, d, h') v g pw kp o) 3 false dX6_goHour_160 rfl (by omega) (by decide) rfl ?_
                  refine j_iinc (v := nI (i + 1)) (lv' := [(2, .int (nI (i + 1))), (3, .int 10), (0, .ref (q 0)), (1, .int (oI w))]) 3 dX6_goHour_161 rfl (nI_1 i) (by decide) rfl ?_
                  refine j_goto (tgt := 45) dX6_goHour_164 (by decide) ?_
                  refine j_lv [2, 3, 0] (lv' := [(0, .ref (q 0)), (1, .int (oI w)), (2, .int (nI (i + 1)))]) rfl ?_
                  have v1 : 10 = pT kf tf1 sl h' w i := by rw [hv.1]; simp only [mT]; first | (rw [if_pos (lt_of_nle h103)]; done) | (rw [if_neg (nlt_of_le h103), if_neg (nlt_of_le h113)]; done) | (rw [if_neg (nlt_of_le h103), if_pos (lt_of_nle h113)]; done)
                  have v2 : false = pS kf tf1 sl h' w i := by rw [hv.2, ← hv.1, ← v1]; first | (simp [mS, h138]; done) | (simp [mS, h138, nlt_of_le h152]; done) | (simp [mS, h138, lt_of_nle h152]; done) | (simp [mS]; done) | (exact absurd rfl h138) | (rw [h147] at h66; cases h66)
                  refine j_ws (ws' := mb x q (kf, mix (i + 1) (pT kf tf1 sl h' w) tf1, mix (i + 1) (pS kf tf1 sl h' w) sl, bf, n, d, h') v g pw kp o) (by rw [mix_upd _ _ _ v1, mix_bup _ _ _ v2]) ?_
                  exact ih (i + 1) (by omega) (by omega)
                · skip
                  refine j_iload_n 0 dX6_goHour_150 rfl rfl ?_
                  refine j_iconst (v := 2) dX6_goHour_151 (by decide) ?_
                  refine j_icmp_le (tgt := 159) dX6_goHour_152 (by decide) (fun h152 => ?_) (fun h152 => ?_)
                  · skip
                    refine j_iconst (v := bI false) dX6_goHour_159 (by decide) ?_
                    refine j_zastB (i := i) (f := mix i (pS kf tf1 sl h' w) sl) (ws' := mb x q (kf, upd (mix i (pT kf tf1 sl h' w) tf1) i 10, bup (mix i (pS kf tf1 sl h' w) sl) i false, bf, n, d, h') v g pw kp o) 3 false dX6_goHour_160 rfl (by omega) (by decide) rfl ?_
                    refine j_iinc (v := nI (i + 1)) (lv' := [(2, .int (nI (i + 1))), (3, .int 10), (0, .ref (q 0)), (1, .int (oI w))]) 3 dX6_goHour_161 rfl (nI_1 i) (by decide) rfl ?_
                    refine j_goto (tgt := 45) dX6_goHour_164 (by decide) ?_
                    refine j_lv [2, 3, 0] (lv' := [(0, .ref (q 0)), (1, .int (oI w)), (2, .int (nI (i + 1)))]) rfl ?_
                    have v1 : 10 = pT kf tf1 sl h' w i := by rw [hv.1]; simp only [mT]; first | (rw [if_pos (lt_of_nle h103)]; done) | (rw [if_neg (nlt_of_le h103), if_neg (nlt_of_le h113)]; done) | (rw [if_neg (nlt_of_le h103), if_pos (lt_of_nle h113)]; done)
                    have v2 : false = pS kf tf1 sl h' w i := by rw [hv.2, ← hv.1, ← v1]; first | (simp [mS, h138]; done) | (simp [mS, h138, nlt_of_le h152]; done) | (simp [mS, h138, lt_of_nle h152]; done) | (simp [mS]; done) | (exact absurd rfl h138) | (rw [h147] at h66; cases h66)
                    refine j_ws (ws' := mb x q (kf, mix (i + 1) (pT kf tf1 sl h' w) tf1, mix (i + 1) (pS kf tf1 sl h' w) sl, bf, n, d, h') v g pw kp o) (by rw [mix_upd _ _ _ v1, mix_bup _ _ _ v2]) ?_
                    exact ih (i + 1) (by omega) (by omega)
                  · skip
                    refine j_iconst (v := bI true) dX6_goHour_155 (by decide) ?_
                    refine j_goto (tgt := 160) dX6_goHour_156 (by decide) ?_
                    refine j_zastB (i := i) (f := mix i (pS kf tf1 sl h' w) sl) (ws' := mb x q (kf, upd (mix i (pT kf tf1 sl h' w) tf1) i 10, bup (mix i (pS kf tf1 sl h' w) sl) i true, bf, n, d, h') v g pw kp o) 3 true dX6_goHour_160 rfl (by omega) (by decide) rfl ?_
                    refine j_iinc (v := nI (i + 1)) (lv' := [(2, .int (nI (i + 1))), (3, .int 10), (0, .ref (q 0)), (1, .int (oI w))]) 3 dX6_goHour_161 rfl (nI_1 i) (by decide) rfl ?_
                    refine j_goto (tgt := 45) dX6_goHour_164 (by decide) ?_
                    refine j_lv [2, 3, 0] (lv' := [(0, .ref (q 0)), (1, .int (oI w)), (2, .int (nI (i + 1)))]) rfl ?_
                    have v1 : 10 = pT kf tf1 sl h' w i := by rw [hv.1]; simp only [mT]; first | (rw [if_pos (lt_of_nle h103)]; done) | (rw [if_neg (nlt_of_le h103), if_neg (nlt_of_le h113)]; done) | (rw [if_neg (nlt_of_le h103), if_pos (lt_of_nle h113)]; done)
                    have v2 : true = pS kf tf1 sl h' w i := by rw [hv.2, ← hv.1, ← v1]; first | (simp [mS, h138]; done) | (simp [mS, h138, nlt_of_le h152]; done) | (simp [mS, h138, lt_of_nle h152]; done) | (simp [mS]; done) | (exact absurd rfl h138) | (rw [h147] at h66; cases h66)
                    refine j_ws (ws' := mb x q (kf, mix (i + 1) (pT kf tf1 sl h' w) tf1, mix (i + 1) (pS kf tf1 sl h' w) sl, bf, n, d, h') v g pw kp o) (by rw [mix_upd _ _ _ v1, mix_bup _ _ _ v2]) ?_
                    exact ih (i + 1) (by omega) (by omega)
          · skip
            refine j_iconst (v := 0) dX6_goHour_106 (by decide) ?_
            refine j_goto (tgt := 122) dX6_goHour_107 (by decide) ?_
            refine j_istore_n (lv' := [(3, .int 0), (0, .ref (q 0)), (1, .int (oI w)), (2, .int (nI i))]) dX6_goHour_122 rfl (by decide) rfl ?_
            refine j_aload_n 1 dX6_goHour_123 rfl rfl ?_
            refine j_get (v := .ref (q 2)) 0 dX6_goHour_124 fX6_13 rfl rfl ?_
            refine j_iload_n 3 dX6_goHour_127 rfl rfl ?_
            refine j_iload_n 0 dX6_goHour_128 rfl rfl ?_
            refine j_iastN (i := i) (f := mix i (pT kf tf1 sl h' w) tf1) (ws' := mb x q (kf, upd (mix i (pT kf tf1 sl h' w) tf1) i 0, mix i (pS kf tf1 sl h' w) sl, bf, n, d, h') v g pw kp o) 2 dX6_goHour_129 rfl (by omega) (by decide) rfl ?_
            refine j_aload_n 1 dX6_goHour_130 rfl rfl ?_
            refine j_get (v := .ref (q 3)) 0 dX6_goHour_131 fX6_16 rfl rfl ?_
            refine j_iload_n 3 dX6_goHour_134 rfl rfl ?_
            refine j_iload_n 0 dX6_goHour_135 rfl rfl ?_
            refine j_bipush (v := 10) dX6_goHour_136 (by decide) ?_
            refine j_icmp_eq (tgt := 155) dX6_goHour_138 (by decide) (fun h138 => ?_) (fun h138 => ?_)
            · skip
              refine j_iconst (v := bI true) dX6_goHour_155 (by decide) ?_
              refine j_goto (tgt := 160) dX6_goHour_156 (by decide) ?_
              refine j_zastB (i := i) (f := mix i (pS kf tf1 sl h' w) sl) (ws' := mb x q (kf, upd (mix i (pT kf tf1 sl h' w) tf1) i 0, bup (mix i (pS kf tf1 sl h' w) sl) i true, bf, n, d, h') v g pw kp o) 3 true dX6_goHour_160 rfl (by omega) (by decide) rfl ?_
              refine j_iinc (v := nI (i + 1)) (lv' := [(2, .int (nI (i + 1))), (3, .int 0), (0, .ref (q 0)), (1, .int (oI w))]) 3 dX6_goHour_161 rfl (nI_1 i) (by decide) rfl ?_
              refine j_goto (tgt := 45) dX6_goHour_164 (by decide) ?_
              refine j_lv [2, 3, 0] (lv' := [(0, .ref (q 0)), (1, .int (oI w)), (2, .int (nI (i + 1)))]) rfl ?_
              have v1 : 0 = pT kf tf1 sl h' w i := by rw [hv.1]; simp only [mT]; first | (rw [if_pos (lt_of_nle h103)]; done) | (rw [if_neg (nlt_of_le h103), if_neg (nlt_of_le h113)]; done) | (rw [if_neg (nlt_of_le h103), if_pos (lt_of_nle h113)]; done)
              have v2 : true = pS kf tf1 sl h' w i := by rw [hv.2, ← hv.1, ← v1]; first | (simp [mS, h138]; done) | (simp [mS, h138, nlt_of_le h152]; done) | (simp [mS, h138, lt_of_nle h152]; done) | (simp [mS]; done) | (exact absurd rfl h138) | (rw [h147] at h66; cases h66)
              refine j_ws (ws' := mb x q (kf, mix (i + 1) (pT kf tf1 sl h' w) tf1, mix (i + 1) (pS kf tf1 sl h' w) sl, bf, n, d, h') v g pw kp o) (by rw [mix_upd _ _ _ v1, mix_bup _ _ _ v2]) ?_
              exact ih (i + 1) (by omega) (by omega)
            · skip
              refine j_aload_n 1 dX6_goHour_141 rfl rfl ?_
              refine j_get (v := .ref (q 3)) 0 dX6_goHour_142 fX6_16 rfl rfl ?_
              refine j_iload_n 3 dX6_goHour_145 rfl rfl ?_
              refine j_zaldB (i := i) (f := mix i (pS kf tf1 sl h' w) sl) 3 dX6_goHour_146 rfl (by omega) (by decide) ?_
              refine j_topi (b := bI (sl i)) (congrArg bI mix_self) ?_
              refine j_ifb_eq (b := sl i) (tgt := 159) dX6_goHour_147 (by decide) (fun h147 => ?_) (fun h147 => ?_)
              · skip
                refine j_iconst (v := bI false) dX6_goHour_159 (by decide) ?_
                refine j_zastB (i := i) (f := mix i (pS kf tf1 sl h' w) sl) (ws' := mb x q (kf, upd (mix i (pT kf tf1 sl h' w) tf1) i 0, bup (mix i (pS kf tf1 sl h' w) sl) i false, bf, n, d, h') v g pw kp o) 3 false dX6_goHour_160 rfl (by omega) (by decide) rfl ?_
                refine j_iinc (v := nI (i + 1)) (lv' := [(2, .int (nI (i + 1))), (3, .int 0), (0, .ref (q 0)), (1, .int (oI w))]) 3 dX6_goHour_161 rfl (nI_1 i) (by decide) rfl ?_
                refine j_goto (tgt := 45) dX6_goHour_164 (by decide) ?_
                refine j_lv [2, 3, 0] (lv' := [(0, .ref (q 0)), (1, .int (oI w)), (2, .int (nI (i + 1)))]) rfl ?_
                have v1 : 0 = pT kf tf1 sl h' w i := by rw [hv.1]; simp only [mT]; first | (rw [if_pos (lt_of_nle h103)]; done) | (rw [if_neg (nlt_of_le h103), if_neg (nlt_of_le h113)]; done) | (rw [if_neg (nlt_of_le h103), if_pos (lt_of_nle h113)]; done)
                have v2 : false = pS kf tf1 sl h' w i := by rw [hv.2, ← hv.1, ← v1]; first | (simp [mS, h138]; done) | (simp [mS, h138, nlt_of_le h152]; done) | (simp [mS, h138, lt_of_nle h152]; done) | (simp [mS]; done) | (exact absurd rfl h138) | (rw [h147] at h66; cases h66)
                refine j_ws (ws' := mb x q (kf, mix (i + 1) (pT kf tf1 sl h' w) tf1, mix (i + 1) (pS kf tf1 sl h' w) sl, bf, n, d, h') v g pw kp o) (by rw [mix_upd _ _ _ v1, mix_bup _ _ _ v2]) ?_
                exact ih (i + 1) (by omega) (by omega)
              · skip
                refine j_iload_n 0 dX6_goHour_150 rfl rfl ?_
                refine j_iconst (v := 2) dX6_goHour_151 (by decide) ?_
                refine j_icmp_le (tgt := 159) dX6_goHour_152 (by decide) (fun h152 => ?_) (fun h152 => ?_)
                · skip
                  refine j_iconst (v := bI false) dX6_goHour_159 (by decide) ?_
                  refine j_zastB (i := i) (f := mix i (pS kf tf1 sl h' w) sl) (ws' := mb x q (kf, upd (mix i (pT kf tf1 sl h' w) tf1) i 0, bup (mix i (pS kf tf1 sl h' w) sl) i false, bf, n, d, h') v g pw kp o) 3 false dX6_goHour_160 rfl (by omega) (by decide) rfl ?_
                  refine j_iinc (v := nI (i + 1)) (lv' := [(2, .int (nI (i + 1))), (3, .int 0), (0, .ref (q 0)), (1, .int (oI w))]) 3 dX6_goHour_161 rfl (nI_1 i) (by decide) rfl ?_
                  refine j_goto (tgt := 45) dX6_goHour_164 (by decide) ?_
                  refine j_lv [2, 3, 0] (lv' := [(0, .ref (q 0)), (1, .int (oI w)), (2, .int (nI (i + 1)))]) rfl ?_
                  have v1 : 0 = pT kf tf1 sl h' w i := by rw [hv.1]; simp only [mT]; first | (rw [if_pos (lt_of_nle h103)]; done) | (rw [if_neg (nlt_of_le h103), if_neg (nlt_of_le h113)]; done) | (rw [if_neg (nlt_of_le h103), if_pos (lt_of_nle h113)]; done)
                  have v2 : false = pS kf tf1 sl h' w i := by rw [hv.2, ← hv.1, ← v1]; first | (simp [mS, h138]; done) | (simp [mS, h138, nlt_of_le h152]; done) | (simp [mS, h138, lt_of_nle h152]; done) | (simp [mS]; done) | (exact absurd rfl h138) | (rw [h147] at h66; cases h66)
                  refine j_ws (ws' := mb x q (kf, mix (i + 1) (pT kf tf1 sl h' w) tf1, mix (i + 1) (pS kf tf1 sl h' w) sl, bf, n, d, h') v g pw kp o) (by rw [mix_upd _ _ _ v1, mix_bup _ _ _ v2]) ?_
                  exact ih (i + 1) (by omega) (by omega)
                · skip
                  refine j_iconst (v := bI true) dX6_goHour_155 (by decide) ?_
                  refine j_goto (tgt := 160) dX6_goHour_156 (by decide) ?_
                  refine j_zastB (i := i) (f := mix i (pS kf tf1 sl h' w) sl) (ws' := mb x q (kf, upd (mix i (pT kf tf1 sl h' w) tf1) i 0, bup (mix i (pS kf tf1 sl h' w) sl) i true, bf, n, d, h') v g pw kp o) 3 true dX6_goHour_160 rfl (by omega) (by decide) rfl ?_
                  refine j_iinc (v := nI (i + 1)) (lv' := [(2, .int (nI (i + 1))), (3, .int 0), (0, .ref (q 0)), (1, .int (oI w))]) 3 dX6_goHour_161 rfl (nI_1 i) (by decide) rfl ?_
                  refine j_goto (tgt := 45) dX6_goHour_164 (by decide) ?_
                  refine j_lv [2, 3, 0] (lv' := [(0, .ref (q 0)), (1, .int (oI w)), (2, .int (nI (i + 1)))]) rfl ?_
                  have v1 : 0 = pT kf tf1 sl h' w i := by rw [hv.1]; simp only [mT]; first | (rw [if_pos (lt_of_nle h103)]; done) | (rw [if_neg (nlt_of_le h103), if_neg (nlt_of_le h113)]; done) | (rw [if_neg (nlt_of_le h103), if_pos (lt_of_nle h113)]; done)
                  have v2 : true = pS kf tf1 sl h' w i := by rw [hv.2, ← hv.1, ← v1]; first | (simp [mS, h138]; done) | (simp [mS, h138, nlt_of_le h152]; done) | (simp [mS, h138, lt_of_nle h152]; done) | (simp [mS]; done) | (exact absurd rfl h138) | (rw [h147] at h66; cases h66)
                  refine j_ws (ws' := mb x q (kf, mix (i + 1) (pT kf tf1 sl h' w) tf1, mix (i + 1) (pS kf tf1 sl h' w) sl, bf, n, d, h') v g pw kp o) (by rw [mix_upd _ _ _ v1, mix_bup _ _ _ v2]) ?_
                  exact ih (i + 1) (by omega) (by omega)
      · skip
        have hv : pT kf tf1 sl h' w i = mT (tf1 i - 3) ∧ pS kf tf1 sl h' w i = mS (mT (tf1 i - 3)) true := by
          rw [pT, pS, pX, if_pos h66, h66, hk1]; exact mT_a k1 (by omega)
        refine j_iload_n 0 dX6_goHour_69 rfl rfl ?_
        refine j_iconst (v := 3) dX6_goHour_70 (by decide) ?_
        refine j_isub dX6_goHour_71 ?_
        refine j_goto (tgt := 101) dX6_goHour_72 (by decide) ?_
        refine j_istore_n (lv' := [(3, .int ((tf1 i) - 3)), (0, .ref (q 0)), (1, .int (oI w)), (2, .int (nI i))]) dX6_goHour_101 rfl (by decide) rfl ?_
        refine j_iload_n 0 dX6_goHour_102 rfl rfl ?_
        refine j_if_ge (tgt := 110) dX6_goHour_103 (by decide) (fun h103 => ?_) (fun h103 => ?_)
        · skip
          refine j_iload_n 0 dX6_goHour_110 rfl rfl ?_
          refine j_bipush (v := 10) dX6_goHour_111 (by decide) ?_
          refine j_icmp_le (tgt := 121) dX6_goHour_113 (by decide) (fun h113 => ?_) (fun h113 => ?_)
          · skip
            refine j_iload_n 0 dX6_goHour_121 rfl rfl ?_
            refine j_istore_n (lv' := [(3, .int ((tf1 i) - 3)), (0, .ref (q 0)), (1, .int (oI w)), (2, .int (nI i))]) dX6_goHour_122 rfl (by decide) rfl ?_
            refine j_aload_n 1 dX6_goHour_123 rfl rfl ?_
            refine j_get (v := .ref (q 2)) 0 dX6_goHour_124 fX6_13 rfl rfl ?_
            refine j_iload_n 3 dX6_goHour_127 rfl rfl ?_
            refine j_iload_n 0 dX6_goHour_128 rfl rfl ?_
            refine j_iastN (i := i) (f := mix i (pT kf tf1 sl h' w) tf1) (ws' := mb x q (kf, upd (mix i (pT kf tf1 sl h' w) tf1) i ((tf1 i) - 3), mix i (pS kf tf1 sl h' w) sl, bf, n, d, h') v g pw kp o) 2 dX6_goHour_129 rfl (by omega) (by decide) rfl ?_
            refine j_aload_n 1 dX6_goHour_130 rfl rfl ?_
            refine j_get (v := .ref (q 3)) 0 dX6_goHour_131 fX6_16 rfl rfl ?_
            refine j_iload_n 3 dX6_goHour_134 rfl rfl ?_
            refine j_iload_n 0 dX6_goHour_135 rfl rfl ?_
            refine j_bipush (v := 10) dX6_goHour_136 (by decide) ?_
            refine j_icmp_eq (tgt := 155) dX6_goHour_138 (by decide) (fun h138 => ?_) (fun h138 => ?_)
            · skip
              refine j_iconst (v := bI true) dX6_goHour_155 (by decide) ?_
              refine j_goto (tgt := 160) dX6_goHour_156 (by decide) ?_
              refine j_zastB (i := i) (f := mix i (pS kf tf1 sl h' w) sl) (ws' := mb x q (kf, upd (mix i (pT kf tf1 sl h' w) tf1) i ((tf1 i) - 3), bup (mix i (pS kf tf1 sl h' w) sl) i true, bf, n, d, h') v g pw kp o) 3 true dX6_goHour_160 rfl (by omega) (by decide) rfl ?_
              refine j_iinc (v := nI (i + 1)) (lv' := [(2, .int (nI (i + 1))), (3, .int ((tf1 i) - 3)), (0, .ref (q 0)), (1, .int (oI w))]) 3 dX6_goHour_161 rfl (nI_1 i) (by decide) rfl ?_
              refine j_goto (tgt := 45) dX6_goHour_164 (by decide) ?_
              refine j_lv [2, 3, 0] (lv' := [(0, .ref (q 0)), (1, .int (oI w)), (2, .int (nI (i + 1)))]) rfl ?_
              have v1 : ((tf1 i) - 3) = pT kf tf1 sl h' w i := by rw [hv.1]; simp only [mT]; first | (rw [if_pos (lt_of_nle h103)]; done) | (rw [if_neg (nlt_of_le h103), if_neg (nlt_of_le h113)]; done) | (rw [if_neg (nlt_of_le h103), if_pos (lt_of_nle h113)]; done)
              have v2 : true = pS kf tf1 sl h' w i := by rw [hv.2, ← hv.1, ← v1]; first | (simp [mS, h138]; done) | (simp [mS, h138, nlt_of_le h152]; done) | (simp [mS, h138, lt_of_nle h152]; done) | (simp [mS]; done) | (exact absurd rfl h138) | (rw [h147] at h66; cases h66)
              refine j_ws (ws' := mb x q (kf, mix (i + 1) (pT kf tf1 sl h' w) tf1, mix (i + 1) (pS kf tf1 sl h' w) sl, bf, n, d, h') v g pw kp o) (by rw [mix_upd _ _ _ v1, mix_bup _ _ _ v2]) ?_
              exact ih (i + 1) (by omega) (by omega)
            · skip
              refine j_aload_n 1 dX6_goHour_141 rfl rfl ?_
              refine j_get (v := .ref (q 3)) 0 dX6_goHour_142 fX6_16 rfl rfl ?_
              refine j_iload_n 3 dX6_goHour_145 rfl rfl ?_
              refine j_zaldB (i := i) (f := mix i (pS kf tf1 sl h' w) sl) 3 dX6_goHour_146 rfl (by omega) (by decide) ?_
              refine j_topi (b := bI (sl i)) (congrArg bI mix_self) ?_
              refine j_ifb_eq (b := sl i) (tgt := 159) dX6_goHour_147 (by decide) (fun h147 => ?_) (fun h147 => ?_)
              · skip
                refine j_iconst (v := bI false) dX6_goHour_159 (by decide) ?_
                refine j_zastB (i := i) (f := mix i (pS kf tf1 sl h' w) sl) (ws' := mb x q (kf, upd (mix i (pT kf tf1 sl h' w) tf1) i ((tf1 i) - 3), bup (mix i (pS kf tf1 sl h' w) sl) i false, bf, n, d, h') v g pw kp o) 3 false dX6_goHour_160 rfl (by omega) (by decide) rfl ?_
                refine j_iinc (v := nI (i + 1)) (lv' := [(2, .int (nI (i + 1))), (3, .int ((tf1 i) - 3)), (0, .ref (q 0)), (1, .int (oI w))]) 3 dX6_goHour_161 rfl (nI_1 i) (by decide) rfl ?_
                refine j_goto (tgt := 45) dX6_goHour_164 (by decide) ?_
                refine j_lv [2, 3, 0] (lv' := [(0, .ref (q 0)), (1, .int (oI w)), (2, .int (nI (i + 1)))]) rfl ?_
                have v1 : ((tf1 i) - 3) = pT kf tf1 sl h' w i := by rw [hv.1]; simp only [mT]; first | (rw [if_pos (lt_of_nle h103)]; done) | (rw [if_neg (nlt_of_le h103), if_neg (nlt_of_le h113)]; done) | (rw [if_neg (nlt_of_le h103), if_pos (lt_of_nle h113)]; done)
                have v2 : false = pS kf tf1 sl h' w i := by rw [hv.2, ← hv.1, ← v1]; first | (simp [mS, h138]; done) | (simp [mS, h138, nlt_of_le h152]; done) | (simp [mS, h138, lt_of_nle h152]; done) | (simp [mS]; done) | (exact absurd rfl h138) | (rw [h147] at h66; cases h66)
                refine j_ws (ws' := mb x q (kf, mix (i + 1) (pT kf tf1 sl h' w) tf1, mix (i + 1) (pS kf tf1 sl h' w) sl, bf, n, d, h') v g pw kp o) (by rw [mix_upd _ _ _ v1, mix_bup _ _ _ v2]) ?_
                exact ih (i + 1) (by omega) (by omega)
              · skip
                refine j_iload_n 0 dX6_goHour_150 rfl rfl ?_
                refine j_iconst (v := 2) dX6_goHour_151 (by decide) ?_
                refine j_icmp_le (tgt := 159) dX6_goHour_152 (by decide) (fun h152 => ?_) (fun h152 => ?_)
                · skip
                  refine j_iconst (v := bI false) dX6_goHour_159 (by decide) ?_
                  refine j_zastB (i := i) (f := mix i (pS kf tf1 sl h' w) sl) (ws' := mb x q (kf, upd (mix i (pT kf tf1 sl h' w) tf1) i ((tf1 i) - 3), bup (mix i (pS kf tf1 sl h' w) sl) i false, bf, n, d, h') v g pw kp o) 3 false dX6_goHour_160 rfl (by omega) (by decide) rfl ?_
                  refine j_iinc (v := nI (i + 1)) (lv' := [(2, .int (nI (i + 1))), (3, .int ((tf1 i) - 3)), (0, .ref (q 0)), (1, .int (oI w))]) 3 dX6_goHour_161 rfl (nI_1 i) (by decide) rfl ?_
                  refine j_goto (tgt := 45) dX6_goHour_164 (by decide) ?_
                  refine j_lv [2, 3, 0] (lv' := [(0, .ref (q 0)), (1, .int (oI w)), (2, .int (nI (i + 1)))]) rfl ?_
                  have v1 : ((tf1 i) - 3) = pT kf tf1 sl h' w i := by rw [hv.1]; simp only [mT]; first | (rw [if_pos (lt_of_nle h103)]; done) | (rw [if_neg (nlt_of_le h103), if_neg (nlt_of_le h113)]; done) | (rw [if_neg (nlt_of_le h103), if_pos (lt_of_nle h113)]; done)
                  have v2 : false = pS kf tf1 sl h' w i := by rw [hv.2, ← hv.1, ← v1]; first | (simp [mS, h138]; done) | (simp [mS, h138, nlt_of_le h152]; done) | (simp [mS, h138, lt_of_nle h152]; done) | (simp [mS]; done) | (exact absurd rfl h138) | (rw [h147] at h66; cases h66)
                  refine j_ws (ws' := mb x q (kf, mix (i + 1) (pT kf tf1 sl h' w) tf1, mix (i + 1) (pS kf tf1 sl h' w) sl, bf, n, d, h') v g pw kp o) (by rw [mix_upd _ _ _ v1, mix_bup _ _ _ v2]) ?_
                  exact ih (i + 1) (by omega) (by omega)
                · skip
                  refine j_iconst (v := bI true) dX6_goHour_155 (by decide) ?_
                  refine j_goto (tgt := 160) dX6_goHour_156 (by decide) ?_
                  refine j_zastB (i := i) (f := mix i (pS kf tf1 sl h' w) sl) (ws' := mb x q (kf, upd (mix i (pT kf tf1 sl h' w) tf1) i ((tf1 i) - 3), bup (mix i (pS kf tf1 sl h' w) sl) i true, bf, n, d, h') v g pw kp o) 3 true dX6_goHour_160 rfl (by omega) (by decide) rfl ?_
                  refine j_iinc (v := nI (i + 1)) (lv' := [(2, .int (nI (i + 1))), (3, .int ((tf1 i) - 3)), (0, .ref (q 0)), (1, .int (oI w))]) 3 dX6_goHour_161 rfl (nI_1 i) (by decide) rfl ?_
                  refine j_goto (tgt := 45) dX6_goHour_164 (by decide) ?_
                  refine j_lv [2, 3, 0] (lv' := [(0, .ref (q 0)), (1, .int (oI w)), (2, .int (nI (i + 1)))]) rfl ?_
                  have v1 : ((tf1 i) - 3) = pT kf tf1 sl h' w i := by rw [hv.1]; simp only [mT]; first | (rw [if_pos (lt_of_nle h103)]; done) | (rw [if_neg (nlt_of_le h103), if_neg (nlt_of_le h113)]; done) | (rw [if_neg (nlt_of_le h103), if_pos (lt_of_nle h113)]; done)
                  have v2 : true = pS kf tf1 sl h' w i := by rw [hv.2, ← hv.1, ← v1]; first | (simp [mS, h138]; done) | (simp [mS, h138, nlt_of_le h152]; done) | (simp [mS, h138, lt_of_nle h152]; done) | (simp [mS]; done) | (exact absurd rfl h138) | (rw [h147] at h66; cases h66)
                  refine j_ws (ws' := mb x q (kf, mix (i + 1) (pT kf tf1 sl h' w) tf1, mix (i + 1) (pS kf tf1 sl h' w) sl, bf, n, d, h') v g pw kp o) (by rw [mix_upd _ _ _ v1, mix_bup _ _ _ v2]) ?_
                  exact ih (i + 1) (by omega) (by omega)
          · skip
            refine j_bipush (v := 10) dX6_goHour_116 (by decide) ?_
            refine j_goto (tgt := 122) dX6_goHour_118 (by decide) ?_
            refine j_istore_n (lv' := [(3, .int 10), (0, .ref (q 0)), (1, .int (oI w)), (2, .int (nI i))]) dX6_goHour_122 rfl (by decide) rfl ?_
            refine j_aload_n 1 dX6_goHour_123 rfl rfl ?_
            refine j_get (v := .ref (q 2)) 0 dX6_goHour_124 fX6_13 rfl rfl ?_
            refine j_iload_n 3 dX6_goHour_127 rfl rfl ?_
            refine j_iload_n 0 dX6_goHour_128 rfl rfl ?_
            refine j_iastN (i := i) (f := mix i (pT kf tf1 sl h' w) tf1) (ws' := mb x q (kf, upd (mix i (pT kf tf1 sl h' w) tf1) i 10, mix i (pS kf tf1 sl h' w) sl, bf, n, d, h') v g pw kp o) 2 dX6_goHour_129 rfl (by omega) (by decide) rfl ?_
            refine j_aload_n 1 dX6_goHour_130 rfl rfl ?_
            refine j_get (v := .ref (q 3)) 0 dX6_goHour_131 fX6_16 rfl rfl ?_
            refine j_iload_n 3 dX6_goHour_134 rfl rfl ?_
            refine j_iload_n 0 dX6_goHour_135 rfl rfl ?_
            refine j_bipush (v := 10) dX6_goHour_136 (by decide) ?_
            refine j_icmp_eq (tgt := 155) dX6_goHour_138 (by decide) (fun h138 => ?_) (fun h138 => ?_)
            · skip
              refine j_iconst (v := bI true) dX6_goHour_155 (by decide) ?_
              refine j_goto (tgt := 160) dX6_goHour_156 (by decide) ?_
              refine j_zastB (i := i) (f := mix i (pS kf tf1 sl h' w) sl) (ws' := mb x q (kf, upd (mix i (pT kf tf1 sl h' w) tf1) i 10, bup (mix i (pS kf tf1 sl h' w) sl) i true, bf, n, d, h') v g pw kp o) 3 true dX6_goHour_160 rfl (by omega) (by decide) rfl ?_
              refine j_iinc (v := nI (i + 1)) (lv' := [(2, .int (nI (i + 1))), (3, .int 10), (0, .ref (q 0)), (1, .int (oI w))]) 3 dX6_goHour_161 rfl (nI_1 i) (by decide) rfl ?_
              refine j_goto (tgt := 45) dX6_goHour_164 (by decide) ?_
              refine j_lv [2, 3, 0] (lv' := [(0, .ref (q 0)), (1, .int (oI w)), (2, .int (nI (i + 1)))]) rfl ?_
              have v1 : 10 = pT kf tf1 sl h' w i := by rw [hv.1]; simp only [mT]; first | (rw [if_pos (lt_of_nle h103)]; done) | (rw [if_neg (nlt_of_le h103), if_neg (nlt_of_le h113)]; done) | (rw [if_neg (nlt_of_le h103), if_pos (lt_of_nle h113)]; done)
              have v2 : true = pS kf tf1 sl h' w i := by rw [hv.2, ← hv.1, ← v1]; first | (simp [mS, h138]; done) | (simp [mS, h138, nlt_of_le h152]; done) | (simp [mS, h138, lt_of_nle h152]; done) | (simp [mS]; done) | (exact absurd rfl h138) | (rw [h147] at h66; cases h66)
              refine j_ws (ws' := mb x q (kf, mix (i + 1) (pT kf tf1 sl h' w) tf1, mix (i + 1) (pS kf tf1 sl h' w) sl, bf, n, d, h') v g pw kp o) (by rw [mix_upd _ _ _ v1, mix_bup _ _ _ v2]) ?_
              exact ih (i + 1) (by omega) (by omega)
            · skip
              refine j_aload_n 1 dX6_goHour_141 rfl rfl ?_
              refine j_get (v := .ref (q 3)) 0 dX6_goHour_142 fX6_16 rfl rfl ?_
              refine j_iload_n 3 dX6_goHour_145 rfl rfl ?_
              refine j_zaldB (i := i) (f := mix i (pS kf tf1 sl h' w) sl) 3 dX6_goHour_146 rfl (by omega) (by decide) ?_
              refine j_topi (b := bI (sl i)) (congrArg bI mix_self) ?_
              refine j_ifb_eq (b := sl i) (tgt := 159) dX6_goHour_147 (by decide) (fun h147 => ?_) (fun h147 => ?_)
              · skip
                refine j_iconst (v := bI false) dX6_goHour_159 (by decide) ?_
                refine j_zastB (i := i) (f := mix i (pS kf tf1 sl h' w) sl) (ws' := mb x q (kf, upd (mix i (pT kf tf1 sl h' w) tf1) i 10, bup (mix i (pS kf tf1 sl h' w) sl) i false, bf, n, d, h') v g pw kp o) 3 false dX6_goHour_160 rfl (by omega) (by decide) rfl ?_
                refine j_iinc (v := nI (i + 1)) (lv' := [(2, .int (nI (i + 1))), (3, .int 10), (0, .ref (q 0)), (1, .int (oI w))]) 3 dX6_goHour_161 rfl (nI_1 i) (by decide) rfl ?_
                refine j_goto (tgt := 45) dX6_goHour_164 (by decide) ?_
                refine j_lv [2, 3, 0] (lv' := [(0, .ref (q 0)), (1, .int (oI w)), (2, .int (nI (i + 1)))]) rfl ?_
                have v1 : 10 = pT kf tf1 sl h' w i := by rw [hv.1]; simp only [mT]; first | (rw [if_pos (lt_of_nle h103)]; done) | (rw [if_neg (nlt_of_le h103), if_neg (nlt_of_le h113)]; done) | (rw [if_neg (nlt_of_le h103), if_pos (lt_of_nle h113)]; done)
                have v2 : false = pS kf tf1 sl h' w i := by rw [hv.2, ← hv.1, ← v1]; first | (simp [mS, h138]; done) | (simp [mS, h138, nlt_of_le h152]; done) | (simp [mS, h138, lt_of_nle h152]; done) | (simp [mS]; done) | (exact absurd rfl h138) | (rw [h147] at h66; cases h66)
                refine j_ws (ws' := mb x q (kf, mix (i + 1) (pT kf tf1 sl h' w) tf1, mix (i + 1) (pS kf tf1 sl h' w) sl, bf, n, d, h') v g pw kp o) (by rw [mix_upd _ _ _ v1, mix_bup _ _ _ v2]) ?_
                exact ih (i + 1) (by omega) (by omega)
              · skip
                refine j_iload_n 0 dX6_goHour_150 rfl rfl ?_
                refine j_iconst (v := 2) dX6_goHour_151 (by decide) ?_
                refine j_icmp_le (tgt := 159) dX6_goHour_152 (by decide) (fun h152 => ?_) (fun h152 => ?_)
                · skip
                  refine j_iconst (v := bI false) dX6_goHour_159 (by decide) ?_
                  refine j_zastB (i := i) (f := mix i (pS kf tf1 sl h' w) sl) (ws' := mb x q (kf, upd (mix i (pT kf tf1 sl h' w) tf1) i 10, bup (mix i (pS kf tf1 sl h' w) sl) i false, bf, n, d, h') v g pw kp o) 3 false dX6_goHour_160 rfl (by omega) (by decide) rfl ?_
                  refine j_iinc (v := nI (i + 1)) (lv' := [(2, .int (nI (i + 1))), (3, .int 10), (0, .ref (q 0)), (1, .int (oI w))]) 3 dX6_goHour_161 rfl (nI_1 i) (by decide) rfl ?_
                  refine j_goto (tgt := 45) dX6_goHour_164 (by decide) ?_
                  refine j_lv [2, 3, 0] (lv' := [(0, .ref (q 0)), (1, .int (oI w)), (2, .int (nI (i + 1)))]) rfl ?_
                  have v1 : 10 = pT kf tf1 sl h' w i := by rw [hv.1]; simp only [mT]; first | (rw [if_pos (lt_of_nle h103)]; done) | (rw [if_neg (nlt_of_le h103), if_neg (nlt_of_le h113)]; done) | (rw [if_neg (nlt_of_le h103), if_pos (lt_of_nle h113)]; done)
                  have v2 : false = pS kf tf1 sl h' w i := by rw [hv.2, ← hv.1, ← v1]; first | (simp [mS, h138]; done) | (simp [mS, h138, nlt_of_le h152]; done) | (simp [mS, h138, lt_of_nle h152]; done) | (simp [mS]; done) | (exact absurd rfl h138) | (rw [h147] at h66; cases h66)
                  refine j_ws (ws' := mb x q (kf, mix (i + 1) (pT kf tf1 sl h' w) tf1, mix (i + 1) (pS kf tf1 sl h' w) sl, bf, n, d, h') v g pw kp o) (by rw [mix_upd _ _ _ v1, mix_bup _ _ _ v2]) ?_
                  exact ih (i + 1) (by omega) (by omega)
                · skip
                  refine j_iconst (v := bI true) dX6_goHour_155 (by decide) ?_
                  refine j_goto (tgt := 160) dX6_goHour_156 (by decide) ?_
                  refine j_zastB (i := i) (f := mix i (pS kf tf1 sl h' w) sl) (ws' := mb x q (kf, upd (mix i (pT kf tf1 sl h' w) tf1) i 10, bup (mix i (pS kf tf1 sl h' w) sl) i true, bf, n, d, h') v g pw kp o) 3 true dX6_goHour_160 rfl (by omega) (by decide) rfl ?_
                  refine j_iinc (v := nI (i + 1)) (lv' := [(2, .int (nI (i + 1))), (3, .int 10), (0, .ref (q 0)), (1, .int (oI w))]) 3 dX6_goHour_161 rfl (nI_1 i) (by decide) rfl ?_
                  refine j_goto (tgt := 45) dX6_goHour_164 (by decide) ?_
                  refine j_lv [2, 3, 0] (lv' := [(0, .ref (q 0)), (1, .int (oI w)), (2, .int (nI (i + 1)))]) rfl ?_
                  have v1 : 10 = pT kf tf1 sl h' w i := by rw [hv.1]; simp only [mT]; first | (rw [if_pos (lt_of_nle h103)]; done) | (rw [if_neg (nlt_of_le h103), if_neg (nlt_of_le h113)]; done) | (rw [if_neg (nlt_of_le h103), if_pos (lt_of_nle h113)]; done)
                  have v2 : true = pS kf tf1 sl h' w i := by rw [hv.2, ← hv.1, ← v1]; first | (simp [mS, h138]; done) | (simp [mS, h138, nlt_of_le h152]; done) | (simp [mS, h138, lt_of_nle h152]; done) | (simp [mS]; done) | (exact absurd rfl h138) | (rw [h147] at h66; cases h66)
                  refine j_ws (ws' := mb x q (kf, mix (i + 1) (pT kf tf1 sl h' w) tf1, mix (i + 1) (pS kf tf1 sl h' w) sl, bf, n, d, h') v g pw kp o) (by rw [mix_upd _ _ _ v1, mix_bup _ _ _ v2]) ?_
                  exact ih (i + 1) (by omega) (by omega)
        · skip
          refine j_iconst (v := 0) dX6_goHour_106 (by decide) ?_
          refine j_goto (tgt := 122) dX6_goHour_107 (by decide) ?_
          refine j_istore_n (lv' := [(3, .int 0), (0, .ref (q 0)), (1, .int (oI w)), (2, .int (nI i))]) dX6_goHour_122 rfl (by decide) rfl ?_
          refine j_aload_n 1 dX6_goHour_123 rfl rfl ?_
          refine j_get (v := .ref (q 2)) 0 dX6_goHour_124 fX6_13 rfl rfl ?_
          refine j_iload_n 3 dX6_goHour_127 rfl rfl ?_
          refine j_iload_n 0 dX6_goHour_128 rfl rfl ?_
          refine j_iastN (i := i) (f := mix i (pT kf tf1 sl h' w) tf1) (ws' := mb x q (kf, upd (mix i (pT kf tf1 sl h' w) tf1) i 0, mix i (pS kf tf1 sl h' w) sl, bf, n, d, h') v g pw kp o) 2 dX6_goHour_129 rfl (by omega) (by decide) rfl ?_
          refine j_aload_n 1 dX6_goHour_130 rfl rfl ?_
          refine j_get (v := .ref (q 3)) 0 dX6_goHour_131 fX6_16 rfl rfl ?_
          refine j_iload_n 3 dX6_goHour_134 rfl rfl ?_
          refine j_iload_n 0 dX6_goHour_135 rfl rfl ?_
          refine j_bipush (v := 10) dX6_goHour_136 (by decide) ?_
          refine j_icmp_eq (tgt := 155) dX6_goHour_138 (by decide) (fun h138 => ?_) (fun h138 => ?_)
          · skip
            refine j_iconst (v := bI true) dX6_goHour_155 (by decide) ?_
            refine j_goto (tgt := 160) dX6_goHour_156 (by decide) ?_
            refine j_zastB (i := i) (f := mix i (pS kf tf1 sl h' w) sl) (ws' := mb x q (kf, upd (mix i (pT kf tf1 sl h' w) tf1) i 0, bup (mix i (pS kf tf1 sl h' w) sl) i true, bf, n, d, h') v g pw kp o) 3 true dX6_goHour_160 rfl (by omega) (by decide) rfl ?_
            refine j_iinc (v := nI (i + 1)) (lv' := [(2, .int (nI (i + 1))), (3, .int 0), (0, .ref (q 0)), (1, .int (oI w))]) 3 dX6_goHour_161 rfl (nI_1 i) (by decide) rfl ?_
            refine j_goto (tgt := 45) dX6_goHour_164 (by decide) ?_
            refine j_lv [2, 3, 0] (lv' := [(0, .ref (q 0)), (1, .int (oI w)), (2, .int (nI (i + 1)))]) rfl ?_
            have v1 : 0 = pT kf tf1 sl h' w i := by rw [hv.1]; simp only [mT]; first | (rw [if_pos (lt_of_nle h103)]; done) | (rw [if_neg (nlt_of_le h103), if_neg (nlt_of_le h113)]; done) | (rw [if_neg (nlt_of_le h103), if_pos (lt_of_nle h113)]; done)
            have v2 : true = pS kf tf1 sl h' w i := by rw [hv.2, ← hv.1, ← v1]; first | (simp [mS, h138]; done) | (simp [mS, h138, nlt_of_le h152]; done) | (simp [mS, h138, lt_of_nle h152]; done) | (simp [mS]; done) | (exact absurd rfl h138) | (rw [h147] at h66; cases h66)
            refine j_ws (ws' := mb x q (kf, mix (i + 1) (pT kf tf1 sl h' w) tf1, mix (i + 1) (pS kf tf1 sl h' w) sl, bf, n, d, h') v g pw kp o) (by rw [mix_upd _ _ _ v1, mix_bup _ _ _ v2]) ?_
            exact ih (i + 1) (by omega) (by omega)
          · skip
            refine j_aload_n 1 dX6_goHour_141 rfl rfl ?_
            refine j_get (v := .ref (q 3)) 0 dX6_goHour_142 fX6_16 rfl rfl ?_
            refine j_iload_n 3 dX6_goHour_145 rfl rfl ?_
            refine j_zaldB (i := i) (f := mix i (pS kf tf1 sl h' w) sl) 3 dX6_goHour_146 rfl (by omega) (by decide) ?_
            refine j_topi (b := bI (sl i)) (congrArg bI mix_self) ?_
            refine j_ifb_eq (b := sl i) (tgt := 159) dX6_goHour_147 (by decide) (fun h147 => ?_) (fun h147 => ?_)
            · skip
              refine j_iconst (v := bI false) dX6_goHour_159 (by decide) ?_
              refine j_zastB (i := i) (f := mix i (pS kf tf1 sl h' w) sl) (ws' := mb x q (kf, upd (mix i (pT kf tf1 sl h' w) tf1) i 0, bup (mix i (pS kf tf1 sl h' w) sl) i false, bf, n, d, h') v g pw kp o) 3 false dX6_goHour_160 rfl (by omega) (by decide) rfl ?_
              refine j_iinc (v := nI (i + 1)) (lv' := [(2, .int (nI (i + 1))), (3, .int 0), (0, .ref (q 0)), (1, .int (oI w))]) 3 dX6_goHour_161 rfl (nI_1 i) (by decide) rfl ?_
              refine j_goto (tgt := 45) dX6_goHour_164 (by decide) ?_
              refine j_lv [2, 3, 0] (lv' := [(0, .ref (q 0)), (1, .int (oI w)), (2, .int (nI (i + 1)))]) rfl ?_
              have v1 : 0 = pT kf tf1 sl h' w i := by rw [hv.1]; simp only [mT]; first | (rw [if_pos (lt_of_nle h103)]; done) | (rw [if_neg (nlt_of_le h103), if_neg (nlt_of_le h113)]; done) | (rw [if_neg (nlt_of_le h103), if_pos (lt_of_nle h113)]; done)
              have v2 : false = pS kf tf1 sl h' w i := by rw [hv.2, ← hv.1, ← v1]; first | (simp [mS, h138]; done) | (simp [mS, h138, nlt_of_le h152]; done) | (simp [mS, h138, lt_of_nle h152]; done) | (simp [mS]; done) | (exact absurd rfl h138) | (rw [h147] at h66; cases h66)
              refine j_ws (ws' := mb x q (kf, mix (i + 1) (pT kf tf1 sl h' w) tf1, mix (i + 1) (pS kf tf1 sl h' w) sl, bf, n, d, h') v g pw kp o) (by rw [mix_upd _ _ _ v1, mix_bup _ _ _ v2]) ?_
              exact ih (i + 1) (by omega) (by omega)
            · skip
              refine j_iload_n 0 dX6_goHour_150 rfl rfl ?_
              refine j_iconst (v := 2) dX6_goHour_151 (by decide) ?_
              refine j_icmp_le (tgt := 159) dX6_goHour_152 (by decide) (fun h152 => ?_) (fun h152 => ?_)
              · skip
                refine j_iconst (v := bI false) dX6_goHour_159 (by decide) ?_
                refine j_zastB (i := i) (f := mix i (pS kf tf1 sl h' w) sl) (ws' := mb x q (kf, upd (mix i (pT kf tf1 sl h' w) tf1) i 0, bup (mix i (pS kf tf1 sl h' w) sl) i false, bf, n, d, h') v g pw kp o) 3 false dX6_goHour_160 rfl (by omega) (by decide) rfl ?_
                refine j_iinc (v := nI (i + 1)) (lv' := [(2, .int (nI (i + 1))), (3, .int 0), (0, .ref (q 0)), (1, .int (oI w))]) 3 dX6_goHour_161 rfl (nI_1 i) (by decide) rfl ?_
                refine j_goto (tgt := 45) dX6_goHour_164 (by decide) ?_
                refine j_lv [2, 3, 0] (lv' := [(0, .ref (q 0)), (1, .int (oI w)), (2, .int (nI (i + 1)))]) rfl ?_
                have v1 : 0 = pT kf tf1 sl h' w i := by rw [hv.1]; simp only [mT]; first | (rw [if_pos (lt_of_nle h103)]; done) | (rw [if_neg (nlt_of_le h103), if_neg (nlt_of_le h113)]; done) | (rw [if_neg (nlt_of_le h103), if_pos (lt_of_nle h113)]; done)
                have v2 : false = pS kf tf1 sl h' w i := by rw [hv.2, ← hv.1, ← v1]; first | (simp [mS, h138]; done) | (simp [mS, h138, nlt_of_le h152]; done) | (simp [mS, h138, lt_of_nle h152]; done) | (simp [mS]; done) | (exact absurd rfl h138) | (rw [h147] at h66; cases h66)
                refine j_ws (ws' := mb x q (kf, mix (i + 1) (pT kf tf1 sl h' w) tf1, mix (i + 1) (pS kf tf1 sl h' w) sl, bf, n, d, h') v g pw kp o) (by rw [mix_upd _ _ _ v1, mix_bup _ _ _ v2]) ?_
                exact ih (i + 1) (by omega) (by omega)
              · skip
                refine j_iconst (v := bI true) dX6_goHour_155 (by decide) ?_
                refine j_goto (tgt := 160) dX6_goHour_156 (by decide) ?_
                refine j_zastB (i := i) (f := mix i (pS kf tf1 sl h' w) sl) (ws' := mb x q (kf, upd (mix i (pT kf tf1 sl h' w) tf1) i 0, bup (mix i (pS kf tf1 sl h' w) sl) i true, bf, n, d, h') v g pw kp o) 3 true dX6_goHour_160 rfl (by omega) (by decide) rfl ?_
                refine j_iinc (v := nI (i + 1)) (lv' := [(2, .int (nI (i + 1))), (3, .int 0), (0, .ref (q 0)), (1, .int (oI w))]) 3 dX6_goHour_161 rfl (nI_1 i) (by decide) rfl ?_
                refine j_goto (tgt := 45) dX6_goHour_164 (by decide) ?_
                refine j_lv [2, 3, 0] (lv' := [(0, .ref (q 0)), (1, .int (oI w)), (2, .int (nI (i + 1)))]) rfl ?_
                have v1 : 0 = pT kf tf1 sl h' w i := by rw [hv.1]; simp only [mT]; first | (rw [if_pos (lt_of_nle h103)]; done) | (rw [if_neg (nlt_of_le h103), if_neg (nlt_of_le h113)]; done) | (rw [if_neg (nlt_of_le h103), if_pos (lt_of_nle h113)]; done)
                have v2 : true = pS kf tf1 sl h' w i := by rw [hv.2, ← hv.1, ← v1]; first | (simp [mS, h138]; done) | (simp [mS, h138, nlt_of_le h152]; done) | (simp [mS, h138, lt_of_nle h152]; done) | (simp [mS]; done) | (exact absurd rfl h138) | (rw [h147] at h66; cases h66)
                refine j_ws (ws' := mb x q (kf, mix (i + 1) (pT kf tf1 sl h' w) tf1, mix (i + 1) (pS kf tf1 sl h' w) sl, bf, n, d, h') v g pw kp o) (by rw [mix_upd _ _ _ v1, mix_bup _ _ _ v2]) ?_
                exact ih (i + 1) (by omega) (by omega)
set_option maxHeartbeats 4000000 in
set_option maxRecDepth 100000 in
theorem tX6_goHour (l : Launch) (x : Cx) (q : Nat → Nat) (kf tf : Nat → Int32) (sl : Nat → Bool) (bf : Nat → Int32) (n : Nat) (d h : Int32) (v : SS) (g : PG) (pw : Bool × Nat) (kp : KS) (o : OS) (hn : n ≤ 5) (e0 : Nat) (he : e0 ≤ 4) (hd : d = nI e0) (hok : ∀ i, i < n → ∃ k, k ≤ 10 ∧ tf i = nI k) (hw10 : ∀ i, i < n → sl i = false → tf i < 10) : MC l x 1 0 0 yX6_goHour cX6_goHour 4 none [.ref (q 0)] (mb x q (kf, tf, sl, bf, n, d, h) v g pw kp o) (eV (mb x q (ph (kf, tf, sl, bf, n, d, h)) v g pw kp o)) := by
  refine MC.of (by decide) (Nat.le_of_ble_eq_true rfl) eV_fit (fun M => ?_)
  show J M l x cX6_goHour 4 yX6_goHour 1 (eV (mb x q (ph (kf, tf, sl, bf, n, d, h)) v g pw kp o)) 0 0 0 [(0, .ref (q 0))] [] (mb x q (kf, tf, sl, bf, n, d, h) v g pw kp o)
  cases hw : wb kf tf sl n with
  | none =>
    refine j_aload_n 0 dX6_goHour_0 rfl rfl ?_
    refine j_cVi (As := []) (rest := []) (wr := []) (ws' := mb x q (kf, tf, sl, bf, n, d, h) v g pw kp o) (tX6_whose l x q kf tf sl bf n d h v g pw kp o (by omega) hw10) kX6_whose 0 rfl rfl rfl vX6_92 dX6_goHour_1 (by decide) rfl rfl (Nat.le_of_ble_eq_true rfl) (pm_0 _) (List.append_nil _) ?_
    refine j_topi (b := (-1)) (by rw [hw]; rfl) ?_
    refine j_istore_n (lv' := [(1, .int (-1)), (0, .ref (q 0))]) dX6_goHour_4 rfl (by decide) rfl ?_
    refine j_aload_n 1 dX6_goHour_5 rfl rfl ?_
    refine j_dup dX6_goHour_6 rfl ?_
    refine j_get (v := .int h) 0 dX6_goHour_7 fX6_86 rfl rfl ?_
    refine j_iconst (v := 1) dX6_goHour_10 (by decide) ?_
    refine j_iadd dX6_goHour_11 ?_
    refine j_put (v := .int (h + 1)) (ws' := mb x q (kf, tf, sl, bf, n, d, h + 1) v g pw kp o) 0 dX6_goHour_12 fX6_86 rfl rfl rfl (Nat.le_of_ble_eq_true rfl) rfl ?_
    refine j_iload_n 0 dX6_goHour_15 rfl rfl ?_
    refine j_iconst (v := (-1)) dX6_goHour_16 (by decide) ?_
    refine j_icmp_eq (tgt := 43) dX6_goHour_17 (by decide) (fun h17 => ?_) (fun h17 => absurd (rfl : (-1 : Int32) = -1) h17)
    refine j_iconst (v := nI 0) dX6_goHour_43 (by decide) ?_
    refine j_istore_n (lv' := [(2, .int (nI 0)), (1, .int (-1)), (0, .ref (q 0))]) dX6_goHour_44 rfl (by decide) rfl ?_
    refine j_lv [2, 1, 0] (lv' := [(0, .ref (q 0)), (1, .int (-1)), (2, .int (nI 0))]) rfl ?_
    have hl := lp_goHour (M := M) (k0 := 0) (n0 := 0) l x q kf (tf) sl (bf) n d (h + 1) none hn (fun j e => by cases e) (fun i hi => by obtain ⟨k, hk, ht⟩ := hok i hi; exact pT1_nat (o := none) he hd hk ht) v g pw kp o (n + 1) 0 (by omega) (by omega)
    rw [mix_0, mix_0] at hl
    have e : ph (kf, tf, sl, bf, n, d, h) = (kf, mix n (pT kf (tf) sl (h + 1) none) (tf), mix n (pS kf (tf) sl (h + 1) none) sl, bf, n, d, h + 1) := by simp only [ph, hw, pT1, pB]
    rw [e]
    exact hl
  | some j =>
    have hj := wb_lt hw
    refine j_aload_n 0 dX6_goHour_0 rfl rfl ?_
    refine j_cVi (As := []) (rest := []) (wr := []) (ws' := mb x q (kf, tf, sl, bf, n, d, h) v g pw kp o) (tX6_whose l x q kf tf sl bf n d h v g pw kp o (by omega) hw10) kX6_whose 0 rfl rfl rfl vX6_92 dX6_goHour_1 (by decide) rfl rfl (Nat.le_of_ble_eq_true rfl) (pm_0 _) (List.append_nil _) ?_
    refine j_topi (b := nI j) (by rw [hw]; rfl) ?_
    refine j_istore_n (lv' := [(1, .int (nI j)), (0, .ref (q 0))]) dX6_goHour_4 rfl (by decide) rfl ?_
    refine j_aload_n 1 dX6_goHour_5 rfl rfl ?_
    refine j_dup dX6_goHour_6 rfl ?_
    refine j_get (v := .int h) 0 dX6_goHour_7 fX6_86 rfl rfl ?_
    refine j_iconst (v := 1) dX6_goHour_10 (by decide) ?_
    refine j_iadd dX6_goHour_11 ?_
    refine j_put (v := .int (h + 1)) (ws' := mb x q (kf, tf, sl, bf, n, d, h + 1) v g pw kp o) 0 dX6_goHour_12 fX6_86 rfl rfl rfl (Nat.le_of_ble_eq_true rfl) rfl ?_
    refine j_iload_n 0 dX6_goHour_15 rfl rfl ?_
    refine j_iconst (v := (-1)) dX6_goHour_16 (by decide) ?_
    refine j_icmp_eq (tgt := 43) dX6_goHour_17 (by decide) (fun h17 => absurd h17 (fun e => by have e1 := (oI_m1 (o := some j) (fun i e => by cases e; omega)).mp e; cases e1)) (fun h17 => ?_)
    refine j_aload_n 1 dX6_goHour_20 rfl rfl ?_
    refine j_get (v := .ref (q 4)) 0 dX6_goHour_21 fX6_20 rfl rfl ?_
    refine j_iload_n 0 dX6_goHour_24 rfl rfl ?_
    refine j_dup2 dX6_goHour_25 rfl rfl ?_
    refine j_ialdN (i := j) (f := bf) 4 dX6_goHour_26 rfl (by omega) (by decide) ?_
    refine j_iconst (v := 1) dX6_goHour_27 (by decide) ?_
    refine j_iadd dX6_goHour_28 ?_
    refine j_iastN (i := j) (f := bf) (ws' := mb x q (kf, tf, sl, upd bf j ((bf j) + 1), n, d, h + 1) v g pw kp o) 4 dX6_goHour_29 rfl (by omega) (by decide) rfl ?_
    refine j_aload_n 1 dX6_goHour_30 rfl rfl ?_
    refine j_get (v := .ref (q 2)) 0 dX6_goHour_31 fX6_13 rfl rfl ?_
    refine j_iload_n 0 dX6_goHour_34 rfl rfl ?_
    refine j_dup2 dX6_goHour_35 rfl rfl ?_
    refine j_ialdN (i := j) (f := tf) 2 dX6_goHour_36 rfl (by omega) (by decide) ?_
    refine j_aload_n 1 dX6_goHour_37 rfl rfl ?_
    refine j_get (v := .int d) 0 dX6_goHour_38 fX6_80 rfl rfl ?_
    refine j_iadd dX6_goHour_41 ?_
    refine j_iastN (i := j) (f := tf) (ws' := mb x q (kf, upd tf j ((tf j) + d), sl, upd bf j ((bf j) + 1), n, d, h + 1) v g pw kp o) 2 dX6_goHour_42 rfl (by omega) (by decide) rfl ?_
    refine j_iconst (v := nI 0) dX6_goHour_43 (by decide) ?_
    refine j_istore_n (lv' := [(2, .int (nI 0)), (1, .int (nI j)), (0, .ref (q 0))]) dX6_goHour_44 rfl (by decide) rfl ?_
    refine j_lv [2, 1, 0] (lv' := [(0, .ref (q 0)), (1, .int (nI j)), (2, .int (nI 0))]) rfl ?_
    have hl := lp_goHour (M := M) (k0 := 0) (n0 := 0) l x q kf (upd tf j (tf j + d)) sl (upd bf j (bf j + 1)) n d (h + 1) (some j) hn (fun j e => by cases e; exact wb_lt hw) (fun i hi => by obtain ⟨k, hk, ht⟩ := hok i hi; exact pT1_nat (o := (some j)) he hd hk ht) v g pw kp o (n + 1) 0 (by omega) (by omega)
    rw [mix_0, mix_0] at hl
    have e : ph (kf, tf, sl, bf, n, d, h) = (kf, mix n (pT kf (upd tf j (tf j + d)) sl (h + 1) (some j)) (upd tf j (tf j + d)), mix n (pS kf (upd tf j (tf j + d)) sl (h + 1) (some j)) sl, upd bf j (bf j + 1), n, d, h + 1) := by simp only [ph, hw, pT1, pB]
    rw [e]
    exact hl
set_option maxHeartbeats 4000000 in
set_option maxRecDepth 100000 in
theorem lp_save {M : Mx} (l : Launch) (x : Cx) (q : Nat → Nat) (kf tf : Nat → Int32) (sl : Nat → Bool) (bf : Nat → Int32) (n : Nat) (d h : Int32) (v : SS) (g : PG) (pw : Bool × Nat) (kp : KS) (ho as : Nat) (sv sd wy : Nat → Int32) (se hh : Int64) (lv : Nat) (hlv : lv ≤ 1) {k0 n0 : Nat}  : ∀ (m : Nat) (i : Nat), i ≤ 5 → 5 - i < m → J M l x cX6_save 3 yX6_save 0 (eV (mb x q (kf, tf, sl, bf, n, d, h) v g pw kp (ho, as, svW lv (kf, tf, sl, bf, n, d, h) sv, sd, wy, se, hh))) k0 n0 2 [(0, .ref (q 0)), (1, .int (nI lv)), (2, .int (nI i))] [] (mb x q (kf, tf, sl, bf, n, d, h) v g pw kp (ho, as, svP lv tf sl sv i, sd, wy, se, hh)) := by
  intro m; induction m with
  | zero => intro i hc0 hm; exact absurd hm (Nat.not_lt_zero _)
  | succ m ih =>
    intro i hc0 hm
    refine j_iload_n 2 dX6_save_2 rfl rfl ?_
    refine j_iconst (v := 5) dX6_save_3 (by decide) ?_
    refine j_icmpN_ge (a := i) (b := 5) (by omega) (by omega) (tgt := 57) dX6_save_4 (by decide) (fun h4 => ?_) (fun h4 => ?_)
    · skip
      refine j_aload_n 0 dX6_save_57 rfl rfl ?_
      refine j_get (v := .ref (q 8)) 0 dX6_save_58 fX6_33 rfl rfl ?_
      refine j_bipush (v := 11) dX6_save_61 (by decide) ?_
      refine j_iload_n 1 dX6_save_63 rfl rfl ?_
      refine j_imul dX6_save_64 ?_
      refine j_topi (b := nI (11 * lv)) (pk_mul 11 lv) ?_
      refine j_bipush (v := 10) dX6_save_65 (by decide) ?_
      refine j_iadd dX6_save_67 ?_
      refine j_topi (b := nI (11 * lv + 10)) (nI_add _ _) ?_
      refine j_aload_n 0 dX6_save_68 rfl rfl ?_
      refine j_get (v := .int h) 0 dX6_save_69 fX6_86 rfl rfl ?_
      refine j_iastN (i := 11 * lv + 10) (f := svP lv tf sl sv i) (ws' := mb x q (kf, tf, sl, bf, n, d, h) v g pw kp (ho, as, upd (svP lv tf sl sv i) (11 * lv + 10) h, sd, wy, se, hh)) 8 dX6_save_72 rfl (by omega) (by decide) rfl ?_
      exact j_vret _ dX6_save_73 (List.Perm.refl _) ⟨rfl, by rw [show i = 5 by omega]; rfl⟩
    · skip
      refine j_aload_n 0 dX6_save_7 rfl rfl ?_
      refine j_get (v := .ref (q 8)) 0 dX6_save_8 fX6_33 rfl rfl ?_
      refine j_bipush (v := 11) dX6_save_11 (by decide) ?_
      refine j_iload_n 1 dX6_save_13 rfl rfl ?_
      refine j_imul dX6_save_14 ?_
      refine j_topi (b := nI (11 * lv)) (pk_mul 11 lv) ?_
      refine j_iload_n 2 dX6_save_15 rfl rfl ?_
      refine j_iadd dX6_save_16 ?_
      refine j_topi (b := nI (11 * lv + i)) (nI_add _ _) ?_
      refine j_aload_n 0 dX6_save_17 rfl rfl ?_
      refine j_get (v := .ref (q 2)) 0 dX6_save_18 fX6_13 rfl rfl ?_
      refine j_iload_n 2 dX6_save_21 rfl rfl ?_
      refine j_ialdN (i := i) (f := tf) 2 dX6_save_22 rfl (by omega) (by decide) ?_
      refine j_iastN (i := 11 * lv + i) (f := svP lv tf sl sv i) (ws' := mb x q (kf, tf, sl, bf, n, d, h) v g pw kp (ho, as, upd (svP lv tf sl sv i) (11 * lv + i) (tf i), sd, wy, se, hh)) 8 dX6_save_23 rfl (by omega) (by decide) rfl ?_
      refine j_aload_n 0 dX6_save_24 rfl rfl ?_
      refine j_get (v := .ref (q 8)) 0 dX6_save_25 fX6_33 rfl rfl ?_
      refine j_bipush (v := 11) dX6_save_28 (by decide) ?_
      refine j_iload_n 1 dX6_save_30 rfl rfl ?_
      refine j_imul dX6_save_31 ?_
      refine j_topi (b := nI (11 * lv)) (pk_mul 11 lv) ?_
      refine j_iconst (v := 5) dX6_save_32 (by decide) ?_
      refine j_iadd dX6_save_33 ?_
      refine j_topi (b := nI (11 * lv + 5)) (nI_add _ _) ?_
      refine j_iload_n 2 dX6_save_34 rfl rfl ?_
      refine j_iadd dX6_save_35 ?_
      refine j_topi (b := nI (11 * lv + 5 + i)) (nI_add _ _) ?_
      refine j_aload_n 0 dX6_save_36 rfl rfl ?_
      refine j_get (v := .ref (q 3)) 0 dX6_save_37 fX6_16 rfl rfl ?_
      refine j_iload_n 2 dX6_save_40 rfl rfl ?_
      refine j_zaldB (i := i) (f := sl) 3 dX6_save_41 rfl (by omega) (by decide) ?_
      refine j_ifb_eq (b := sl i) (tgt := 49) dX6_save_42 (by decide) (fun h42 => ?_) (fun h42 => ?_)
      · skip
        refine j_iconst (v := bI false) dX6_save_49 (by decide) ?_
        refine j_iastN (i := 11 * lv + 5 + i) (f := upd (svP lv tf sl sv i) (11 * lv + i) (tf i)) (ws' := mb x q (kf, tf, sl, bf, n, d, h) v g pw kp (ho, as, upd (upd (svP lv tf sl sv i) (11 * lv + i) (tf i)) (11 * lv + 5 + i) (bI false), sd, wy, se, hh)) 8 dX6_save_50 rfl (by omega) (by decide) rfl ?_
        refine j_iinc (v := nI (i + 1)) (lv' := [(2, .int (nI (i + 1))), (0, .ref (q 0)), (1, .int (nI lv))]) 2 dX6_save_51 rfl (nI_1 i) (by decide) rfl ?_
        refine j_goto (tgt := 2) dX6_save_54 (by decide) ?_
        refine j_lv [1, 2, 0] (lv' := [(0, .ref (q 0)), (1, .int (nI lv)), (2, .int (nI (i + 1)))]) rfl ?_
        refine j_ws (ws' := mb x q (kf, tf, sl, bf, n, d, h) v g pw kp (ho, as, svP lv tf sl sv (i + 1), sd, wy, se, hh)) (by first | (rw [← svP_s lv tf sl sv (show i < 5 by omega), h42]; rfl) | (rw [← svP_s lv tf sl sv (show i < 5 by omega), h42]; done)) ?_
        exact ih (i + 1) (by omega) (by omega)
      · skip
        refine j_iconst (v := bI true) dX6_save_45 (by decide) ?_
        refine j_goto (tgt := 50) dX6_save_46 (by decide) ?_
        refine j_iastN (i := 11 * lv + 5 + i) (f := upd (svP lv tf sl sv i) (11 * lv + i) (tf i)) (ws' := mb x q (kf, tf, sl, bf, n, d, h) v g pw kp (ho, as, upd (upd (svP lv tf sl sv i) (11 * lv + i) (tf i)) (11 * lv + 5 + i) (bI true), sd, wy, se, hh)) 8 dX6_save_50 rfl (by omega) (by decide) rfl ?_
        refine j_iinc (v := nI (i + 1)) (lv' := [(2, .int (nI (i + 1))), (0, .ref (q 0)), (1, .int (nI lv))]) 2 dX6_save_51 rfl (nI_1 i) (by decide) rfl ?_
        refine j_goto (tgt := 2) dX6_save_54 (by decide) ?_
        refine j_lv [1, 2, 0] (lv' := [(0, .ref (q 0)), (1, .int (nI lv)), (2, .int (nI (i + 1)))]) rfl ?_
        refine j_ws (ws' := mb x q (kf, tf, sl, bf, n, d, h) v g pw kp (ho, as, svP lv tf sl sv (i + 1), sd, wy, se, hh)) (by first | (rw [← svP_s lv tf sl sv (show i < 5 by omega), h42]; rfl) | (rw [← svP_s lv tf sl sv (show i < 5 by omega), h42]; done)) ?_
        exact ih (i + 1) (by omega) (by omega)
set_option maxHeartbeats 4000000 in
set_option maxRecDepth 100000 in
theorem tX6_save (l : Launch) (x : Cx) (q : Nat → Nat) (kf tf : Nat → Int32) (sl : Nat → Bool) (bf : Nat → Int32) (n : Nat) (d h : Int32) (v : SS) (g : PG) (pw : Bool × Nat) (kp : KS) (ho as : Nat) (sv sd wy : Nat → Int32) (se hh : Int64) (lv : Nat) (hlv : lv ≤ 1) : MC l x 0 0 0 yX6_save cX6_save 3 none [.ref (q 0), .int (nI lv)] (mb x q (kf, tf, sl, bf, n, d, h) v g pw kp (ho, as, sv, sd, wy, se, hh)) (eV (mb x q (kf, tf, sl, bf, n, d, h) v g pw kp (ho, as, svW lv (kf, tf, sl, bf, n, d, h) sv, sd, wy, se, hh))) := by
  refine MC.of (by decide) (Nat.le_of_ble_eq_true rfl) eV_fit (fun M => ?_)
  show J M l x cX6_save 3 yX6_save 0 (eV (mb x q (kf, tf, sl, bf, n, d, h) v g pw kp (ho, as, svW lv (kf, tf, sl, bf, n, d, h) sv, sd, wy, se, hh))) 0 0 0 [(0, .ref (q 0)), (1, .int (nI lv))] [] (mb x q (kf, tf, sl, bf, n, d, h) v g pw kp (ho, as, sv, sd, wy, se, hh))
  refine j_iconst (v := nI 0) dX6_save_0 (by decide) ?_
  refine j_istore_n (lv' := [(2, .int (nI 0)), (0, .ref (q 0)), (1, .int (nI lv))]) dX6_save_1 rfl (by decide) rfl ?_
  refine j_lv [1, 2, 0] (lv' := [(0, .ref (q 0)), (1, .int (nI lv)), (2, .int (nI 0))]) rfl ?_
  have hl := lp_save (M := M) (k0 := 0) (n0 := 0) l x q kf tf sl bf n d h v g pw kp ho as sv sd wy se hh lv hlv 6 0 (by omega) (by omega)
  rw [svP_0] at hl
  exact hl
set_option maxHeartbeats 4000000 in
set_option maxRecDepth 100000 in
theorem lp_load {M : Mx} (l : Launch) (x : Cx) (q : Nat → Nat) (kf tf : Nat → Int32) (sl : Nat → Bool) (bf : Nat → Int32) (n : Nat) (d h : Int32) (v : SS) (g : PG) (pw : Bool × Nat) (kp : KS) (ho as : Nat) (sv sd wy : Nat → Int32) (se hh : Int64) (lv : Nat) (hlv : lv ≤ 1) {k0 n0 : Nat}  : ∀ (m : Nat) (i : Nat), i ≤ 5 → 5 - i < m → J M l x cX6_load 3 yX6_load 0 (eV (mb x q (ldU lv (kf, tf, sl, bf, n, d, h) sv) v g pw kp (ho, as, sv, sd, wy, se, hh))) k0 n0 2 [(0, .ref (q 0)), (1, .int (nI lv)), (2, .int (nI i))] [] (mb x q (kf, mix i (fun i => sv (11 * lv + i)) tf, mix i (fun i => decide (sv (11 * lv + 5 + i) = 1)) sl, bf, n, d, h) v g pw kp (ho, as, sv, sd, wy, se, hh)) := by
  intro m; induction m with
  | zero => intro i hc0 hm; exact absurd hm (Nat.not_lt_zero _)
  | succ m ih =>
    intro i hc0 hm
    refine j_iload_n 2 dX6_load_2 rfl rfl ?_
    refine j_iconst (v := 5) dX6_load_3 (by decide) ?_
    refine j_icmpN_ge (a := i) (b := 5) (by omega) (by omega) (tgt := 58) dX6_load_4 (by decide) (fun h4 => ?_) (fun h4 => ?_)
    · skip
      refine j_aload_n 0 dX6_load_58 rfl rfl ?_
      refine j_aload_n 0 dX6_load_59 rfl rfl ?_
      refine j_get (v := .ref (q 8)) 0 dX6_load_60 fX6_33 rfl rfl ?_
      refine j_bipush (v := 11) dX6_load_63 (by decide) ?_
      refine j_iload_n 1 dX6_load_65 rfl rfl ?_
      refine j_imul dX6_load_66 ?_
      refine j_topi (b := nI (11 * lv)) (pk_mul 11 lv) ?_
      refine j_bipush (v := 10) dX6_load_67 (by decide) ?_
      refine j_iadd dX6_load_69 ?_
      refine j_topi (b := nI (11 * lv + 10)) (nI_add _ _) ?_
      refine j_ialdN (i := 11 * lv + 10) (f := sv) 8 dX6_load_70 rfl (by omega) (by decide) ?_
      refine j_put (v := .int (sv (11 * lv + 10))) (ws' := mb x q (kf, mix i (fun i => sv (11 * lv + i)) tf, mix i (fun i => decide (sv (11 * lv + 5 + i) = 1)) sl, bf, n, d, sv (11 * lv + 10)) v g pw kp (ho, as, sv, sd, wy, se, hh)) 0 dX6_load_71 fX6_86 rfl rfl rfl (Nat.le_of_ble_eq_true rfl) rfl ?_
      exact j_vret _ dX6_load_74 (List.Perm.refl _) ⟨rfl, by rw [show i = 5 by omega]; rfl⟩
    · skip
      refine j_aload_n 0 dX6_load_7 rfl rfl ?_
      refine j_get (v := .ref (q 2)) 0 dX6_load_8 fX6_13 rfl rfl ?_
      refine j_iload_n 2 dX6_load_11 rfl rfl ?_
      refine j_aload_n 0 dX6_load_12 rfl rfl ?_
      refine j_get (v := .ref (q 8)) 0 dX6_load_13 fX6_33 rfl rfl ?_
      refine j_bipush (v := 11) dX6_load_16 (by decide) ?_
      refine j_iload_n 1 dX6_load_18 rfl rfl ?_
      refine j_imul dX6_load_19 ?_
      refine j_topi (b := nI (11 * lv)) (pk_mul 11 lv) ?_
      refine j_iload_n 2 dX6_load_20 rfl rfl ?_
      refine j_iadd dX6_load_21 ?_
      refine j_topi (b := nI (11 * lv + i)) (nI_add _ _) ?_
      refine j_ialdN (i := 11 * lv + i) (f := sv) 8 dX6_load_22 rfl (by omega) (by decide) ?_
      refine j_iastN (i := i) (f := mix i (fun i => sv (11 * lv + i)) tf) (ws' := mb x q (kf, upd (mix i (fun i => sv (11 * lv + i)) tf) i (sv (11 * lv + i)), mix i (fun i => decide (sv (11 * lv + 5 + i) = 1)) sl, bf, n, d, h) v g pw kp (ho, as, sv, sd, wy, se, hh)) 2 dX6_load_23 rfl (by omega) (by decide) rfl ?_
      refine j_aload_n 0 dX6_load_24 rfl rfl ?_
      refine j_get (v := .ref (q 3)) 0 dX6_load_25 fX6_16 rfl rfl ?_
      refine j_iload_n 2 dX6_load_28 rfl rfl ?_
      refine j_aload_n 0 dX6_load_29 rfl rfl ?_
      refine j_get (v := .ref (q 8)) 0 dX6_load_30 fX6_33 rfl rfl ?_
      refine j_bipush (v := 11) dX6_load_33 (by decide) ?_
      refine j_iload_n 1 dX6_load_35 rfl rfl ?_
      refine j_imul dX6_load_36 ?_
      refine j_topi (b := nI (11 * lv)) (pk_mul 11 lv) ?_
      refine j_iconst (v := 5) dX6_load_37 (by decide) ?_
      refine j_iadd dX6_load_38 ?_
      refine j_topi (b := nI (11 * lv + 5)) (nI_add _ _) ?_
      refine j_iload_n 2 dX6_load_39 rfl rfl ?_
      refine j_iadd dX6_load_40 ?_
      refine j_topi (b := nI (11 * lv + 5 + i)) (nI_add _ _) ?_
      refine j_ialdN (i := 11 * lv + 5 + i) (f := sv) 8 dX6_load_41 rfl (by omega) (by decide) ?_
      refine j_iconst (v := 1) dX6_load_42 (by decide) ?_
      refine j_icmp_ne (tgt := 50) dX6_load_43 (by decide) (fun h43 => ?_) (fun h43 => ?_)
      · skip
        refine j_iconst (v := bI false) dX6_load_50 (by decide) ?_
        refine j_zastB (i := i) (f := mix i (fun i => decide (sv (11 * lv + 5 + i) = 1)) sl) (ws' := mb x q (kf, upd (mix i (fun i => sv (11 * lv + i)) tf) i (sv (11 * lv + i)), bup (mix i (fun i => decide (sv (11 * lv + 5 + i) = 1)) sl) i false, bf, n, d, h) v g pw kp (ho, as, sv, sd, wy, se, hh)) 3 false dX6_load_51 rfl (by omega) (by decide) rfl ?_
        refine j_iinc (v := nI (i + 1)) (lv' := [(2, .int (nI (i + 1))), (0, .ref (q 0)), (1, .int (nI lv))]) 2 dX6_load_52 rfl (nI_1 i) (by decide) rfl ?_
        refine j_goto (tgt := 2) dX6_load_55 (by decide) ?_
        refine j_lv [1, 2, 0] (lv' := [(0, .ref (q 0)), (1, .int (nI lv)), (2, .int (nI (i + 1)))]) rfl ?_
        refine j_ws (ws' := mb x q (kf, mix (i + 1) (fun i => sv (11 * lv + i)) tf, mix (i + 1) (fun i => decide (sv (11 * lv + 5 + i) = 1)) sl, bf, n, d, h) v g pw kp (ho, as, sv, sd, wy, se, hh)) (by rw [mix_upd _ _ _ rfl, mix_bup _ _ _ (by first | exact (decide_eq_true h43).symm | exact (decide_eq_false h43).symm)]) ?_
        exact ih (i + 1) (by omega) (by omega)
      · skip
        refine j_iconst (v := bI true) dX6_load_46 (by decide) ?_
        refine j_goto (tgt := 51) dX6_load_47 (by decide) ?_
        refine j_zastB (i := i) (f := mix i (fun i => decide (sv (11 * lv + 5 + i) = 1)) sl) (ws' := mb x q (kf, upd (mix i (fun i => sv (11 * lv + i)) tf) i (sv (11 * lv + i)), bup (mix i (fun i => decide (sv (11 * lv + 5 + i) = 1)) sl) i true, bf, n, d, h) v g pw kp (ho, as, sv, sd, wy, se, hh)) 3 true dX6_load_51 rfl (by omega) (by decide) rfl ?_
        refine j_iinc (v := nI (i + 1)) (lv' := [(2, .int (nI (i + 1))), (0, .ref (q 0)), (1, .int (nI lv))]) 2 dX6_load_52 rfl (nI_1 i) (by decide) rfl ?_
        refine j_goto (tgt := 2) dX6_load_55 (by decide) ?_
        refine j_lv [1, 2, 0] (lv' := [(0, .ref (q 0)), (1, .int (nI lv)), (2, .int (nI (i + 1)))]) rfl ?_
        refine j_ws (ws' := mb x q (kf, mix (i + 1) (fun i => sv (11 * lv + i)) tf, mix (i + 1) (fun i => decide (sv (11 * lv + 5 + i) = 1)) sl, bf, n, d, h) v g pw kp (ho, as, sv, sd, wy, se, hh)) (by rw [mix_upd _ _ _ rfl, mix_bup _ _ _ (by first | exact (decide_eq_true h43).symm | exact (decide_eq_false h43).symm)]) ?_
        exact ih (i + 1) (by omega) (by omega)
set_option maxHeartbeats 4000000 in
set_option maxRecDepth 100000 in
theorem tX6_load (l : Launch) (x : Cx) (q : Nat → Nat) (kf tf : Nat → Int32) (sl : Nat → Bool) (bf : Nat → Int32) (n : Nat) (d h : Int32) (v : SS) (g : PG) (pw : Bool × Nat) (kp : KS) (ho as : Nat) (sv sd wy : Nat → Int32) (se hh : Int64) (lv : Nat) (hlv : lv ≤ 1) : MC l x 0 0 0 yX6_load cX6_load 3 none [.ref (q 0), .int (nI lv)] (mb x q (kf, tf, sl, bf, n, d, h) v g pw kp (ho, as, sv, sd, wy, se, hh)) (eV (mb x q (ldU lv (kf, tf, sl, bf, n, d, h) sv) v g pw kp (ho, as, sv, sd, wy, se, hh))) := by
  refine MC.of (by decide) (Nat.le_of_ble_eq_true rfl) eV_fit (fun M => ?_)
  show J M l x cX6_load 3 yX6_load 0 (eV (mb x q (ldU lv (kf, tf, sl, bf, n, d, h) sv) v g pw kp (ho, as, sv, sd, wy, se, hh))) 0 0 0 [(0, .ref (q 0)), (1, .int (nI lv))] [] (mb x q (kf, tf, sl, bf, n, d, h) v g pw kp (ho, as, sv, sd, wy, se, hh))
  refine j_iconst (v := nI 0) dX6_load_0 (by decide) ?_
  refine j_istore_n (lv' := [(2, .int (nI 0)), (0, .ref (q 0)), (1, .int (nI lv))]) dX6_load_1 rfl (by decide) rfl ?_
  refine j_lv [1, 2, 0] (lv' := [(0, .ref (q 0)), (1, .int (nI lv)), (2, .int (nI 0))]) rfl ?_
  have hl := lp_load (M := M) (k0 := 0) (n0 := 0) l x q kf tf sl bf n d h v g pw kp ho as sv sd wy se hh lv hlv 6 0 (by omega) (by omega)
  rw [mix_0, mix_0] at hl
  exact hl
set_option maxHeartbeats 4000000 in
set_option maxRecDepth 100000 in
theorem lp_mbegin {M : Mx} (l : Launch) (x : Cx) (q : Nat → Nat) (kf tf : Nat → Int32) (sl : Nat → Bool) (bf : Nat → Int32) (n : Nat) (d h : Int32) (v : SS) (g : PG) (pw : Bool × Nat) (kp : KS) (ho as : Nat) (sv sd wy : Nat → Int32) (se hh : Int64) {k0 n0 : Nat}  : ∀ (m : Nat) (i : Nat), i ≤ 5 → 5 - i < m → J M l x cX6_begin 2 yX6_begin 1 (eV (mb x q (kf, tf, sl, bf, n, d, h) v g pw kp (bgO (kf, tf, sl, bf, n, d, h) (ho, as, sv, sd, wy, se, hh)))) k0 n0 7 [(0, .ref (q 0)), (1, .int (nI i))] [] (mb x q (kf, tf, sl, bf, n, d, h) v g pw kp (ho, as, svW 0 (kf, tf, sl, bf, n, d, h) sv, mix i bf sd, wy, se, hh)) := by
  intro m; induction m with
  | zero => intro i hc0 hm; exact absurd hm (Nat.not_lt_zero _)
  | succ m ih =>
    intro i hc0 hm
    refine j_iload_n 1 dX6_begin_7 rfl rfl ?_
    refine j_iconst (v := 5) dX6_begin_8 (by decide) ?_
    refine j_icmpN_ge (a := i) (b := 5) (by omega) (by omega) (tgt := 30) dX6_begin_9 (by decide) (fun h9 => ?_) (fun h9 => ?_)
    · skip
      exact j_vret _ dX6_begin_30 (List.Perm.refl _) ⟨rfl, by rw [show i = 5 by omega]; rfl⟩
    · skip
      refine j_aload_n 0 dX6_begin_12 rfl rfl ?_
      refine j_get (v := .ref (q 9)) 0 dX6_begin_13 fX6_36 rfl rfl ?_
      refine j_iload_n 1 dX6_begin_16 rfl rfl ?_
      refine j_aload_n 0 dX6_begin_17 rfl rfl ?_
      refine j_get (v := .ref (q 4)) 0 dX6_begin_18 fX6_20 rfl rfl ?_
      refine j_iload_n 1 dX6_begin_21 rfl rfl ?_
      refine j_ialdN (i := i) (f := bf) 4 dX6_begin_22 rfl (by omega) (by decide) ?_
      refine j_iastN (i := i) (f := mix i bf sd) (ws' := mb x q (kf, tf, sl, bf, n, d, h) v g pw kp (ho, as, svW 0 (kf, tf, sl, bf, n, d, h) sv, upd (mix i bf sd) i (bf i), wy, se, hh)) 9 dX6_begin_23 rfl (by omega) (by decide) rfl ?_
      refine j_iinc (v := nI (i + 1)) (lv' := [(1, .int (nI (i + 1))), (0, .ref (q 0))]) 1 dX6_begin_24 rfl (nI_1 i) (by decide) rfl ?_
      refine j_goto (tgt := 7) dX6_begin_27 (by decide) ?_
      refine j_lv [1, 0] (lv' := [(0, .ref (q 0)), (1, .int (nI (i + 1)))]) rfl ?_
      refine j_ws (ws' := mb x q (kf, tf, sl, bf, n, d, h) v g pw kp (ho, as, svW 0 (kf, tf, sl, bf, n, d, h) sv, mix (i + 1) bf sd, wy, se, hh)) (by rw [mix_upd _ _ _ rfl]) ?_
      exact ih (i + 1) (by omega) (by omega)
set_option maxHeartbeats 4000000 in
set_option maxRecDepth 100000 in
theorem tX6_begin (l : Launch) (x : Cx) (q : Nat → Nat) (kf tf : Nat → Int32) (sl : Nat → Bool) (bf : Nat → Int32) (n : Nat) (d h : Int32) (v : SS) (g : PG) (pw : Bool × Nat) (kp : KS) (ho as : Nat) (sv sd wy : Nat → Int32) (se hh : Int64) : MC l x 1 0 0 yX6_begin cX6_begin 2 none [.ref (q 0)] (mb x q (kf, tf, sl, bf, n, d, h) v g pw kp (ho, as, sv, sd, wy, se, hh)) (eV (mb x q (kf, tf, sl, bf, n, d, h) v g pw kp (bgO (kf, tf, sl, bf, n, d, h) (ho, as, sv, sd, wy, se, hh)))) := by
  refine MC.of (by decide) (Nat.le_of_ble_eq_true rfl) eV_fit (fun M => ?_)
  show J M l x cX6_begin 2 yX6_begin 1 (eV (mb x q (kf, tf, sl, bf, n, d, h) v g pw kp (bgO (kf, tf, sl, bf, n, d, h) (ho, as, sv, sd, wy, se, hh)))) 0 0 0 [(0, .ref (q 0))] [] (mb x q (kf, tf, sl, bf, n, d, h) v g pw kp (ho, as, sv, sd, wy, se, hh))
  refine j_aload_n 0 dX6_begin_0 rfl rfl ?_
  refine j_iconst (v := nI 0) dX6_begin_1 (by decide) ?_
  refine j_cVv (As := [.int (nI 0)]) (rest := []) (wr := []) (ws' := mb x q (kf, tf, sl, bf, n, d, h) v g pw kp (ho, as, svW 0 (kf, tf, sl, bf, n, d, h) sv, sd, wy, se, hh)) (tX6_save l x q kf tf sl bf n d h v g pw kp ho as sv sd wy se hh 0 (by omega)) kX6_save 0 rfl rfl rfl vX6_99 dX6_begin_2 (by decide) rfl rfl (Nat.le_of_ble_eq_true rfl) (pm_0 _) (List.append_nil _) ?_
  refine j_iconst (v := nI 0) dX6_begin_5 (by decide) ?_
  refine j_istore_n (lv' := [(1, .int (nI 0)), (0, .ref (q 0))]) dX6_begin_6 rfl (by decide) rfl ?_
  refine j_lv [1, 0] (lv' := [(0, .ref (q 0)), (1, .int (nI 0))]) rfl ?_
  have hl := lp_mbegin (M := M) (k0 := 0) (n0 := 0) l x q kf tf sl bf n d h v g pw kp ho as sv sd wy se hh 6 0 (by omega) (by omega)
  rw [mix_0] at hl
  exact hl
set_option maxHeartbeats 4000000 in
set_option maxRecDepth 100000 in
theorem lp_mend {M : Mx} (l : Launch) (x : Cx) (q : Nat → Nat) (kf tf : Nat → Int32) (sl : Nat → Bool) (bf : Nat → Int32) (n : Nat) (d h : Int32) (v : SS) (g : PG) (pw : Bool × Nat) (kp : KS) (ho as : Nat) (sv sd wy : Nat → Int32) (se hh : Int64) {k0 n0 : Nat}  : ∀ (m : Nat) (i : Nat), i ≤ 5 → 5 - i < m → J M l x cX6_end 2 yX6_end 1 (eV (mb x q (enU (kf, tf, sl, bf, n, d, h) (ho, as, sv, sd, wy, se, hh)) v g pw kp (ho, as, sv, sd, wy, se, hh))) k0 n0 7 [(0, .ref (q 0)), (1, .int (nI i))] [] (mb x q (kf, mix 5 (fun i => sv (11 * 0 + i)) tf, mix 5 (fun i => decide (sv (11 * 0 + 5 + i) = 1)) sl, mix i sd bf, n, d, sv (11 * 0 + 10)) v g pw kp (ho, as, sv, sd, wy, se, hh)) := by
  intro m; induction m with
  | zero => intro i hc0 hm; exact absurd hm (Nat.not_lt_zero _)
  | succ m ih =>
    intro i hc0 hm
    refine j_iload_n 1 dX6_end_7 rfl rfl ?_
    refine j_iconst (v := 5) dX6_end_8 (by decide) ?_
    refine j_icmpN_ge (a := i) (b := 5) (by omega) (by omega) (tgt := 30) dX6_end_9 (by decide) (fun h9 => ?_) (fun h9 => ?_)
    · skip
      exact j_vret _ dX6_end_30 (List.Perm.refl _) ⟨rfl, by rw [show i = 5 by omega]; rfl⟩
    · skip
      refine j_aload_n 0 dX6_end_12 rfl rfl ?_
      refine j_get (v := .ref (q 4)) 0 dX6_end_13 fX6_20 rfl rfl ?_
      refine j_iload_n 1 dX6_end_16 rfl rfl ?_
      refine j_aload_n 0 dX6_end_17 rfl rfl ?_
      refine j_get (v := .ref (q 9)) 0 dX6_end_18 fX6_36 rfl rfl ?_
      refine j_iload_n 1 dX6_end_21 rfl rfl ?_
      refine j_ialdN (i := i) (f := sd) 9 dX6_end_22 rfl (by omega) (by decide) ?_
      refine j_iastN (i := i) (f := mix i sd bf) (ws' := mb x q (kf, mix 5 (fun i => sv (11 * 0 + i)) tf, mix 5 (fun i => decide (sv (11 * 0 + 5 + i) = 1)) sl, upd (mix i sd bf) i (sd i), n, d, sv (11 * 0 + 10)) v g pw kp (ho, as, sv, sd, wy, se, hh)) 4 dX6_end_23 rfl (by omega) (by decide) rfl ?_
      refine j_iinc (v := nI (i + 1)) (lv' := [(1, .int (nI (i + 1))), (0, .ref (q 0))]) 1 dX6_end_24 rfl (nI_1 i) (by decide) rfl ?_
      refine j_goto (tgt := 7) dX6_end_27 (by decide) ?_
      refine j_lv [1, 0] (lv' := [(0, .ref (q 0)), (1, .int (nI (i + 1)))]) rfl ?_
      refine j_ws (ws' := mb x q (kf, mix 5 (fun i => sv (11 * 0 + i)) tf, mix 5 (fun i => decide (sv (11 * 0 + 5 + i) = 1)) sl, mix (i + 1) sd bf, n, d, sv (11 * 0 + 10)) v g pw kp (ho, as, sv, sd, wy, se, hh)) (by rw [mix_upd _ _ _ rfl]) ?_
      exact ih (i + 1) (by omega) (by omega)
set_option maxHeartbeats 4000000 in
set_option maxRecDepth 100000 in
theorem tX6_end (l : Launch) (x : Cx) (q : Nat → Nat) (kf tf : Nat → Int32) (sl : Nat → Bool) (bf : Nat → Int32) (n : Nat) (d h : Int32) (v : SS) (g : PG) (pw : Bool × Nat) (kp : KS) (ho as : Nat) (sv sd wy : Nat → Int32) (se hh : Int64) : MC l x 1 0 0 yX6_end cX6_end 2 none [.ref (q 0)] (mb x q (kf, tf, sl, bf, n, d, h) v g pw kp (ho, as, sv, sd, wy, se, hh)) (eV (mb x q (enU (kf, tf, sl, bf, n, d, h) (ho, as, sv, sd, wy, se, hh)) v g pw kp (ho, as, sv, sd, wy, se, hh))) := by
  refine MC.of (by decide) (Nat.le_of_ble_eq_true rfl) eV_fit (fun M => ?_)
  show J M l x cX6_end 2 yX6_end 1 (eV (mb x q (enU (kf, tf, sl, bf, n, d, h) (ho, as, sv, sd, wy, se, hh)) v g pw kp (ho, as, sv, sd, wy, se, hh))) 0 0 0 [(0, .ref (q 0))] [] (mb x q (kf, tf, sl, bf, n, d, h) v g pw kp (ho, as, sv, sd, wy, se, hh))
  refine j_aload_n 0 dX6_end_0 rfl rfl ?_
  refine j_iconst (v := nI 0) dX6_end_1 (by decide) ?_
  refine j_cVv (As := [.int (nI 0)]) (rest := []) (wr := []) (ws' := mb x q (kf, mix 5 (fun i => sv (11 * 0 + i)) tf, mix 5 (fun i => decide (sv (11 * 0 + 5 + i) = 1)) sl, bf, n, d, sv (11 * 0 + 10)) v g pw kp (ho, as, sv, sd, wy, se, hh)) (tX6_load l x q kf tf sl bf n d h v g pw kp ho as sv sd wy se hh 0 (by omega)) kX6_load 0 rfl rfl rfl vX6_103 dX6_end_2 (by decide) rfl rfl (Nat.le_of_ble_eq_true rfl) (pm_0 _) (List.append_nil _) ?_
  refine j_iconst (v := nI 0) dX6_end_5 (by decide) ?_
  refine j_istore_n (lv' := [(1, .int (nI 0)), (0, .ref (q 0))]) dX6_end_6 rfl (by decide) rfl ?_
  refine j_lv [1, 0] (lv' := [(0, .ref (q 0)), (1, .int (nI 0))]) rfl ?_
  have hl := lp_mend (M := M) (k0 := 0) (n0 := 0) l x q kf tf sl bf n d h v g pw kp ho as sv sd wy se hh 6 0 (by omega) (by omega)
  rw [mix_0] at hl
  exact hl
