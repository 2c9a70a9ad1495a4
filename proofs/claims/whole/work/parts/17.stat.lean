set_option maxHeartbeats 4000000 in
set_option maxRecDepth 100000 in
theorem tX5_isWithin (l : Launch) (x : Cx) (a b c : Int32) : MC l x 0 0 0 yX5_isWithin cX5_isWithin 3 (some .boolean) [.int a, .int b, .int c] ([]) (eI (bI (isW a b c)) []) := by
  refine MC.of (by decide) (Nat.le_of_ble_eq_true rfl) eB_fit (fun M => ?_)
  show J M l x cX5_isWithin 3 yX5_isWithin 0 (eI (bI (isW a b c)) []) 0 0 0 [(0, .int a), (1, .int b), (2, .int c)] [] ([])
  refine j_iload_n 0 dX5_isWithin_0 rfl rfl ?_
  refine j_iload_n 1 dX5_isWithin_1 rfl rfl ?_
  refine j_icmp_lt (tgt := 14) dX5_isWithin_2 (by decide) (fun h2 => ?_) (fun h2 => ?_)
  · skip
    refine j_iconst (v := 0) dX5_isWithin_14 (by decide) ?_
    exact j_iret _ dX5_isWithin_15 (List.Perm.refl _) ⟨by first | simp [isW, le_of_nlt h2, le_of_nlt h7, bI] | simp [isW, nle_of_lt h2, bI] | simp [isW, nle_of_lt h7, bI], by rfl⟩
  · skip
    refine j_iload_n 0 dX5_isWithin_5 rfl rfl ?_
    refine j_iload_n 2 dX5_isWithin_6 rfl rfl ?_
    refine j_icmp_gt (tgt := 14) dX5_isWithin_7 (by decide) (fun h7 => ?_) (fun h7 => ?_)
    · skip
      refine j_iconst (v := 0) dX5_isWithin_14 (by decide) ?_
      exact j_iret _ dX5_isWithin_15 (List.Perm.refl _) ⟨by first | simp [isW, le_of_nlt h2, le_of_nlt h7, bI] | simp [isW, nle_of_lt h2, bI] | simp [isW, nle_of_lt h7, bI], by rfl⟩
    · skip
      refine j_iconst (v := 1) dX5_isWithin_10 (by decide) ?_
      refine j_goto (tgt := 15) dX5_isWithin_11 (by decide) ?_
      exact j_iret _ dX5_isWithin_15 (List.Perm.refl _) ⟨by first | simp [isW, le_of_nlt h2, le_of_nlt h7, bI] | simp [isW, nle_of_lt h2, bI] | simp [isW, nle_of_lt h7, bI], by rfl⟩
set_option maxHeartbeats 4000000 in
set_option maxRecDepth 100000 in
theorem tX5_kindByLetter (l : Launch) (x : Cx) (c : Int32) : MC l x 0 0 0 yX5_kindByLetter cX5_kindByLetter 1 (some .int) [.int c] ([]) (eI (kbl c) []) := by
  refine MC.of (by decide) (Nat.le_of_ble_eq_true rfl) eI_fit (fun M => ?_)
  show J M l x cX5_kindByLetter 1 yX5_kindByLetter 0 (eI (kbl c) []) 0 0 0 [(0, .int c)] [] ([])
  refine j_iload_n 0 dX5_kindByLetter_0 rfl rfl ?_
  by_cases s1_108 : c = 108
  · refine j_tabC (108) 0 s1_108 (by decide) dX5_kindByLetter_1 rfl (by decide : (1 : Int) + 63 = ((64 : Nat) : Int)) ?_
    refine j_iconst (v := 0) dX5_kindByLetter_64 (by decide) ?_
    exact j_iret _ dX5_kindByLetter_65 (List.Perm.refl _) ⟨by simp [kbl, *], by rfl⟩
  by_cases s1_109 : c = 109
  · refine j_tabC (109) 1 s1_109 (by decide) dX5_kindByLetter_1 rfl (by decide : (1 : Int) + 69 = ((70 : Nat) : Int)) ?_
    refine j_iconst (v := 3) dX5_kindByLetter_70 (by decide) ?_
    exact j_iret _ dX5_kindByLetter_71 (List.Perm.refl _) ⟨by simp [kbl, *], by rfl⟩
  by_cases s1_112 : c = 112
  · refine j_tabC (112) 4 s1_112 (by decide) dX5_kindByLetter_1 rfl (by decide : (1 : Int) + 71 = ((72 : Nat) : Int)) ?_
    refine j_iconst (v := 4) dX5_kindByLetter_72 (by decide) ?_
    exact j_iret _ dX5_kindByLetter_73 (List.Perm.refl _) ⟨by simp [kbl, *], by rfl⟩
  by_cases s1_118 : c = 118
  · refine j_tabC (118) 10 s1_118 (by decide) dX5_kindByLetter_1 rfl (by decide : (1 : Int) + 67 = ((68 : Nat) : Int)) ?_
    refine j_iconst (v := 2) dX5_kindByLetter_68 (by decide) ?_
    exact j_iret _ dX5_kindByLetter_69 (List.Perm.refl _) ⟨by simp [kbl, *], by rfl⟩
  by_cases s1_119 : c = 119
  · refine j_tabC (119) 11 s1_119 (by decide) dX5_kindByLetter_1 rfl (by decide : (1 : Int) + 65 = ((66 : Nat) : Int)) ?_
    refine j_iconst (v := 1) dX5_kindByLetter_66 (by decide) ?_
    exact j_iret _ dX5_kindByLetter_67 (List.Perm.refl _) ⟨by simp [kbl, *], by rfl⟩
  refine j_tabD dX5_kindByLetter_1 (fun j hj => match j, hj with | 0, _ => Or.inr (lv_neT s1_108 (by decide)) | 1, _ => Or.inr (lv_neT s1_109 (by decide)) | 2, _ => Or.inl rfl | 3, _ => Or.inl rfl | 4, _ => Or.inr (lv_neT s1_112 (by decide)) | 5, _ => Or.inl rfl | 6, _ => Or.inl rfl | 7, _ => Or.inl rfl | 8, _ => Or.inl rfl | 9, _ => Or.inl rfl | 10, _ => Or.inr (lv_neT s1_118 (by decide)) | 11, _ => Or.inr (lv_neT s1_119 (by decide)) | j + 12, hj => absurd hj (by omega)) (by decide : (1 : Int) + 73 = ((74 : Nat) : Int)) ?_
  refine j_iconst (v := (-1)) dX5_kindByLetter_74 (by decide) ?_
  exact j_iret _ dX5_kindByLetter_75 (List.Perm.refl _) ⟨by simp [kbl, *], by rfl⟩
set_option maxHeartbeats 4000000 in
set_option maxRecDepth 100000 in
theorem tX5_isAlso (l : Launch) (x : Cx) (a o : Int32) : MC l x 0 0 0 yX5_isAlso cX5_isAlso 2 (some .boolean) [.int a, .int o] ([]) (eI (bI (alsoB a o)) []) := by
  refine MC.of (by decide) (Nat.le_of_ble_eq_true rfl) eB_fit (fun M => ?_)
  show J M l x cX5_isAlso 2 yX5_isAlso 0 (eI (bI (alsoB a o)) []) 0 0 0 [(0, .int a), (1, .int o)] [] ([])
  refine j_iload_n 1 dX5_isAlso_0 rfl rfl ?_
  refine j_if_eq (tgt := 19) dX5_isAlso_1 (by decide) (fun h1 => ?_) (fun h1 => ?_)
  · skip
    refine j_iconst (v := 1) dX5_isAlso_19 (by decide) ?_
    refine j_goto (tgt := 24) dX5_isAlso_20 (by decide) ?_
    exact j_iret _ dX5_isAlso_24 (List.Perm.refl _) ⟨by first | (simp [alsoB, bI, *]; done) | (subst h11; simp [alsoB, bI, *]; done), by rfl⟩
  · skip
    refine j_iload_n 1 dX5_isAlso_4 rfl rfl ?_
    refine j_iload_n 0 dX5_isAlso_5 rfl rfl ?_
    refine j_icmp_eq (tgt := 19) dX5_isAlso_6 (by decide) (fun h6 => ?_) (fun h6 => ?_)
    · skip
      refine j_iconst (v := 1) dX5_isAlso_19 (by decide) ?_
      refine j_goto (tgt := 24) dX5_isAlso_20 (by decide) ?_
      exact j_iret _ dX5_isAlso_24 (List.Perm.refl _) ⟨by first | (simp [alsoB, bI, *]; done) | (subst h11; simp [alsoB, bI, *]; done), by rfl⟩
    · skip
      refine j_iload_n 1 dX5_isAlso_9 rfl rfl ?_
      refine j_iconst (v := 2) dX5_isAlso_10 (by decide) ?_
      refine j_icmp_ne (tgt := 23) dX5_isAlso_11 (by decide) (fun h11 => ?_) (fun h11 => ?_)
      · skip
        refine j_iconst (v := 0) dX5_isAlso_23 (by decide) ?_
        exact j_iret _ dX5_isAlso_24 (List.Perm.refl _) ⟨by first | (simp [alsoB, bI, *]; done) | (subst h11; simp [alsoB, bI, *]; done), by rfl⟩
      · skip
        refine j_iload_n 0 dX5_isAlso_14 rfl rfl ?_
        refine j_iconst (v := 4) dX5_isAlso_15 (by decide) ?_
        refine j_icmp_ne (tgt := 23) dX5_isAlso_16 (by decide) (fun h16 => ?_) (fun h16 => ?_)
        · skip
          refine j_iconst (v := 0) dX5_isAlso_23 (by decide) ?_
          exact j_iret _ dX5_isAlso_24 (List.Perm.refl _) ⟨by first | (simp [alsoB, bI, *]; done) | (subst h11; simp [alsoB, bI, *]; done), by rfl⟩
        · skip
          refine j_iconst (v := 1) dX5_isAlso_19 (by decide) ?_
          refine j_goto (tgt := 24) dX5_isAlso_20 (by decide) ?_
          exact j_iret _ dX5_isAlso_24 (List.Perm.refl _) ⟨by first | (simp [alsoB, bI, *]; done) | (subst h11; simp [alsoB, bI, *]; done), by rfl⟩
set_option maxHeartbeats 4000000 in
set_option maxRecDepth 100000 in
theorem tX5_nextSeed (l : Launch) (x : Cx) (s : Int32) : MC l x 0 0 0 yX5_nextSeed cX5_nextSeed 1 (some .int) [.int s] ([]) (eI (nxS s) []) := by
  refine MC.of (by decide) (Nat.le_of_ble_eq_true rfl) eI_fit (fun M => ?_)
  show J M l x cX5_nextSeed 1 yX5_nextSeed 0 (eI (nxS s) []) 0 0 0 [(0, .int s)] [] ([])
  refine j_ldc dX5_nextSeed_0 pX5_215 ?_
  refine j_iload_n 0 dX5_nextSeed_2 rfl rfl ?_
  refine j_imul dX5_nextSeed_3 ?_
  refine j_sipush (v := 12345) dX5_nextSeed_4 (by decide) ?_
  refine j_iadd dX5_nextSeed_7 ?_
  refine j_ldc dX5_nextSeed_8 pX5_216 ?_
  refine j_iand dX5_nextSeed_10 ?_
  exact j_iret _ dX5_nextSeed_11 (List.Perm.refl _) ⟨by rfl, by rfl⟩
set_option maxHeartbeats 4000000 in
set_option maxRecDepth 100000 in
theorem tX5_drawOf (l : Launch) (x : Cx) (s n : Int32) : MC l x 0 0 0 yX5_drawOf cX5_drawOf 2 (some .int) [.int s, .int n] ([]) (eI (drO s n) []) := by
  refine MC.of (by decide) (Nat.le_of_ble_eq_true rfl) eI_fit (fun M => ?_)
  show J M l x cX5_drawOf 2 yX5_drawOf 0 (eI (drO s n) []) 0 0 0 [(0, .int s), (1, .int n)] [] ([])
  refine j_iload_n 1 dX5_drawOf_0 rfl rfl ?_
  refine j_if_le (tgt := 13) dX5_drawOf_1 (by decide) (fun h1 => ?_) (fun h1 => ?_)
  · skip
    refine j_iconst (v := 0) dX5_drawOf_13 (by decide) ?_
    exact j_iret _ dX5_drawOf_14 (List.Perm.refl _) ⟨by simp [drO, h1], by rfl⟩
  · skip
    refine j_iload_n 0 dX5_drawOf_4 rfl rfl ?_
    refine j_ldc dX5_drawOf_5 pX5_217 ?_
    refine j_idiv dX5_drawOf_7 (by decide) ?_
    refine j_iload_n 1 dX5_drawOf_8 rfl rfl ?_
    refine j_irem dX5_drawOf_9 (fun e => h1 (by rw [e]; decide)) ?_
    refine j_goto (tgt := 14) dX5_drawOf_10 (by decide) ?_
    exact j_iret _ dX5_drawOf_14 (List.Perm.refl _) ⟨by simp [drO, h1], by rfl⟩
set_option maxHeartbeats 4000000 in
set_option maxRecDepth 100000 in
theorem tX5_mixed (l : Launch) (x : Cx) (h v : Int64) : MC l x 0 0 0 yX5_mixed cX5_mixed 4 (some .long) [.long h, .long v] ([]) (eL (31 * h + v) []) := by
  refine MC.of (by decide) (Nat.le_of_ble_eq_true rfl) eL_fit (fun M => ?_)
  show J M l x cX5_mixed 4 yX5_mixed 0 (eL (31 * h + v) []) 0 0 0 [(0, .long h), (2, .long v)] [] ([])
  refine j_ldc2 dX5_mixed_0 pX5_213 ?_
  refine j_lload_n 0 dX5_mixed_3 rfl rfl ?_
  refine j_lmul dX5_mixed_4 ?_
  refine j_lload_n 1 dX5_mixed_5 rfl rfl ?_
  refine j_ladd dX5_mixed_6 ?_
  exact j_lret _ dX5_mixed_7 (List.Perm.refl _) ⟨by rfl, by rfl⟩
set_option maxHeartbeats 4000000 in
set_option maxRecDepth 100000 in
theorem tX5_tiredByHour (l : Launch) (x : Cx) (a t h : Int32) (b : Bool) : MC l x 0 0 0 yX5_tiredByHour cX5_tiredByHour 5 (some .int) [.int a, .int t, .int h, .int (bI b)] ([]) (eI (tbh a t h b) []) := by
  refine MC.of (by decide) (Nat.le_of_ble_eq_true rfl) eI_fit (fun M => ?_)
  show J M l x cX5_tiredByHour 5 yX5_tiredByHour 0 (eI (tbh a t h b) []) 0 0 0 [(0, .int a), (1, .int t), (2, .int h), (3, .int (bI b))] [] ([])
  refine j_iload_n 2 dX5_tiredByHour_0 rfl rfl ?_
  refine j_iconst (v := 2) dX5_tiredByHour_1 (by decide) ?_
  refine j_irem dX5_tiredByHour_2 (by decide) ?_
  refine j_if_ne (tgt := 10) dX5_tiredByHour_3 (by decide) (fun h3 => ?_) (fun h3 => ?_)
  · skip
    refine j_iconst (v := 0) dX5_tiredByHour_10 (by decide) ?_
    refine j_istore (lv' := [(4, .int 0), (0, .int a), (1, .int t), (2, .int h), (3, .int (bI b))]) dX5_tiredByHour_11 (by decide) rfl ?_
    refine j_iload_n 1 dX5_tiredByHour_13 rfl rfl ?_
    by_cases s14_2 : a = 2
    · refine j_tabC (2) 0 s14_2 (by decide) dX5_tiredByHour_14 rfl (by decide : (14 : Int) + 26 = ((40 : Nat) : Int)) ?_
      refine j_iload 0 dX5_tiredByHour_40 rfl ?_
      exact j_iret _ dX5_tiredByHour_42 (List.Perm.refl _) ⟨by simp [tbh, ev, bI, *], by rfl⟩
    by_cases s14_3 : a = 3
    · refine j_tabC (3) 1 s14_3 (by decide) dX5_tiredByHour_14 rfl (by decide : (14 : Int) + 29 = ((43 : Nat) : Int)) ?_
      refine j_iload_n 2 dX5_tiredByHour_43 rfl rfl ?_
      refine j_bipush (v := 6) dX5_tiredByHour_44 (by decide) ?_
      refine j_icmp_ge (tgt := 53) dX5_tiredByHour_46 (by decide) (fun h46 => ?_) (fun h46 => ?_)
      · skip
        refine j_iconst (v := 0) dX5_tiredByHour_53 (by decide) ?_
        exact j_iret _ dX5_tiredByHour_54 (List.Perm.refl _) ⟨by simp [tbh, ev, bI, *], by rfl⟩
      · skip
        refine j_iconst (v := 1) dX5_tiredByHour_49 (by decide) ?_
        refine j_goto (tgt := 54) dX5_tiredByHour_50 (by decide) ?_
        exact j_iret _ dX5_tiredByHour_54 (List.Perm.refl _) ⟨by simp [tbh, ev, bI, *], by rfl⟩
    by_cases s14_4 : a = 4
    · refine j_tabC (4) 2 s14_4 (by decide) dX5_tiredByHour_14 rfl (by decide : (14 : Int) + 41 = ((55 : Nat) : Int)) ?_
      refine j_iload 0 dX5_tiredByHour_55 rfl ?_
      refine j_iload_n 4 dX5_tiredByHour_57 rfl rfl ?_
      refine j_ifb_eq (b := b) (tgt := 65) dX5_tiredByHour_58 (by decide) (fun h58 => ?_) (fun h58 => ?_)
      · skip
        refine j_iconst (v := bI false) dX5_tiredByHour_65 (by decide) ?_
        refine j_iadd dX5_tiredByHour_66 ?_
        exact j_iret _ dX5_tiredByHour_67 (List.Perm.refl _) ⟨by simp [tbh, ev, bI, *], by rfl⟩
      · skip
        refine j_iconst (v := bI true) dX5_tiredByHour_61 (by decide) ?_
        refine j_goto (tgt := 66) dX5_tiredByHour_62 (by decide) ?_
        refine j_iadd dX5_tiredByHour_66 ?_
        exact j_iret _ dX5_tiredByHour_67 (List.Perm.refl _) ⟨by simp [tbh, ev, bI, *], by rfl⟩
    refine j_tabD dX5_tiredByHour_14 (fun j hj => match j, hj with | 0, _ => Or.inr (lv_neT s14_2 (by decide)) | 1, _ => Or.inr (lv_neT s14_3 (by decide)) | 2, _ => Or.inr (lv_neT s14_4 (by decide)) | j + 3, hj => absurd hj (by omega)) (by decide : (14 : Int) + 54 = ((68 : Nat) : Int)) ?_
    refine j_iconst (v := 1) dX5_tiredByHour_68 (by decide) ?_
    exact j_iret _ dX5_tiredByHour_69 (List.Perm.refl _) ⟨by simp [tbh, ev, bI, *], by rfl⟩
  · skip
    refine j_iconst (v := 1) dX5_tiredByHour_6 (by decide) ?_
    refine j_goto (tgt := 11) dX5_tiredByHour_7 (by decide) ?_
    refine j_istore (lv' := [(4, .int 1), (0, .int a), (1, .int t), (2, .int h), (3, .int (bI b))]) dX5_tiredByHour_11 (by decide) rfl ?_
    refine j_iload_n 1 dX5_tiredByHour_13 rfl rfl ?_
    by_cases s14_2 : a = 2
    · refine j_tabC (2) 0 s14_2 (by decide) dX5_tiredByHour_14 rfl (by decide : (14 : Int) + 26 = ((40 : Nat) : Int)) ?_
      refine j_iload 0 dX5_tiredByHour_40 rfl ?_
      exact j_iret _ dX5_tiredByHour_42 (List.Perm.refl _) ⟨by simp [tbh, ev, bI, *], by rfl⟩
    by_cases s14_3 : a = 3
    · refine j_tabC (3) 1 s14_3 (by decide) dX5_tiredByHour_14 rfl (by decide : (14 : Int) + 29 = ((43 : Nat) : Int)) ?_
      refine j_iload_n 2 dX5_tiredByHour_43 rfl rfl ?_
      refine j_bipush (v := 6) dX5_tiredByHour_44 (by decide) ?_
      refine j_icmp_ge (tgt := 53) dX5_tiredByHour_46 (by decide) (fun h46 => ?_) (fun h46 => ?_)
      · skip
        refine j_iconst (v := 0) dX5_tiredByHour_53 (by decide) ?_
        exact j_iret _ dX5_tiredByHour_54 (List.Perm.refl _) ⟨by simp [tbh, ev, bI, *], by rfl⟩
      · skip
        refine j_iconst (v := 1) dX5_tiredByHour_49 (by decide) ?_
        refine j_goto (tgt := 54) dX5_tiredByHour_50 (by decide) ?_
        exact j_iret _ dX5_tiredByHour_54 (List.Perm.refl _) ⟨by simp [tbh, ev, bI, *], by rfl⟩
    by_cases s14_4 : a = 4
    · refine j_tabC (4) 2 s14_4 (by decide) dX5_tiredByHour_14 rfl (by decide : (14 : Int) + 41 = ((55 : Nat) : Int)) ?_
      refine j_iload 0 dX5_tiredByHour_55 rfl ?_
      refine j_iload_n 4 dX5_tiredByHour_57 rfl rfl ?_
      refine j_ifb_eq (b := b) (tgt := 65) dX5_tiredByHour_58 (by decide) (fun h58 => ?_) (fun h58 => ?_)
      · skip
        refine j_iconst (v := bI false) dX5_tiredByHour_65 (by decide) ?_
        refine j_iadd dX5_tiredByHour_66 ?_
        exact j_iret _ dX5_tiredByHour_67 (List.Perm.refl _) ⟨by simp [tbh, ev, bI, *], by rfl⟩
      · skip
        refine j_iconst (v := bI true) dX5_tiredByHour_61 (by decide) ?_
        refine j_goto (tgt := 66) dX5_tiredByHour_62 (by decide) ?_
        refine j_iadd dX5_tiredByHour_66 ?_
        exact j_iret _ dX5_tiredByHour_67 (List.Perm.refl _) ⟨by simp [tbh, ev, bI, *], by rfl⟩
    refine j_tabD dX5_tiredByHour_14 (fun j hj => match j, hj with | 0, _ => Or.inr (lv_neT s14_2 (by decide)) | 1, _ => Or.inr (lv_neT s14_3 (by decide)) | 2, _ => Or.inr (lv_neT s14_4 (by decide)) | j + 3, hj => absurd hj (by omega)) (by decide : (14 : Int) + 54 = ((68 : Nat) : Int)) ?_
    refine j_iconst (v := 1) dX5_tiredByHour_68 (by decide) ?_
    exact j_iret _ dX5_tiredByHour_69 (List.Perm.refl _) ⟨by simp [tbh, ev, bI, *], by rfl⟩
