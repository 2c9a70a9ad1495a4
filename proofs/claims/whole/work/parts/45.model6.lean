set_option maxHeartbeats 4000000 in
set_option maxRecDepth 100000 in
theorem tX6_letter (l : Launch) (x : Cx) (q : Nat → Nat) (u : NS) (v : SS) (g : PG) (pw : Bool × Nat) (kp : KS) (o : OS) (hg : g.2 ≤ 18) (e : Int32) : MC l x 1 0 0 yX6_letter cX6_letter 2 (some .int) [.ref (q 0), .int e] (mb x q u v g pw kp o) (eI (kLetter (false, o.1, o.2.1) g u v u v e).1 (mb x q u v (kLetter (false, o.1, o.2.1) g u v u v e).2.2.1 pw kp o)) := by
  refine MC.of (by decide) (Nat.le_of_ble_eq_true rfl) eI_fit (fun M => ?_)
  show J M l x cX6_letter 2 yX6_letter 1 (eI (kLetter (false, o.1, o.2.1) g u v u v e).1 (mb x q u v (kLetter (false, o.1, o.2.1) g u v u v e).2.2.1 pw kp o)) 0 0 0 [(0, .ref (q 0)), (1, .int e)] [] (mb x q u v g pw kp o)
  refine j_iload_n 1 dX6_letter_0 rfl rfl ?_
  refine j_bipush (v := 32) dX6_letter_1 (by decide) ?_
  refine j_bipush (v := 126) dX6_letter_3 (by decide) ?_
  refine j_cSi (As := [.int e, .int 32, .int 126]) (rest := []) (wr := mb x q u v g pw kp o) (ws' := mb x q u v g pw kp o) (tX6_within l x e 32 126) kX6_within sX6_51 dX6_letter_5 (by decide) rfl rfl (Nat.le_of_ble_eq_true rfl) (List.Perm.refl _) rfl ?_
  refine j_ifb_ne (b := isW e 32 126) (tgt := 14) dX6_letter_8 (by decide) (fun h8 => ?_) (fun h8 => ?_)
  · skip
    refine j_aload_n 0 dX6_letter_14 rfl rfl ?_
    refine j_get (v := .int (nI g.2)) 0 dX6_letter_15 fX6_55 rfl rfl ?_
    refine j_bipush (v := 18) dX6_letter_18 (by decide) ?_
    refine j_icmpN_ne (a := g.2) (b := 18) (by omega) (by omega) (tgt := 26) dX6_letter_20 (by decide) (fun h20 => ?_) (fun h20 => ?_)
    · skip
      have hlt : g.2 < 18 := by omega
      refine j_aload_n 0 dX6_letter_26 rfl rfl ?_
      refine j_get (v := .ref (q 7)) 0 dX6_letter_27 fX6_29 rfl rfl ?_
      refine j_aload_n 0 dX6_letter_30 rfl rfl ?_
      refine j_get (v := .int (nI g.2)) 0 dX6_letter_31 fX6_55 rfl rfl ?_
      refine j_iload_n 1 dX6_letter_34 rfl rfl ?_
      refine j_i2b dX6_letter_35 ?_
      refine j_bastN (i := g.2) (f := g.1) (ws' := mb x q u v (upd g.1 g.2 (vp_nar .byte e.toInt8.toInt32), g.2) pw kp o) 7 dX6_letter_36 rfl (by omega) (by decide) rfl ?_
      refine j_ws (ws' := mb x q u v (upd g.1 g.2 e, g.2) pw kp o) (by rw [byte_id h8]) ?_
      refine j_aload_n 0 dX6_letter_37 rfl rfl ?_
      refine j_dup dX6_letter_38 rfl ?_
      refine j_get (v := .int (nI g.2)) 0 dX6_letter_39 fX6_55 rfl rfl ?_
      refine j_iconst (v := 1) dX6_letter_42 (by decide) ?_
      refine j_iadd dX6_letter_43 ?_
      refine j_topi (b := nI (g.2 + 1)) (nI_1 _) ?_
      refine j_put (v := .int (nI (g.2 + 1))) (ws' := mb x q u v (upd g.1 g.2 e, g.2 + 1) pw kp o) 0 dX6_letter_44 fX6_55 rfl rfl rfl (Nat.le_of_ble_eq_true rfl) rfl ?_
      refine j_aload_n 0 dX6_letter_47 rfl rfl ?_
      refine j_get (v := .int (nI (g.2 + 1))) 0 dX6_letter_48 fX6_55 rfl rfl ?_
      have hK1 : (kLetter (false, o.1, o.2.1) g u v u v e).1 = nI (g.2 + 1) := by simp [kLetter, h8, hlt]
      have hK2 : (kLetter (false, o.1, o.2.1) g u v u v e).2.2.1 = (upd g.1 g.2 e, g.2 + 1) := by simp [kLetter, h8, hlt]
      exact j_iret _ dX6_letter_51 (List.Perm.refl _) ⟨by rw [hK1], by rw [hK2]⟩
    · skip
      refine j_bipush (v := (-104)) dX6_letter_23 (by decide) ?_
      have hK1 : (kLetter (false, o.1, o.2.1) g u v u v e).1 = (-104) := by simp [kLetter, h8, h20]
      have hK2 : (kLetter (false, o.1, o.2.1) g u v u v e).2.2.1 = g := by simp [kLetter, h8, h20]
      exact j_iret _ dX6_letter_25 (List.Perm.refl _) ⟨by rw [hK1], by rw [hK2]⟩
  · skip
    refine j_bipush (v := (-102)) dX6_letter_11 (by decide) ?_
    have hK1 : (kLetter (false, o.1, o.2.1) g u v u v e).1 = (-102) := by simp [kLetter, h8]
    have hK2 : (kLetter (false, o.1, o.2.1) g u v u v e).2.2.1 = g := by simp [kLetter, h8]
    exact j_iret _ dX6_letter_13 (List.Perm.refl _) ⟨by rw [hK1], by rw [hK2]⟩
set_option maxHeartbeats 4000000 in
set_option maxRecDepth 100000 in
theorem tX6_blank (l : Launch) (x : Cx) (q : Nat → Nat) (u : NS) (v : SS) (g : PG) (pw : Bool × Nat) (kp : KS) (o : OS) (hg : g.2 ≤ 18) : MC l x 0 0 0 yX6_blank cX6_blank 2 (some .int) [.ref (q 0)] (mb x q u v g pw kp o) (eI (nI g.2) (mb x q u v (g.1, 0) pw kp o)) := by
  refine MC.of (by decide) (Nat.le_of_ble_eq_true rfl) eI_fit (fun M => ?_)
  show J M l x cX6_blank 2 yX6_blank 0 (eI (nI g.2) (mb x q u v (g.1, 0) pw kp o)) 0 0 0 [(0, .ref (q 0))] [] (mb x q u v g pw kp o)
  refine j_aload_n 0 dX6_blank_0 rfl rfl ?_
  refine j_get (v := .int (nI g.2)) 0 dX6_blank_1 fX6_55 rfl rfl ?_
  refine j_istore_n (lv' := [(1, .int (nI g.2)), (0, .ref (q 0))]) dX6_blank_4 rfl (by decide) rfl ?_
  refine j_aload_n 1 dX6_blank_5 rfl rfl ?_
  refine j_iconst (v := 0) dX6_blank_6 (by decide) ?_
  refine j_put (v := .int (nI 0)) (ws' := mb x q u v (g.1, 0) pw kp o) 0 dX6_blank_7 fX6_55 rfl rfl rfl (Nat.le_of_ble_eq_true rfl) rfl ?_
  refine j_iload_n 0 dX6_blank_10 rfl rfl ?_
  exact j_iret _ dX6_blank_11 (List.Perm.refl _) ⟨by rfl, by rfl⟩
set_option maxHeartbeats 4000000 in
set_option maxRecDepth 100000 in
theorem tX6_isFigure (l : Launch) (x : Cx) (q : Nat → Nat) (u : NS) (v : SS) (g : PG) (pw : Bool × Nat) (kp : KS) (o : OS) (hg : g.2 ≤ 18) (k : Nat) (hk : k ≤ 30) (lo hi : Int32) : MC l x 1 0 0 yX6_isFigure cX6_isFigure 4 (some .boolean) [.ref (q 0), .int (nI k), .int lo, .int hi] (mb x q u v g pw kp o) (eI (bI (decide (k < g.2) && isW (g.1 k - 48) lo hi)) (mb x q u v g pw kp o)) := by
  refine MC.of (by decide) (Nat.le_of_ble_eq_true rfl) eB_fit (fun M => ?_)
  show J M l x cX6_isFigure 4 yX6_isFigure 1 (eI (bI (decide (k < g.2) && isW (g.1 k - 48) lo hi)) (mb x q u v g pw kp o)) 0 0 0 [(0, .ref (q 0)), (1, .int (nI k)), (2, .int lo), (3, .int hi)] [] (mb x q u v g pw kp o)
  refine j_iload_n 1 dX6_isFigure_0 rfl rfl ?_
  refine j_aload_n 0 dX6_isFigure_1 rfl rfl ?_
  refine j_get (v := .int (nI g.2)) 0 dX6_isFigure_2 fX6_55 rfl rfl ?_
  refine j_icmpN_ge (a := k) (b := g.2) (by omega) (by omega) (tgt := 29) dX6_isFigure_5 (by decide) (fun h5 => ?_) (fun h5 => ?_)
  · skip
    refine j_iconst (v := bI false) dX6_isFigure_29 (by decide) ?_
    exact j_iret _ dX6_isFigure_30 (List.Perm.refl _) ⟨by first | (simp [h5, h22]; done) | (simp [Nat.not_lt.mpr h5]; done), by rfl⟩
  · skip
    refine j_aload_n 0 dX6_isFigure_8 rfl rfl ?_
    refine j_get (v := .ref (q 7)) 0 dX6_isFigure_9 fX6_29 rfl rfl ?_
    refine j_iload_n 1 dX6_isFigure_12 rfl rfl ?_
    refine j_baldN (i := k) (f := g.1) 7 dX6_isFigure_13 rfl (by omega) (by decide) ?_
    refine j_bipush (v := 48) dX6_isFigure_14 (by decide) ?_
    refine j_isub dX6_isFigure_16 ?_
    refine j_iload_n 2 dX6_isFigure_17 rfl rfl ?_
    refine j_iload_n 3 dX6_isFigure_18 rfl rfl ?_
    refine j_cSi (As := [.int ((g.1 k) - 48), .int lo, .int hi]) (rest := []) (wr := mb x q u v g pw kp o) (ws' := mb x q u v g pw kp o) (tX6_within l x ((g.1 k) - 48) lo hi) kX6_within sX6_51 dX6_isFigure_19 (by decide) rfl rfl (Nat.le_of_ble_eq_true rfl) (List.Perm.refl _) rfl ?_
    refine j_ifb_eq (b := isW ((g.1 k) - 48) lo hi) (tgt := 29) dX6_isFigure_22 (by decide) (fun h22 => ?_) (fun h22 => ?_)
    · skip
      refine j_iconst (v := bI false) dX6_isFigure_29 (by decide) ?_
      exact j_iret _ dX6_isFigure_30 (List.Perm.refl _) ⟨by first | (simp [h5, h22]; done) | (simp [Nat.not_lt.mpr h5]; done), by rfl⟩
    · skip
      refine j_iconst (v := bI true) dX6_isFigure_25 (by decide) ?_
      refine j_goto (tgt := 30) dX6_isFigure_26 (by decide) ?_
      exact j_iret _ dX6_isFigure_30 (List.Perm.refl _) ⟨by first | (simp [h5, h22]; done) | (simp [Nat.not_lt.mpr h5]; done), by rfl⟩
set_option maxHeartbeats 4000000 in
set_option maxRecDepth 100000 in
theorem lp_read {M : Mx} (l : Launch) (x : Cx) (q : Nat → Nat) (u : NS) (v : SS) (g : PG) (pw : Bool × Nat) (kp : KS) (o : OS) (hg : g.2 ≤ 18) {k0 n0 : Nat}  : ∀ (m : Nat) (c : Nat), c ≤ 4 → rdK g.1 g.2 c → 5 - c < m → J M l x cX6_read 2 yX6_read 2 (eX (nI (ffr g.1 g.2 g.2 0)) (fun ws => ∃ m' : Nat, (isHB g.1 g.2 = true → m' = min (g.2 / 3) 5) ∧ ws = mb x q u v g (isHB g.1 g.2, m') kp o)) k0 n0 12 [(0, .ref (q 0)), (1, .int (nI (3 * c)))] [] (mb x q u v g (false, c) kp o) := by
  intro m; induction m with
  | zero => intro c hc0 hc1 hm; exact absurd hm (Nat.not_lt_zero _)
  | succ m ih =>
    intro c hc0 hc1 hm
    have hle0 := hc1.1
    refine j_aload_n 0 dX6_read_12 rfl rfl ?_
    refine j_get (v := .int (nI c)) 0 dX6_read_13 fX6_63 rfl rfl ?_
    refine j_iconst (v := 5) dX6_read_16 (by decide) ?_
    refine j_icmpN_ge (a := c) (b := 5) (by omega) (by omega) (tgt := 188) dX6_read_17 (by decide) (fun h17 => by omega) (fun h17 => ?_)
    refine j_iload_n 1 dX6_read_20 rfl rfl ?_
    refine j_aload_n 0 dX6_read_21 rfl rfl ?_
    refine j_get (v := .int (nI g.2)) 0 dX6_read_22 fX6_55 rfl rfl ?_
    refine j_icmpN_eq (a := 3 * c) (b := g.2) (by omega) (by omega) (tgt := 41) dX6_read_25 (by decide) (fun h25 => ?_) (fun h25 => ?_)
    · skip
      refine j_iload_n 1 dX6_read_41 rfl rfl ?_
      have hq := ht_0 hg hc1 (by first | exact Or.inl (by omega) | exact Or.inr h38)
      exact j_iret _ dX6_read_42 (List.Perm.refl _) ⟨by rw [hq.1], c, (fun hH => by rw [hq.2] at hH; cases hH), by rw [hq.2]⟩
    · skip
      have hlt0 : 3 * c < g.2 := by omega
      refine j_aload_n 0 dX6_read_28 rfl rfl ?_
      refine j_get (v := .ref (q 7)) 0 dX6_read_29 fX6_29 rfl rfl ?_
      refine j_iload_n 1 dX6_read_32 rfl rfl ?_
      refine j_baldN (i := 3 * c) (f := g.1) 7 dX6_read_33 rfl (by omega) (by decide) ?_
      refine j_cSi (As := [.int (g.1 (3 * c))]) (rest := []) (wr := mb x q u v g (false, c) kp o) (ws' := mb x q u v g (false, c) kp o) (tX6_kindBy l x (g.1 (3 * c))) kX6_kindBy sX6_66 dX6_read_34 (by decide) rfl rfl (Nat.le_of_ble_eq_true rfl) (List.Perm.refl _) rfl ?_
      refine j_iconst (v := (-1)) dX6_read_37 (by decide) ?_
      refine j_icmp_ne (tgt := 43) dX6_read_38 (by decide) (fun h38 => ?_) (fun h38 => ?_)
      · skip
        refine j_aload_n 0 dX6_read_43 rfl rfl ?_
        refine j_iload_n 1 dX6_read_44 rfl rfl ?_
        refine j_iconst (v := 1) dX6_read_45 (by decide) ?_
        refine j_iadd dX6_read_46 ?_
        refine j_topi (b := nI (3 * c + 1)) (nI_1 _) ?_
        refine j_iconst (v := 0) dX6_read_47 (by decide) ?_
        refine j_bipush (v := 9) dX6_read_48 (by decide) ?_
        refine j_cVi (As := [.int (nI (3 * c + 1)), .int 0, .int 9]) (rest := []) (wr := []) (ws' := mb x q u v g (false, c) kp o) (tX6_isFigure l x q u v g (false, c) kp o hg (3 * c + 1) (by omega) 0 9) kX6_isFigure 0 rfl rfl rfl vX6_70 dX6_read_50 (by decide) rfl rfl (Nat.le_of_ble_eq_true rfl) (pm_0 _) (List.append_nil _) ?_
        refine j_topi (b := bI (decide (3 * c + 1 < g.2) && isW (g.1 (3 * c + 1)) 48 57)) (congrArg (fun z => bI (decide (3 * c + 1 < g.2) && z)) (isW_sh (g.1 (3 * c + 1)) (lo := 0) (hi := 9) (by decide) (by decide))) ?_
        refine j_ifb_ne (b := decide (3 * c + 1 < g.2) && isW (g.1 (3 * c + 1)) 48 57) (tgt := 60) dX6_read_53 (by decide) (fun h53 => ?_) (fun h53 => ?_)
        · skip
          have hf2 := h53
          simp only [Bool.and_eq_true, decide_eq_true_eq] at hf2
          obtain ⟨hfl, hfw⟩ := hf2
          refine j_aload_n 0 dX6_read_60 rfl rfl ?_
          refine j_dup dX6_read_61 rfl ?_
          refine j_get (v := .int (nI c)) 0 dX6_read_62 fX6_63 rfl rfl ?_
          refine j_iconst (v := 1) dX6_read_65 (by decide) ?_
          refine j_iadd dX6_read_66 ?_
          refine j_topi (b := nI (c + 1)) (nI_1 _) ?_
          refine j_put (v := .int (nI (c + 1))) (ws' := mb x q u v g (false, c + 1) kp o) 0 dX6_read_67 fX6_63 rfl rfl rfl (Nat.le_of_ble_eq_true rfl) rfl ?_
          refine j_iinc (v := nI (3 * c + 2)) (lv' := [(1, .int (nI (3 * c + 2))), (0, .ref (q 0))]) 1 dX6_read_70 rfl (nI_add (3 * c) 2) (by decide) rfl ?_
          refine j_iload_n 0 dX6_read_73 rfl rfl ?_
          refine j_aload_n 1 dX6_read_74 rfl rfl ?_
          refine j_get (v := .int (nI g.2)) 0 dX6_read_75 fX6_55 rfl rfl ?_
          refine j_icmpN_ge (a := 3 * c + 2) (b := g.2) (by omega) (by omega) (tgt := 153) dX6_read_78 (by decide) (fun h78 => ?_) (fun h78 => ?_)
          · skip
            refine j_iload_n 0 dX6_read_153 rfl rfl ?_
            refine j_aload_n 1 dX6_read_154 rfl rfl ?_
            refine j_get (v := .int (nI g.2)) 0 dX6_read_155 fX6_55 rfl rfl ?_
            refine j_icmpN_eq (a := 3 * c + 2) (b := g.2) (by omega) (by omega) (tgt := 180) dX6_read_158 (by decide) (fun h158 => ?_) (fun h158 => ?_)
            · skip
              refine j_iload_n 0 dX6_read_180 rfl rfl ?_
              have hq := ht_2 hg hc1 hfl h38 hfw (by first | exact Or.inl (by omega) | exact Or.inr ⟨fun z => by first | exact h177 z.1 | (have := z.2; omega), fun z => by first | exact h89 z.1 | (have := z.2; omega)⟩)
              exact j_iret _ dX6_read_181 (List.Perm.refl _) ⟨by rw [hq.1], c + 1, (fun hH => by rw [hq.2] at hH; cases hH), by rw [hq.2]⟩
            · skip
              refine j_aload_n 1 dX6_read_161 rfl rfl ?_
              refine j_get (v := .int (nI (c + 1))) 0 dX6_read_162 fX6_63 rfl rfl ?_
              refine j_iconst (v := 5) dX6_read_165 (by decide) ?_
              refine j_icmpN_eq (a := c + 1) (b := 5) (by omega) (by omega) (tgt := 180) dX6_read_166 (by decide) (fun h166 => ?_) (fun h166 => ?_)
              · skip
                refine j_iload_n 0 dX6_read_180 rfl rfl ?_
                have hq := ht_2 hg hc1 hfl h38 hfw (by first | exact Or.inl (by omega) | exact Or.inr ⟨fun z => by first | exact h177 z.1 | (have := z.2; omega), fun z => by first | exact h89 z.1 | (have := z.2; omega)⟩)
                exact j_iret _ dX6_read_181 (List.Perm.refl _) ⟨by rw [hq.1], c + 1, (fun hH => by rw [hq.2] at hH; cases hH), by rw [hq.2]⟩
              · skip
                refine j_aload_n 1 dX6_read_169 rfl rfl ?_
                refine j_get (v := .ref (q 7)) 0 dX6_read_170 fX6_29 rfl rfl ?_
                refine j_iload_n 0 dX6_read_173 rfl rfl ?_
                refine j_baldN (i := 3 * c + 2) (f := g.1) 7 dX6_read_174 rfl (by omega) (by decide) ?_
                refine j_bipush (v := 44) dX6_read_175 (by decide) ?_
                refine j_icmp_eq (tgt := 182) dX6_read_177 (by decide) (fun h177 => ?_) (fun h177 => ?_)
                · skip
                  refine j_iinc (v := nI (3 * c + 3)) (lv' := [(1, .int (nI (3 * c + 3))), (0, .ref (q 0))]) 0 dX6_read_182 rfl (nI_1 _) (by decide) rfl ?_
                  refine j_goto (tgt := 12) dX6_read_185 (by decide) ?_
                  refine j_lv [1, 0] (lv' := [(0, .ref (q 0)), (1, .int (nI (3 * c + 3)))]) rfl ?_
                  exact ih (c + 1) (by omega) (rd_s hg hc1 h38 hfw (by omega) h177 (by omega)) (by omega)
                · skip
                  refine j_iload_n 0 dX6_read_180 rfl rfl ?_
                  have hq := ht_2 hg hc1 hfl h38 hfw (by first | exact Or.inl (by omega) | exact Or.inr ⟨fun z => by first | exact h177 z.1 | (have := z.2; omega), fun z => by first | exact h89 z.1 | (have := z.2; omega)⟩)
                  exact j_iret _ dX6_read_181 (List.Perm.refl _) ⟨by rw [hq.1], c + 1, (fun hH => by rw [hq.2] at hH; cases hH), by rw [hq.2]⟩
          · skip
            refine j_aload_n 1 dX6_read_81 rfl rfl ?_
            refine j_get (v := .ref (q 7)) 0 dX6_read_82 fX6_29 rfl rfl ?_
            refine j_iload_n 0 dX6_read_85 rfl rfl ?_
            refine j_baldN (i := 3 * c + 2) (f := g.1) 7 dX6_read_86 rfl (by omega) (by decide) ?_
            refine j_bipush (v := 59) dX6_read_87 (by decide) ?_
            refine j_icmp_ne (tgt := 153) dX6_read_89 (by decide) (fun h89 => ?_) (fun h89 => ?_)
            · skip
              refine j_iload_n 0 dX6_read_153 rfl rfl ?_
              refine j_aload_n 1 dX6_read_154 rfl rfl ?_
              refine j_get (v := .int (nI g.2)) 0 dX6_read_155 fX6_55 rfl rfl ?_
              refine j_icmpN_eq (a := 3 * c + 2) (b := g.2) (by omega) (by omega) (tgt := 180) dX6_read_158 (by decide) (fun h158 => ?_) (fun h158 => ?_)
              · skip
                refine j_iload_n 0 dX6_read_180 rfl rfl ?_
                have hq := ht_2 hg hc1 hfl h38 hfw (by first | exact Or.inl (by omega) | exact Or.inr ⟨fun z => by first | exact h177 z.1 | (have := z.2; omega), fun z => by first | exact h89 z.1 | (have := z.2; omega)⟩)
                exact j_iret _ dX6_read_181 (List.Perm.refl _) ⟨by rw [hq.1], c + 1, (fun hH => by rw [hq.2] at hH; cases hH), by rw [hq.2]⟩
              · skip
                refine j_aload_n 1 dX6_read_161 rfl rfl ?_
                refine j_get (v := .int (nI (c + 1))) 0 dX6_read_162 fX6_63 rfl rfl ?_
                refine j_iconst (v := 5) dX6_read_165 (by decide) ?_
                refine j_icmpN_eq (a := c + 1) (b := 5) (by omega) (by omega) (tgt := 180) dX6_read_166 (by decide) (fun h166 => ?_) (fun h166 => ?_)
                · skip
                  refine j_iload_n 0 dX6_read_180 rfl rfl ?_
                  have hq := ht_2 hg hc1 hfl h38 hfw (by first | exact Or.inl (by omega) | exact Or.inr ⟨fun z => by first | exact h177 z.1 | (have := z.2; omega), fun z => by first | exact h89 z.1 | (have := z.2; omega)⟩)
                  exact j_iret _ dX6_read_181 (List.Perm.refl _) ⟨by rw [hq.1], c + 1, (fun hH => by rw [hq.2] at hH; cases hH), by rw [hq.2]⟩
                · skip
                  refine j_aload_n 1 dX6_read_169 rfl rfl ?_
                  refine j_get (v := .ref (q 7)) 0 dX6_read_170 fX6_29 rfl rfl ?_
                  refine j_iload_n 0 dX6_read_173 rfl rfl ?_
                  refine j_baldN (i := 3 * c + 2) (f := g.1) 7 dX6_read_174 rfl (by omega) (by decide) ?_
                  refine j_bipush (v := 44) dX6_read_175 (by decide) ?_
                  refine j_icmp_eq (tgt := 182) dX6_read_177 (by decide) (fun h177 => ?_) (fun h177 => ?_)
                  · skip
                    refine j_iinc (v := nI (3 * c + 3)) (lv' := [(1, .int (nI (3 * c + 3))), (0, .ref (q 0))]) 0 dX6_read_182 rfl (nI_1 _) (by decide) rfl ?_
                    refine j_goto (tgt := 12) dX6_read_185 (by decide) ?_
                    refine j_lv [1, 0] (lv' := [(0, .ref (q 0)), (1, .int (nI (3 * c + 3)))]) rfl ?_
                    exact ih (c + 1) (by omega) (rd_s hg hc1 h38 hfw (by omega) h177 (by omega)) (by omega)
                  · skip
                    refine j_iload_n 0 dX6_read_180 rfl rfl ?_
                    have hq := ht_2 hg hc1 hfl h38 hfw (by first | exact Or.inl (by omega) | exact Or.inr ⟨fun z => by first | exact h177 z.1 | (have := z.2; omega), fun z => by first | exact h89 z.1 | (have := z.2; omega)⟩)
                    exact j_iret _ dX6_read_181 (List.Perm.refl _) ⟨by rw [hq.1], c + 1, (fun hH => by rw [hq.2] at hH; cases hH), by rw [hq.2]⟩
            · skip
              refine j_aload_n 1 dX6_read_92 rfl rfl ?_
              refine j_get (v := .int (nI (c + 1))) 0 dX6_read_93 fX6_63 rfl rfl ?_
              refine j_iconst (v := 1) dX6_read_96 (by decide) ?_
              refine j_icmpN_le (a := c + 1) (b := 1) (by omega) (by omega) (tgt := 153) dX6_read_97 (by decide) (fun h97 => ?_) (fun h97 => ?_)
              · skip
                refine j_iload_n 0 dX6_read_153 rfl rfl ?_
                refine j_aload_n 1 dX6_read_154 rfl rfl ?_
                refine j_get (v := .int (nI g.2)) 0 dX6_read_155 fX6_55 rfl rfl ?_
                refine j_icmpN_eq (a := 3 * c + 2) (b := g.2) (by omega) (by omega) (tgt := 180) dX6_read_158 (by decide) (fun h158 => ?_) (fun h158 => ?_)
                · skip
                  refine j_iload_n 0 dX6_read_180 rfl rfl ?_
                  have hq := ht_2 hg hc1 hfl h38 hfw (by first | exact Or.inl (by omega) | exact Or.inr ⟨fun z => by first | exact h177 z.1 | (have := z.2; omega), fun z => by first | exact h89 z.1 | (have := z.2; omega)⟩)
                  exact j_iret _ dX6_read_181 (List.Perm.refl _) ⟨by rw [hq.1], c + 1, (fun hH => by rw [hq.2] at hH; cases hH), by rw [hq.2]⟩
                · skip
                  refine j_aload_n 1 dX6_read_161 rfl rfl ?_
                  refine j_get (v := .int (nI (c + 1))) 0 dX6_read_162 fX6_63 rfl rfl ?_
                  refine j_iconst (v := 5) dX6_read_165 (by decide) ?_
                  refine j_icmpN_eq (a := c + 1) (b := 5) (by omega) (by omega) (tgt := 180) dX6_read_166 (by decide) (fun h166 => ?_) (fun h166 => ?_)
                  · skip
                    refine j_iload_n 0 dX6_read_180 rfl rfl ?_
                    have hq := ht_2 hg hc1 hfl h38 hfw (by first | exact Or.inl (by omega) | exact Or.inr ⟨fun z => by first | exact h177 z.1 | (have := z.2; omega), fun z => by first | exact h89 z.1 | (have := z.2; omega)⟩)
                    exact j_iret _ dX6_read_181 (List.Perm.refl _) ⟨by rw [hq.1], c + 1, (fun hH => by rw [hq.2] at hH; cases hH), by rw [hq.2]⟩
                  · skip
                    refine j_aload_n 1 dX6_read_169 rfl rfl ?_
                    refine j_get (v := .ref (q 7)) 0 dX6_read_170 fX6_29 rfl rfl ?_
                    refine j_iload_n 0 dX6_read_173 rfl rfl ?_
                    refine j_baldN (i := 3 * c + 2) (f := g.1) 7 dX6_read_174 rfl (by omega) (by decide) ?_
                    refine j_bipush (v := 44) dX6_read_175 (by decide) ?_
                    refine j_icmp_eq (tgt := 182) dX6_read_177 (by decide) (fun h177 => ?_) (fun h177 => ?_)
                    · skip
                      refine j_iinc (v := nI (3 * c + 3)) (lv' := [(1, .int (nI (3 * c + 3))), (0, .ref (q 0))]) 0 dX6_read_182 rfl (nI_1 _) (by decide) rfl ?_
                      refine j_goto (tgt := 12) dX6_read_185 (by decide) ?_
                      refine j_lv [1, 0] (lv' := [(0, .ref (q 0)), (1, .int (nI (3 * c + 3)))]) rfl ?_
                      exact ih (c + 1) (by omega) (rd_s hg hc1 h38 hfw (by omega) h177 (by omega)) (by omega)
                    · skip
                      refine j_iload_n 0 dX6_read_180 rfl rfl ?_
                      have hq := ht_2 hg hc1 hfl h38 hfw (by first | exact Or.inl (by omega) | exact Or.inr ⟨fun z => by first | exact h177 z.1 | (have := z.2; omega), fun z => by first | exact h89 z.1 | (have := z.2; omega)⟩)
                      exact j_iret _ dX6_read_181 (List.Perm.refl _) ⟨by rw [hq.1], c + 1, (fun hH => by rw [hq.2] at hH; cases hH), by rw [hq.2]⟩
              · skip
                refine j_aload_n 1 dX6_read_100 rfl rfl ?_
                refine j_aload_n 1 dX6_read_101 rfl rfl ?_
                refine j_iload_n 0 dX6_read_102 rfl rfl ?_
                refine j_iconst (v := 1) dX6_read_103 (by decide) ?_
                refine j_iadd dX6_read_104 ?_
                refine j_topi (b := nI (3 * c + 3)) (nI_1 _) ?_
                refine j_iconst (v := 1) dX6_read_105 (by decide) ?_
                refine j_iconst (v := 4) dX6_read_106 (by decide) ?_
                refine j_cVi (As := [.int (nI (3 * c + 3)), .int 1, .int 4]) (rest := [.ref (q 0)]) (wr := []) (ws' := mb x q u v g (false, c + 1) kp o) (tX6_isFigure l x q u v g (false, c + 1) kp o hg (3 * c + 3) (by omega) 1 4) kX6_isFigure 0 rfl rfl rfl vX6_70 dX6_read_107 (by decide) rfl rfl (Nat.le_of_ble_eq_true rfl) (pm_0 _) (List.append_nil _) ?_
                refine j_topi (b := bI (decide (3 * c + 3 < g.2) && isW (g.1 (3 * c + 3)) 49 52)) (congrArg (fun z => bI (decide (3 * c + 3 < g.2) && z)) (isW_sh (g.1 (3 * c + 3)) (lo := 1) (hi := 4) (by decide) (by decide))) ?_
                refine j_ifb_eq (b := decide (3 * c + 3 < g.2) && isW (g.1 (3 * c + 3)) 49 52) (tgt := 127) dX6_read_110 (by decide) (fun h110 => ?_) (fun h110 => ?_)
                · skip
                  refine j_iconst (v := bI false) dX6_read_127 (by decide) ?_
                  refine j_put (v := .int (bI false)) (ws' := mb x q u v g (false, c + 1) kp o) 0 dX6_read_128 fX6_59 rfl (nar_bI false) (fit_bI false) (Nat.le_of_ble_eq_true rfl) rfl ?_
                  refine j_aload_n 1 dX6_read_131 rfl rfl ?_
                  refine j_iload_n 0 dX6_read_132 rfl rfl ?_
                  refine j_iconst (v := 1) dX6_read_133 (by decide) ?_
                  refine j_iadd dX6_read_134 ?_
                  refine j_topi (b := nI (3 * c + 3)) (nI_1 _) ?_
                  refine j_iconst (v := 1) dX6_read_135 (by decide) ?_
                  refine j_iconst (v := 4) dX6_read_136 (by decide) ?_
                  refine j_cVi (As := [.int (nI (3 * c + 3)), .int 1, .int 4]) (rest := []) (wr := []) (ws' := mb x q u v g (false, c + 1) kp o) (tX6_isFigure l x q u v g (false, c + 1) kp o hg (3 * c + 3) (by omega) 1 4) kX6_isFigure 0 rfl rfl rfl vX6_70 dX6_read_137 (by decide) rfl rfl (Nat.le_of_ble_eq_true rfl) (pm_0 _) (List.append_nil _) ?_
                  refine j_topi (b := bI (decide (3 * c + 3 < g.2) && isW (g.1 (3 * c + 3)) 49 52)) (congrArg (fun z => bI (decide (3 * c + 3 < g.2) && z)) (isW_sh (g.1 (3 * c + 3)) (lo := 1) (hi := 4) (by decide) (by decide))) ?_
                  refine j_ifb_eq (b := decide (3 * c + 3 < g.2) && isW (g.1 (3 * c + 3)) 49 52) (tgt := 149) dX6_read_140 (by decide) (fun h140 => ?_) (fun h140 => absurd h140 (by rw [h110]; decide))
                  refine j_iload_n 0 dX6_read_149 rfl rfl ?_
                  refine j_iconst (v := 1) dX6_read_150 (by decide) ?_
                  refine j_iadd dX6_read_151 ?_
                  refine j_topi (b := nI (3 * c + 3)) (nI_1 _) ?_
                  have hq := ht_3 hg hc1 h78 h38 hfw h89 (by omega) h110
                  exact j_iret _ dX6_read_152 (List.Perm.refl _) ⟨by rw [hq.1], c + 1, (fun hH => by rw [hq.2] at hH; cases hH), by rw [hq.2]⟩
                · skip
                  refine j_iload_n 0 dX6_read_113 rfl rfl ?_
                  refine j_iconst (v := 2) dX6_read_114 (by decide) ?_
                  refine j_iadd dX6_read_115 ?_
                  refine j_topi (b := nI (3 * c + 4)) (nI_add _ 2) ?_
                  refine j_aload_n 1 dX6_read_116 rfl rfl ?_
                  refine j_get (v := .int (nI g.2)) 0 dX6_read_117 fX6_55 rfl rfl ?_
                  refine j_icmpN_ne (a := 3 * c + 4) (b := g.2) (by omega) (by omega) (tgt := 127) dX6_read_120 (by decide) (fun h120 => ?_) (fun h120 => ?_)
                  · skip
                    refine j_iconst (v := bI false) dX6_read_127 (by decide) ?_
                    refine j_put (v := .int (bI false)) (ws' := mb x q u v g (false, c + 1) kp o) 0 dX6_read_128 fX6_59 rfl (nar_bI false) (fit_bI false) (Nat.le_of_ble_eq_true rfl) rfl ?_
                    refine j_aload_n 1 dX6_read_131 rfl rfl ?_
                    refine j_iload_n 0 dX6_read_132 rfl rfl ?_
                    refine j_iconst (v := 1) dX6_read_133 (by decide) ?_
                    refine j_iadd dX6_read_134 ?_
                    refine j_topi (b := nI (3 * c + 3)) (nI_1 _) ?_
                    refine j_iconst (v := 1) dX6_read_135 (by decide) ?_
                    refine j_iconst (v := 4) dX6_read_136 (by decide) ?_
                    refine j_cVi (As := [.int (nI (3 * c + 3)), .int 1, .int 4]) (rest := []) (wr := []) (ws' := mb x q u v g (false, c + 1) kp o) (tX6_isFigure l x q u v g (false, c + 1) kp o hg (3 * c + 3) (by omega) 1 4) kX6_isFigure 0 rfl rfl rfl vX6_70 dX6_read_137 (by decide) rfl rfl (Nat.le_of_ble_eq_true rfl) (pm_0 _) (List.append_nil _) ?_
                    refine j_topi (b := bI (decide (3 * c + 3 < g.2) && isW (g.1 (3 * c + 3)) 49 52)) (congrArg (fun z => bI (decide (3 * c + 3 < g.2) && z)) (isW_sh (g.1 (3 * c + 3)) (lo := 1) (hi := 4) (by decide) (by decide))) ?_
                    refine j_ifb_eq (b := decide (3 * c + 3 < g.2) && isW (g.1 (3 * c + 3)) 49 52) (tgt := 149) dX6_read_140 (by decide) (fun h140 => absurd h140 (by rw [h110]; decide)) (fun h140 => ?_)
                    refine j_iload_n 0 dX6_read_143 rfl rfl ?_
                    refine j_iconst (v := 2) dX6_read_144 (by decide) ?_
                    refine j_iadd dX6_read_145 ?_
                    refine j_topi (b := nI (3 * c + 4)) (nI_add _ 2) ?_
                    refine j_goto (tgt := 152) dX6_read_146 (by decide) ?_
                    have hq := ht_4 hg hc1 h78 h38 hfw h89 (by omega) h110
                    have hd4 : decide (3 * c + 4 = g.2) = false := decide_eq_false h120
                    rw [hd4] at hq
                    exact j_iret _ dX6_read_152 (List.Perm.refl _) ⟨by rw [hq.1], c + 1, (fun hH => by rw [hq.2] at hH; cases hH), by rw [hq.2]⟩
                  · skip
                    refine j_iconst (v := bI true) dX6_read_123 (by decide) ?_
                    refine j_goto (tgt := 128) dX6_read_124 (by decide) ?_
                    refine j_put (v := .int (bI true)) (ws' := mb x q u v g (true, c + 1) kp o) 0 dX6_read_128 fX6_59 rfl (nar_bI true) (fit_bI true) (Nat.le_of_ble_eq_true rfl) rfl ?_
                    refine j_aload_n 1 dX6_read_131 rfl rfl ?_
                    refine j_iload_n 0 dX6_read_132 rfl rfl ?_
                    refine j_iconst (v := 1) dX6_read_133 (by decide) ?_
                    refine j_iadd dX6_read_134 ?_
                    refine j_topi (b := nI (3 * c + 3)) (nI_1 _) ?_
                    refine j_iconst (v := 1) dX6_read_135 (by decide) ?_
                    refine j_iconst (v := 4) dX6_read_136 (by decide) ?_
                    refine j_cVi (As := [.int (nI (3 * c + 3)), .int 1, .int 4]) (rest := []) (wr := []) (ws' := mb x q u v g (true, c + 1) kp o) (tX6_isFigure l x q u v g (true, c + 1) kp o hg (3 * c + 3) (by omega) 1 4) kX6_isFigure 0 rfl rfl rfl vX6_70 dX6_read_137 (by decide) rfl rfl (Nat.le_of_ble_eq_true rfl) (pm_0 _) (List.append_nil _) ?_
                    refine j_topi (b := bI (decide (3 * c + 3 < g.2) && isW (g.1 (3 * c + 3)) 49 52)) (congrArg (fun z => bI (decide (3 * c + 3 < g.2) && z)) (isW_sh (g.1 (3 * c + 3)) (lo := 1) (hi := 4) (by decide) (by decide))) ?_
                    refine j_ifb_eq (b := decide (3 * c + 3 < g.2) && isW (g.1 (3 * c + 3)) 49 52) (tgt := 149) dX6_read_140 (by decide) (fun h140 => absurd h140 (by rw [h110]; decide)) (fun h140 => ?_)
                    refine j_iload_n 0 dX6_read_143 rfl rfl ?_
                    refine j_iconst (v := 2) dX6_read_144 (by decide) ?_
                    refine j_iadd dX6_read_145 ?_
                    refine j_topi (b := nI (3 * c + 4)) (nI_add _ 2) ?_
                    refine j_goto (tgt := 152) dX6_read_146 (by decide) ?_
                    have hq := ht_4 hg hc1 h78 h38 hfw h89 (by omega) h110
                    have hd4 : decide (3 * c + 4 = g.2) = true := decide_eq_true h120
                    rw [hd4] at hq
                    exact j_iret _ dX6_read_152 (List.Perm.refl _) ⟨by rw [hq.1], c + 1, (fun hH => by omega), by rw [hq.2]⟩
        · skip
          refine j_iload_n 1 dX6_read_56 rfl rfl ?_
          refine j_iconst (v := 1) dX6_read_57 (by decide) ?_
          refine j_iadd dX6_read_58 ?_
          refine j_topi (b := nI (3 * c + 1)) (nI_1 _) ?_
          have hq := ht_1 hg hc1 hlt0 h38 h53
          exact j_iret _ dX6_read_59 (List.Perm.refl _) ⟨by rw [hq.1], c, (fun hH => by rw [hq.2] at hH; cases hH), by rw [hq.2]⟩
      · skip
        refine j_iload_n 1 dX6_read_41 rfl rfl ?_
        have hq := ht_0 hg hc1 (by first | exact Or.inl (by omega) | exact Or.inr h38)
        exact j_iret _ dX6_read_42 (List.Perm.refl _) ⟨by rw [hq.1], c, (fun hH => by rw [hq.2] at hH; cases hH), by rw [hq.2]⟩
set_option maxHeartbeats 4000000 in
set_option maxRecDepth 100000 in
theorem tX6_read (l : Launch) (x : Cx) (q : Nat → Nat) (u : NS) (v : SS) (g : PG) (pw : Bool × Nat) (kp : KS) (o : OS) (hg : g.2 ≤ 18) : MC l x 2 0 0 yX6_read cX6_read 2 (some .int) [.ref (q 0)] (mb x q u v g pw kp o) (eX (nI (ffr g.1 g.2 g.2 0)) (fun ws => ∃ m' : Nat, (isHB g.1 g.2 = true → m' = min (g.2 / 3) 5) ∧ ws = mb x q u v g (isHB g.1 g.2, m') kp o)) := by
  refine MC.of (by decide) (Nat.le_of_ble_eq_true rfl) eXI_fit (fun M => ?_)
  show J M l x cX6_read 2 yX6_read 2 (eX (nI (ffr g.1 g.2 g.2 0)) (fun ws => ∃ m' : Nat, (isHB g.1 g.2 = true → m' = min (g.2 / 3) 5) ∧ ws = mb x q u v g (isHB g.1 g.2, m') kp o)) 0 0 0 [(0, .ref (q 0))] [] (mb x q u v g pw kp o)
  refine j_aload_n 0 dX6_read_0 rfl rfl ?_
  refine j_iconst (v := 0) dX6_read_1 (by decide) ?_
  refine j_put (v := .int (bI false)) (ws' := mb x q u v g (false, pw.2) kp o) 0 dX6_read_2 fX6_59 rfl (nar_bI false) (fit_bI false) (Nat.le_of_ble_eq_true rfl) rfl ?_
  refine j_aload_n 0 dX6_read_5 rfl rfl ?_
  refine j_iconst (v := nI 0) dX6_read_6 (by decide) ?_
  refine j_put (v := .int (nI 0)) (ws' := mb x q u v g (false, 0) kp o) 0 dX6_read_7 fX6_63 rfl rfl rfl (Nat.le_of_ble_eq_true rfl) rfl ?_
  refine j_iconst (v := nI 0) dX6_read_10 (by decide) ?_
  refine j_istore_n (lv' := [(1, .int (nI 0)), (0, .ref (q 0))]) dX6_read_11 rfl (by decide) rfl ?_
  refine j_lv [1, 0] (lv' := [(0, .ref (q 0)), (1, .int (nI 0))]) rfl ?_
  exact lp_read l x q u v g pw kp o hg 6 0 (by omega) (rd_0 hg) (by omega)
set_option maxHeartbeats 4000000 in
set_option maxRecDepth 100000 in
theorem tX6_fault (l : Launch) (x : Cx) (q : Nat → Nat) (u : NS) (v : SS) (g : PG) (pw : Bool × Nat) (kp : KS) (o : OS) (hg : g.2 ≤ 18) : MC l x 3 0 0 yX6_fault cX6_fault 1 (some .int) [.ref (q 0)] (mb x q u v g pw kp o) (eX (nI (ffr g.1 g.2 g.2 0)) (fun ws => ∃ pw' : Bool × Nat, ws = mb x q u v g pw' kp o)) := by
  refine MC.of (by decide) (Nat.le_of_ble_eq_true rfl) eXI_fit (fun M => ?_)
  show J M l x cX6_fault 1 yX6_fault 3 (eX (nI (ffr g.1 g.2 g.2 0)) (fun ws => ∃ pw' : Bool × Nat, ws = mb x q u v g pw' kp o)) 0 0 0 [(0, .ref (q 0))] [] (mb x q u v g pw kp o)
  refine j_aload_n 0 dX6_fault_0 rfl rfl ?_
  refine j_callV (As := []) (rest := []) (wr := []) (tX6_read l x q u v g pw kp o hg) kX6_read vX6_73 0 rfl rfl rfl dX6_fault_1 (by decide) (Nat.le_of_eq (Nat.zero_add _)) (Nat.le_of_eq (Nat.zero_add _)) rfl rfl (Nat.le_of_ble_eq_true rfl) (pm_0 _) (fun v9 w9 hv9 => ?_)
  obtain ⟨rfl, m9, hm9, rfl⟩ := hv9
  refine j_eq (lv' := [(0, .ref (q 0))]) (st' := [.int (nI (ffr g.1 g.2 g.2 0))]) (ws' := mb x q u v g (isHB g.1 g.2, m9) kp o) rfl rfl (List.append_nil _) ?_
  exact j_iret _ dX6_fault_4 (List.Perm.refl _) ⟨rfl, _, rfl⟩
set_option maxHeartbeats 4000000 in
set_option maxRecDepth 100000 in
theorem lp_house {M : Mx} (l : Launch) (x : Cx) (q : Nat → Nat) (kf tf : Nat → Int32) (sl : Nat → Bool) (bf : Nat → Int32) (n : Nat) (d h : Int32) (v : SS) (g : PG) (pw : Bool × Nat) (kp : KS) (o : OS) (hg : g.2 ≤ 18) (h9 : isHB g.1 g.2 = true) (m9 : Nat) (hm9 : m9 = min (g.2 / 3) 5) {k0 n0 : Nat}  : ∀ (m : Nat) (i : Nat), i ≤ m9 → m9 - i < m → J M l x cX6_house 3 yX6_house 3 (eX (kHouse (false, o.1, o.2.1) g (kf, tf, sl, bf, n, d, h) v (kf, tf, sl, bf, n, d, h) v).1 (fun ws => ∃ pw' : Bool × Nat, ws = mb x q (kHouse (false, o.1, o.2.1) g (kf, tf, sl, bf, n, d, h) v (kf, tf, sl, bf, n, d, h) v).2.2.2.1 (kHouse (false, o.1, o.2.1) g (kf, tf, sl, bf, n, d, h) v (kf, tf, sl, bf, n, d, h) v).2.2.2.2.1 (kHouse (false, o.1, o.2.1) g (kf, tf, sl, bf, n, d, h) v (kf, tf, sl, bf, n, d, h) v).2.2.1 pw' kp (setO o (kHouse (false, o.1, o.2.1) g (kf, tf, sl, bf, n, d, h) v (kf, tf, sl, bf, n, d, h) v).2.1.2.1))) k0 n0 40 [(0, .ref (q 0)), (1, .int (nI g.2)), (2, .int (nI i))] [] (mb x q (mix i (fun j => kbl (g.1 (3 * j))) kf, mix i (fun j => g.1 (3 * j + 1) - 48) tf, mix i (fun _ => false) sl, mix i (fun _ => 0) bf, m9, g.1 (g.2 - 1) - 48, h) v g (isHB g.1 g.2, m9) kp o) := by
  intro m; induction m with
  | zero => intro i hc0 hm; exact absurd hm (Nat.not_lt_zero _)
  | succ m ih =>
    intro i hc0 hm
    refine j_iload_n 2 dX6_house_40 rfl rfl ?_
    refine j_aload_n 0 dX6_house_41 rfl rfl ?_
    refine j_get (v := .int (nI m9)) 0 dX6_house_42 fX6_77 rfl rfl ?_
    refine j_icmpN_ge (a := i) (b := m9) (by omega) (by omega) (tgt := 104) dX6_house_45 (by decide) (fun h45 => ?_) (fun h45 => ?_)
    · skip
      refine j_aload_n 0 dX6_house_104 rfl rfl ?_
      refine j_dup dX6_house_105 rfl ?_
      refine j_get (v := .int (nI o.1)) 0 dX6_house_106 fX6_83 rfl rfl ?_
      refine j_iconst (v := 1) dX6_house_109 (by decide) ?_
      refine j_iadd dX6_house_110 ?_
      refine j_topi (b := nI (o.1 + 1)) (nI_1 _) ?_
      refine j_put (v := .int (nI (o.1 + 1))) (ws' := mb x q (mix i (fun j => kbl (g.1 (3 * j))) kf, mix i (fun j => g.1 (3 * j + 1) - 48) tf, mix i (fun _ => false) sl, mix i (fun _ => 0) bf, m9, g.1 (g.2 - 1) - 48, h) v g (isHB g.1 g.2, m9) kp (o.1 + 1, o.2.1, o.2.2.1, o.2.2.2.1, o.2.2.2.2.1, o.2.2.2.2.2.1, o.2.2.2.2.2.2)) 0 dX6_house_111 fX6_83 rfl rfl rfl (Nat.le_of_ble_eq_true rfl) rfl ?_
      refine j_aload_n 0 dX6_house_114 rfl rfl ?_
      refine j_iconst (v := 0) dX6_house_115 (by decide) ?_
      refine j_put (v := .int 0) (ws' := mb x q (mix i (fun j => kbl (g.1 (3 * j))) kf, mix i (fun j => g.1 (3 * j + 1) - 48) tf, mix i (fun _ => false) sl, mix i (fun _ => 0) bf, m9, g.1 (g.2 - 1) - 48, 0) v g (isHB g.1 g.2, m9) kp (o.1 + 1, o.2.1, o.2.2.1, o.2.2.2.1, o.2.2.2.2.1, o.2.2.2.2.2.1, o.2.2.2.2.2.2)) 0 dX6_house_116 fX6_86 rfl rfl rfl (Nat.le_of_ble_eq_true rfl) rfl ?_
      refine j_aload_n 0 dX6_house_119 rfl rfl ?_
      refine j_iconst (v := 0) dX6_house_120 (by decide) ?_
      refine j_put (v := .int (nI 0)) (ws' := mb x q (mix i (fun j => kbl (g.1 (3 * j))) kf, mix i (fun j => g.1 (3 * j + 1) - 48) tf, mix i (fun _ => false) sl, mix i (fun _ => 0) bf, m9, g.1 (g.2 - 1) - 48, 0) (v.1, v.2.1, 0) g (isHB g.1 g.2, m9) kp (o.1 + 1, o.2.1, o.2.2.1, o.2.2.2.1, o.2.2.2.2.1, o.2.2.2.2.2.1, o.2.2.2.2.2.2)) 0 dX6_house_121 fX6_89 rfl rfl rfl (Nat.le_of_ble_eq_true rfl) rfl ?_
      refine j_aload_n 0 dX6_house_124 rfl rfl ?_
      refine j_iconst (v := 0) dX6_house_125 (by decide) ?_
      refine j_put (v := .int (nI 0)) (ws' := mb x q (mix i (fun j => kbl (g.1 (3 * j))) kf, mix i (fun j => g.1 (3 * j + 1) - 48) tf, mix i (fun _ => false) sl, mix i (fun _ => 0) bf, m9, g.1 (g.2 - 1) - 48, 0) (v.1, v.2.1, 0) (g.1, 0) (isHB g.1 g.2, m9) kp (o.1 + 1, o.2.1, o.2.2.1, o.2.2.2.1, o.2.2.2.2.1, o.2.2.2.2.2.1, o.2.2.2.2.2.2)) 0 dX6_house_126 fX6_55 rfl rfl rfl (Nat.le_of_ble_eq_true rfl) rfl ?_
      refine j_aload_n 0 dX6_house_129 rfl rfl ?_
      refine j_get (v := .int (nI m9)) 0 dX6_house_130 fX6_77 rfl rfl ?_
      obtain rfl : i = m9 := by omega
      have hb : bgn g (kf, tf, sl, bf, n, d, h) = (mix i (fun j => kbl (g.1 (3 * j))) kf, mix i (fun j => g.1 (3 * j + 1) - 48) tf, mix i (fun _ => false) sl, mix i (fun _ => 0) bf, i, g.1 (g.2 - 1) - 48, 0) := by rw [hm9]; exact bgn_mod (cs := g.1) (n := g.2) hg h9 kf tf sl bf n d h
      have hK : kHouse (false, o.1, o.2.1) g (kf, tf, sl, bf, n, d, h) v (kf, tf, sl, bf, n, d, h) v = (nI i, ((false, o.1 + 1, o.2.1), (g.1, 0), (mix i (fun j => kbl (g.1 (3 * j))) kf, mix i (fun j => g.1 (3 * j + 1) - 48) tf, mix i (fun _ => false) sl, mix i (fun _ => 0) bf, i, g.1 (g.2 - 1) - 48, 0), (v.1, v.2.1, 0), (kf, tf, sl, bf, n, d, h), v)) := by rw [kHouse, if_pos h9, hb]; rfl
      rw [hK]
      exact j_iret _ dX6_house_133 (List.Perm.refl _) ⟨rfl, (isHB g.1 g.2, i), rfl⟩
    · skip
      refine j_aload_n 0 dX6_house_48 rfl rfl ?_
      refine j_get (v := .ref (q 1)) 0 dX6_house_49 fX6_7 rfl rfl ?_
      refine j_iload_n 2 dX6_house_52 rfl rfl ?_
      refine j_aload_n 0 dX6_house_53 rfl rfl ?_
      refine j_get (v := .ref (q 7)) 0 dX6_house_54 fX6_29 rfl rfl ?_
      refine j_iconst (v := 3) dX6_house_57 (by decide) ?_
      refine j_iload_n 2 dX6_house_58 rfl rfl ?_
      refine j_imul dX6_house_59 ?_
      refine j_topi (b := nI (3 * i)) (pk_mul 3 i) ?_
      refine j_baldN (i := 3 * i) (f := g.1) 7 dX6_house_60 rfl (by omega) (by decide) ?_
      refine j_cSi (As := [.int (g.1 (3 * i))]) (rest := [.int (nI i), .ref (q 1)]) (wr := mb x q (mix i (fun j => kbl (g.1 (3 * j))) kf, mix i (fun j => g.1 (3 * j + 1) - 48) tf, mix i (fun _ => false) sl, mix i (fun _ => 0) bf, m9, g.1 (g.2 - 1) - 48, h) v g (isHB g.1 g.2, m9) kp o) (ws' := mb x q (mix i (fun j => kbl (g.1 (3 * j))) kf, mix i (fun j => g.1 (3 * j + 1) - 48) tf, mix i (fun _ => false) sl, mix i (fun _ => 0) bf, m9, g.1 (g.2 - 1) - 48, h) v g (isHB g.1 g.2, m9) kp o) (tX6_kindBy l x (g.1 (3 * i))) kX6_kindBy sX6_66 dX6_house_61 (by decide) rfl rfl (Nat.le_of_ble_eq_true rfl) (List.Perm.refl _) rfl ?_
      refine j_iastN (i := i) (f := mix i (fun j => kbl (g.1 (3 * j))) kf) (ws' := mb x q (upd (mix i (fun j => kbl (g.1 (3 * j))) kf) i (kbl (g.1 (3 * i))), mix i (fun j => g.1 (3 * j + 1) - 48) tf, mix i (fun _ => false) sl, mix i (fun _ => 0) bf, m9, g.1 (g.2 - 1) - 48, h) v g (isHB g.1 g.2, m9) kp o) 1 dX6_house_64 rfl (by omega) (by decide) rfl ?_
      refine j_aload_n 0 dX6_house_65 rfl rfl ?_
      refine j_get (v := .ref (q 2)) 0 dX6_house_66 fX6_13 rfl rfl ?_
      refine j_iload_n 2 dX6_house_69 rfl rfl ?_
      refine j_aload_n 0 dX6_house_70 rfl rfl ?_
      refine j_get (v := .ref (q 7)) 0 dX6_house_71 fX6_29 rfl rfl ?_
      refine j_iconst (v := 3) dX6_house_74 (by decide) ?_
      refine j_iload_n 2 dX6_house_75 rfl rfl ?_
      refine j_imul dX6_house_76 ?_
      refine j_topi (b := nI (3 * i)) (pk_mul 3 i) ?_
      refine j_iconst (v := 1) dX6_house_77 (by decide) ?_
      refine j_iadd dX6_house_78 ?_
      refine j_topi (b := nI (3 * i + 1)) (nI_1 _) ?_
      refine j_baldN (i := 3 * i + 1) (f := g.1) 7 dX6_house_79 rfl (by omega) (by decide) ?_
      refine j_bipush (v := 48) dX6_house_80 (by decide) ?_
      refine j_isub dX6_house_82 ?_
      refine j_iastN (i := i) (f := mix i (fun j => g.1 (3 * j + 1) - 48) tf) (ws' := mb x q (upd (mix i (fun j => kbl (g.1 (3 * j))) kf) i (kbl (g.1 (3 * i))), upd (mix i (fun j => g.1 (3 * j + 1) - 48) tf) i ((g.1 (3 * i + 1)) - 48), mix i (fun _ => false) sl, mix i (fun _ => 0) bf, m9, g.1 (g.2 - 1) - 48, h) v g (isHB g.1 g.2, m9) kp o) 2 dX6_house_83 rfl (by omega) (by decide) rfl ?_
      refine j_aload_n 0 dX6_house_84 rfl rfl ?_
      refine j_get (v := .ref (q 3)) 0 dX6_house_85 fX6_16 rfl rfl ?_
      refine j_iload_n 2 dX6_house_88 rfl rfl ?_
      refine j_iconst (v := bI false) dX6_house_89 (by decide) ?_
      refine j_zastB (i := i) (f := mix i (fun _ => false) sl) (ws' := mb x q (upd (mix i (fun j => kbl (g.1 (3 * j))) kf) i (kbl (g.1 (3 * i))), upd (mix i (fun j => g.1 (3 * j + 1) - 48) tf) i ((g.1 (3 * i + 1)) - 48), bup (mix i (fun _ => false) sl) i false, mix i (fun _ => 0) bf, m9, g.1 (g.2 - 1) - 48, h) v g (isHB g.1 g.2, m9) kp o) 3 false dX6_house_90 rfl (by omega) (by decide) rfl ?_
      refine j_aload_n 0 dX6_house_91 rfl rfl ?_
      refine j_get (v := .ref (q 4)) 0 dX6_house_92 fX6_20 rfl rfl ?_
      refine j_iload_n 2 dX6_house_95 rfl rfl ?_
      refine j_iconst (v := 0) dX6_house_96 (by decide) ?_
      refine j_iastN (i := i) (f := mix i (fun _ => 0) bf) (ws' := mb x q (upd (mix i (fun j => kbl (g.1 (3 * j))) kf) i (kbl (g.1 (3 * i))), upd (mix i (fun j => g.1 (3 * j + 1) - 48) tf) i ((g.1 (3 * i + 1)) - 48), bup (mix i (fun _ => false) sl) i false, upd (mix i (fun _ => 0) bf) i 0, m9, g.1 (g.2 - 1) - 48, h) v g (isHB g.1 g.2, m9) kp o) 4 dX6_house_97 rfl (by omega) (by decide) rfl ?_
      refine j_iinc (v := nI (i + 1)) (lv' := [(2, .int (nI (i + 1))), (0, .ref (q 0)), (1, .int (nI g.2))]) 2 dX6_house_98 rfl (nI_1 i) (by decide) rfl ?_
      refine j_goto (tgt := 40) dX6_house_101 (by decide) ?_
      refine j_lv [1, 2, 0] (lv' := [(0, .ref (q 0)), (1, .int (nI g.2)), (2, .int (nI (i + 1)))]) rfl ?_
      refine j_ws (ws' := mb x q (mix (i + 1) (fun j => kbl (g.1 (3 * j))) kf, mix (i + 1) (fun j => g.1 (3 * j + 1) - 48) tf, mix (i + 1) (fun _ => false) sl, mix (i + 1) (fun _ => 0) bf, m9, g.1 (g.2 - 1) - 48, h) v g (isHB g.1 g.2, m9) kp o) (by rw [mix_upd _ _ _ rfl, mix_upd _ _ _ rfl, mix_bup _ _ _ rfl, mix_upd _ _ _ rfl]) ?_
      exact ih (i + 1) (by omega) (by omega)
set_option maxHeartbeats 4000000 in
set_option maxRecDepth 100000 in
theorem tX6_house (l : Launch) (x : Cx) (q : Nat → Nat) (kf tf : Nat → Int32) (sl : Nat → Bool) (bf : Nat → Int32) (n : Nat) (d h : Int32) (v : SS) (g : PG) (pw : Bool × Nat) (kp : KS) (o : OS) (hg : g.2 ≤ 18) : MC l x 3 0 0 yX6_house cX6_house 3 (some .int) [.ref (q 0)] (mb x q (kf, tf, sl, bf, n, d, h) v g pw kp o) (eX (kHouse (false, o.1, o.2.1) g (kf, tf, sl, bf, n, d, h) v (kf, tf, sl, bf, n, d, h) v).1 (fun ws => ∃ pw' : Bool × Nat, ws = mb x q (kHouse (false, o.1, o.2.1) g (kf, tf, sl, bf, n, d, h) v (kf, tf, sl, bf, n, d, h) v).2.2.2.1 (kHouse (false, o.1, o.2.1) g (kf, tf, sl, bf, n, d, h) v (kf, tf, sl, bf, n, d, h) v).2.2.2.2.1 (kHouse (false, o.1, o.2.1) g (kf, tf, sl, bf, n, d, h) v (kf, tf, sl, bf, n, d, h) v).2.2.1 pw' kp (setO o (kHouse (false, o.1, o.2.1) g (kf, tf, sl, bf, n, d, h) v (kf, tf, sl, bf, n, d, h) v).2.1.2.1))) := by
  refine MC.of (by decide) (Nat.le_of_ble_eq_true rfl) eXI_fit (fun M => ?_)
  show J M l x cX6_house 3 yX6_house 3 (eX (kHouse (false, o.1, o.2.1) g (kf, tf, sl, bf, n, d, h) v (kf, tf, sl, bf, n, d, h) v).1 (fun ws => ∃ pw' : Bool × Nat, ws = mb x q (kHouse (false, o.1, o.2.1) g (kf, tf, sl, bf, n, d, h) v (kf, tf, sl, bf, n, d, h) v).2.2.2.1 (kHouse (false, o.1, o.2.1) g (kf, tf, sl, bf, n, d, h) v (kf, tf, sl, bf, n, d, h) v).2.2.2.2.1 (kHouse (false, o.1, o.2.1) g (kf, tf, sl, bf, n, d, h) v (kf, tf, sl, bf, n, d, h) v).2.2.1 pw' kp (setO o (kHouse (false, o.1, o.2.1) g (kf, tf, sl, bf, n, d, h) v (kf, tf, sl, bf, n, d, h) v).2.1.2.1))) 0 0 0 [(0, .ref (q 0))] [] (mb x q (kf, tf, sl, bf, n, d, h) v g pw kp o)
  refine j_aload_n 0 dX6_house_0 rfl rfl ?_
  refine j_callV (As := []) (rest := []) (wr := []) (tX6_read l x q (kf, tf, sl, bf, n, d, h) v g pw kp o hg) kX6_read vX6_73 0 rfl rfl rfl dX6_house_1 (by decide) (Nat.le_of_eq (Nat.zero_add _)) (Nat.le_of_eq (Nat.zero_add _)) rfl rfl (Nat.le_of_ble_eq_true rfl) (pm_0 _) (fun v9 w9 hv9 => ?_)
  obtain ⟨rfl, m9, hm9, rfl⟩ := hv9
  refine j_eq (lv' := [(0, .ref (q 0))]) (st' := [.int (nI (ffr g.1 g.2 g.2 0))]) (ws' := mb x q (kf, tf, sl, bf, n, d, h) v g (isHB g.1 g.2, m9) kp o) rfl rfl (List.append_nil _) ?_
  refine j_istore_n (lv' := [(1, .int (nI (ffr g.1 g.2 g.2 0))), (0, .ref (q 0))]) dX6_house_4 rfl (by decide) rfl ?_
  refine j_aload_n 1 dX6_house_5 rfl rfl ?_
  refine j_get (v := .int (bI (isHB g.1 g.2))) 0 dX6_house_6 fX6_59 rfl rfl ?_
  refine j_ifb_ne (b := isHB g.1 g.2) (tgt := 15) dX6_house_9 (by decide) (fun h9 => ?_) (fun h9 => ?_)
  · skip
    have h2n := isHB_2 h9
    have hfn := isHB_n h9
    refine j_lve (lv' := [(1, .int (nI g.2)), (0, .ref (q 0))]) (by rw [hfn]) ?_
    refine j_aload_n 1 dX6_house_15 rfl rfl ?_
    refine j_aload_n 1 dX6_house_16 rfl rfl ?_
    refine j_get (v := .int (nI m9)) 0 dX6_house_17 fX6_63 rfl rfl ?_
    refine j_put (v := .int (nI m9)) (ws' := mb x q (kf, tf, sl, bf, m9, d, h) v g (isHB g.1 g.2, m9) kp o) 0 dX6_house_20 fX6_77 rfl rfl rfl (Nat.le_of_ble_eq_true rfl) rfl ?_
    refine j_aload_n 1 dX6_house_23 rfl rfl ?_
    refine j_aload_n 1 dX6_house_24 rfl rfl ?_
    refine j_get (v := .ref (q 7)) 0 dX6_house_25 fX6_29 rfl rfl ?_
    refine j_iload_n 0 dX6_house_28 rfl rfl ?_
    refine j_iconst (v := 1) dX6_house_29 (by decide) ?_
    refine j_isub dX6_house_30 ?_
    refine j_topi (b := nI (g.2 - 1)) (pk_sub (b := 1) (by omega)) ?_
    refine j_baldN (i := g.2 - 1) (f := g.1) 7 dX6_house_31 rfl (by omega) (by decide) ?_
    refine j_bipush (v := 48) dX6_house_32 (by decide) ?_
    refine j_isub dX6_house_34 ?_
    refine j_put (v := .int ((g.1 (g.2 - 1)) - 48)) (ws' := mb x q (kf, tf, sl, bf, m9, (g.1 (g.2 - 1)) - 48, h) v g (isHB g.1 g.2, m9) kp o) 0 dX6_house_35 fX6_80 rfl rfl rfl (Nat.le_of_ble_eq_true rfl) rfl ?_
    refine j_iconst (v := nI 0) dX6_house_38 (by decide) ?_
    refine j_istore_n (lv' := [(2, .int (nI 0)), (1, .int (nI g.2)), (0, .ref (q 0))]) dX6_house_39 rfl (by decide) rfl ?_
    refine j_lv [2, 1, 0] (lv' := [(0, .ref (q 0)), (1, .int (nI g.2)), (2, .int (nI 0))]) rfl ?_
    have hl := lp_house (M := M) (k0 := 0) (n0 := 0) l x q kf tf sl bf n d h v g pw kp o hg h9 m9 (hm9 h9) (m9 + 1) 0 (by omega) (by omega)
    rw [mix_0, mix_0, mix_0, mix_0] at hl
    exact hl
  · skip
    refine j_bipush (v := (-103)) dX6_house_12 (by decide) ?_
    have hK : kHouse (false, o.1, o.2.1) g (kf, tf, sl, bf, n, d, h) v (kf, tf, sl, bf, n, d, h) v = (-103, ((false, o.1, o.2.1), g, (kf, tf, sl, bf, n, d, h), v, (kf, tf, sl, bf, n, d, h), v)) := by rw [kHouse, if_neg (by rw [h9]; decide)]
    rw [hK]
    exact j_iret _ dX6_house_14 (List.Perm.refl _) ⟨rfl, (isHB g.1 g.2, m9), rfl⟩
