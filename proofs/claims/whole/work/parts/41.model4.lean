set_option maxHeartbeats 4000000 in
set_option maxRecDepth 100000 in
theorem tX6_mayLie (l : Launch) (x : Cx) (q : Nat → Nat) (u : NS) (v : SS) (g : PG) (pw : Bool × Nat) (kp : KS) (o : OS) (hk : okN u) (j : Nat) (hj : j < 10) : MC l x 2 0 0 yX6_mayLie cX6_mayLie 2 (some .boolean) [.ref (q 0), .int (nI j)] (mb x q u v g pw kp o) (eI (bI (mayN u j)) (mb x q u v g pw kp o)) := by
  refine MC.of (by decide) (Nat.le_of_ble_eq_true rfl) eB_fit (fun M => ?_)
  show J M l x cX6_mayLie 2 yX6_mayLie 2 (eI (bI (mayN u j)) (mb x q u v g pw kp o)) 0 0 0 [(0, .ref (q 0)), (1, .int (nI j))] [] (mb x q u v g pw kp o)
  have hn5 : nN u ≤ 5 := hk.1
  refine j_aload_n 0 dX6_mayLie_0 rfl rfl ?_
  refine j_iload_n 1 dX6_mayLie_1 rfl rfl ?_
  refine j_cVi (As := [.int (nI j)]) (rest := []) (wr := []) (ws' := mb x q u v g pw kp o) (uX6_isLodger l x q u v g pw kp o (hk).1 (nI j)) kX6_isLodger 0 rfl rfl rfl vX6_112 dX6_mayLie_2 (by decide) rfl rfl (Nat.le_of_ble_eq_true rfl) (pm_0 _) (List.append_nil _) ?_
  refine j_topi (b := bI (decide (j < nN u))) (congrArg bI (kn_d (by omega) (by omega))) ?_
  refine j_ifb_eq (b := decide (j < nN u)) (tgt := 31) dX6_mayLie_5 (by decide) (fun h5 => ?_) (fun h5 => ?_)
  · skip
    refine j_iconst (v := bI false) dX6_mayLie_31 (by decide) ?_
    exact j_iret _ dX6_mayLie_32 (List.Perm.refl _) ⟨by first | (simp [mayN, h5]; done) | (simp [mayN, hjn, may, h14]; done) | (simp [mayN, hjn, may, h14, h24]; done), by rfl⟩
  · skip
    have hjn := of_decide_eq_true h5
    refine j_aload_n 0 dX6_mayLie_8 rfl rfl ?_
    refine j_get (v := .ref (q 3)) 0 dX6_mayLie_9 fX6_16 rfl rfl ?_
    refine j_iload_n 1 dX6_mayLie_12 rfl rfl ?_
    refine j_zaldB (i := j) (f := u.2.2.1) 3 dX6_mayLie_13 rfl (by omega) (by decide) ?_
    refine j_ifb_ne (b := u.2.2.1 j) (tgt := 31) dX6_mayLie_14 (by decide) (fun h14 => ?_) (fun h14 => ?_)
    · skip
      refine j_iconst (v := bI false) dX6_mayLie_31 (by decide) ?_
      exact j_iret _ dX6_mayLie_32 (List.Perm.refl _) ⟨by first | (simp [mayN, h5]; done) | (simp [mayN, hjn, may, h14]; done) | (simp [mayN, hjn, may, h14, h24]; done), by rfl⟩
    · skip
      refine j_aload_n 0 dX6_mayLie_17 rfl rfl ?_
      refine j_get (v := .ref (q 1)) 0 dX6_mayLie_18 fX6_7 rfl rfl ?_
      refine j_iload_n 1 dX6_mayLie_21 rfl rfl ?_
      refine j_ialdN (i := j) (f := u.1) 1 dX6_mayLie_22 rfl (by omega) (by decide) ?_
      refine j_iconst (v := 1) dX6_mayLie_23 (by decide) ?_
      refine j_icmp_eq (tgt := 31) dX6_mayLie_24 (by decide) (fun h24 => ?_) (fun h24 => ?_)
      · skip
        refine j_iconst (v := bI false) dX6_mayLie_31 (by decide) ?_
        exact j_iret _ dX6_mayLie_32 (List.Perm.refl _) ⟨by first | (simp [mayN, h5]; done) | (simp [mayN, hjn, may, h14]; done) | (simp [mayN, hjn, may, h14, h24]; done), by rfl⟩
      · skip
        refine j_iconst (v := bI true) dX6_mayLie_27 (by decide) ?_
        refine j_goto (tgt := 32) dX6_mayLie_28 (by decide) ?_
        exact j_iret _ dX6_mayLie_32 (List.Perm.refl _) ⟨by first | (simp [mayN, h5]; done) | (simp [mayN, hjn, may, h14]; done) | (simp [mayN, hjn, may, h14, h24]; done), by rfl⟩
set_option maxHeartbeats 4000000 in
set_option maxRecDepth 100000 in
theorem lp_af {M : Mx} (l : Launch) (x : Cx) (q : Nat → Nat) (u : NS) (v : SS) (g : PG) (pw : Bool × Nat) (kp : KS) (o : OS) (hk : okN u) (a b : Nat) (ha : a < nN u) (hb : b < nN u) (R : Nat) {k0 n0 : Nat}  : ∀ (m : Nat) (k : Nat) (t1 t2 : Int32), 1 ≤ k → k ≤ 61 → R = min (awk (u.1 a) (nH u) (61 - k) k t1) (awk (u.1 b) (nH u) (61 - k) k t2) → 61 - k < m → J M l x cX6_awakeFor 6 yX6_awakeFor 1 (eI (nI R) (mb x q u v g pw kp o)) k0 n0 18 [(0, .ref (q 0)), (1, .int (nI a)), (2, .int (nI b)), (3, .int t1), (4, .int t2), (5, .int (nI k))] [] (mb x q u v g pw kp o) := by
  intro m; induction m with
  | zero => intro k t1 t2 hc0 hc1 hc2 hm; exact absurd hm (Nat.not_lt_zero _)
  | succ m ih =>
    intro k t1 t2 hc0 hc1 hc2 hm
    have hn5 : nN u ≤ 5 := hk.1
    refine j_iload 5 dX6_awakeFor_18 rfl ?_
    refine j_bipush (v := 60) dX6_awakeFor_20 (by decide) ?_
    refine j_icmpN_gt (a := k) (b := 60) (by omega) (by omega) (tgt := 92) dX6_awakeFor_22 (by decide) (fun h22 => ?_) (fun h22 => ?_)
    · skip
      refine j_bipush (v := 60) dX6_awakeFor_92 (by decide) ?_
      exact j_iret _ dX6_awakeFor_94 (List.Perm.refl _) ⟨by rw [hc2, show 61 - k = 0 by omega]; rfl, rfl⟩
    · skip
      refine j_iload_n 3 dX6_awakeFor_25 rfl rfl ?_
      refine j_aload_n 0 dX6_awakeFor_26 rfl rfl ?_
      refine j_get (v := .ref (q 1)) 0 dX6_awakeFor_27 fX6_7 rfl rfl ?_
      refine j_iload_n 1 dX6_awakeFor_30 rfl rfl ?_
      refine j_ialdN (i := a) (f := u.1) 1 dX6_awakeFor_31 rfl (by omega) (by decide) ?_
      refine j_iload_n 3 dX6_awakeFor_32 rfl rfl ?_
      refine j_aload_n 0 dX6_awakeFor_33 rfl rfl ?_
      refine j_get (v := .int (nH u)) 0 dX6_awakeFor_34 fX6_86 rfl rfl ?_
      refine j_iload 5 dX6_awakeFor_37 rfl ?_
      refine j_iadd dX6_awakeFor_39 ?_
      refine j_iconst (v := bI true) dX6_awakeFor_40 (by decide) ?_
      refine j_cSi (As := [.int (u.1 a), .int t1, .int ((nH u) + (nI k)), .int (bI true)]) (rest := [.int t1]) (wr := mb x q u v g pw kp o) (ws' := mb x q u v g pw kp o) (tX6_more l x (u.1 a) t1 ((nH u) + (nI k)) true) kX6_more sX6_95 dX6_awakeFor_41 (by decide) rfl rfl (Nat.le_of_ble_eq_true rfl) (List.Perm.refl _) rfl ?_
      refine j_iadd dX6_awakeFor_44 ?_
      refine j_istore_n (lv' := [(3, .int (t1 + (tbh (u.1 a) t1 ((nH u) + (nI k)) true))), (0, .ref (q 0)), (1, .int (nI a)), (2, .int (nI b)), (4, .int t2), (5, .int (nI k))]) dX6_awakeFor_45 rfl (by decide) rfl ?_
      refine j_iload 4 dX6_awakeFor_46 rfl ?_
      refine j_aload_n 1 dX6_awakeFor_48 rfl rfl ?_
      refine j_get (v := .ref (q 1)) 0 dX6_awakeFor_49 fX6_7 rfl rfl ?_
      refine j_iload_n 3 dX6_awakeFor_52 rfl rfl ?_
      refine j_ialdN (i := b) (f := u.1) 1 dX6_awakeFor_53 rfl (by omega) (by decide) ?_
      refine j_iload 4 dX6_awakeFor_54 rfl ?_
      refine j_aload_n 1 dX6_awakeFor_56 rfl rfl ?_
      refine j_get (v := .int (nH u)) 0 dX6_awakeFor_57 fX6_86 rfl rfl ?_
      refine j_iload 5 dX6_awakeFor_60 rfl ?_
      refine j_iadd dX6_awakeFor_62 ?_
      refine j_iconst (v := bI true) dX6_awakeFor_63 (by decide) ?_
      refine j_cSi (As := [.int (u.1 b), .int t2, .int ((nH u) + (nI k)), .int (bI true)]) (rest := [.int t2]) (wr := mb x q u v g pw kp o) (ws' := mb x q u v g pw kp o) (tX6_more l x (u.1 b) t2 ((nH u) + (nI k)) true) kX6_more sX6_95 dX6_awakeFor_64 (by decide) rfl rfl (Nat.le_of_ble_eq_true rfl) (List.Perm.refl _) rfl ?_
      refine j_iadd dX6_awakeFor_67 ?_
      refine j_istore (lv' := [(4, .int (t2 + (tbh (u.1 b) t2 ((nH u) + (nI k)) true))), (3, .int (t1 + (tbh (u.1 a) t1 ((nH u) + (nI k)) true))), (0, .ref (q 0)), (1, .int (nI a)), (2, .int (nI b)), (5, .int (nI k))]) dX6_awakeFor_68 (by decide) rfl ?_
      refine j_iload_n 1 dX6_awakeFor_70 rfl rfl ?_
      refine j_bipush (v := 10) dX6_awakeFor_71 (by decide) ?_
      refine j_icmp_ge (tgt := 83) dX6_awakeFor_73 (by decide) (fun h73 => ?_) (fun h73 => ?_)
      · skip
        refine j_iload 5 dX6_awakeFor_83 rfl ?_
        rw [show 61 - k = (61 - (k + 1)) + 1 by omega] at hc2
        have g1 := awk_ge (u.1 a) (nH u) (61 - (k + 1) + 1) k t1 (by omega)
        have g2 := awk_ge (u.1 b) (nH u) (61 - (k + 1) + 1) k t2 (by omega)
        rw [awk_nl (t := t1) (nlt_of_le h73)] at hc2 g1
        exact j_iret _ dX6_awakeFor_85 (List.Perm.refl _) ⟨by rw [hc2]; congr 3; omega, rfl⟩
      · skip
        refine j_iload 0 dX6_awakeFor_76 rfl ?_
        refine j_bipush (v := 10) dX6_awakeFor_78 (by decide) ?_
        refine j_icmp_lt (tgt := 86) dX6_awakeFor_80 (by decide) (fun h80 => ?_) (fun h80 => ?_)
        · skip
          refine j_iinc (v := nI (k + 1)) (lv' := [(5, .int (nI (k + 1))), (4, .int (t2 + (tbh (u.1 b) t2 ((nH u) + (nI k)) true))), (3, .int (t1 + (tbh (u.1 a) t1 ((nH u) + (nI k)) true))), (0, .ref (q 0)), (1, .int (nI a)), (2, .int (nI b))]) 5 dX6_awakeFor_86 rfl (nI_1 k) (by decide) rfl ?_
          refine j_goto (tgt := 18) dX6_awakeFor_89 (by decide) ?_
          refine j_lv [3, 4, 5, 2, 1, 0] (lv' := [(0, .ref (q 0)), (1, .int (nI a)), (2, .int (nI b)), (3, .int (t1 + (tbh (u.1 a) t1 ((nH u) + (nI k)) true))), (4, .int (t2 + (tbh (u.1 b) t2 ((nH u) + (nI k)) true))), (5, .int (nI (k + 1)))]) rfl ?_
          exact ih (k + 1) _ _ (by omega) (by omega) (by rw [hc2, show 61 - k = (61 - (k + 1)) + 1 by omega, awk_lt (t := t1) (lt_of_nle h73), awk_lt (t := t2) h80]) (by omega)
        · skip
          refine j_iload 5 dX6_awakeFor_83 rfl ?_
          rw [show 61 - k = (61 - (k + 1)) + 1 by omega] at hc2
          have g1 := awk_ge (u.1 a) (nH u) (61 - (k + 1) + 1) k t1 (by omega)
          have g2 := awk_ge (u.1 b) (nH u) (61 - (k + 1) + 1) k t2 (by omega)
          rw [awk_nl (t := t2) h80] at hc2 g2
          exact j_iret _ dX6_awakeFor_85 (List.Perm.refl _) ⟨by rw [hc2]; congr 3; omega, rfl⟩
set_option maxHeartbeats 4000000 in
set_option maxRecDepth 100000 in
theorem tX6_awakeFor (l : Launch) (x : Cx) (q : Nat → Nat) (u : NS) (v : SS) (g : PG) (pw : Bool × Nat) (kp : KS) (o : OS) (hk : okN u) (a b : Nat) (ha : a < nN u) (hb : b < nN u) : MC l x 1 0 0 yX6_awakeFor cX6_awakeFor 6 (some .int) [.ref (q 0), .int (nI a), .int (nI b)] (mb x q u v g pw kp o) (eI (nI (togU u a b)) (mb x q u v g pw kp o)) := by
  refine MC.of (by decide) (Nat.le_of_ble_eq_true rfl) eI_fit (fun M => ?_)
  show J M l x cX6_awakeFor 6 yX6_awakeFor 1 (eI (nI (togU u a b)) (mb x q u v g pw kp o)) 0 0 0 [(0, .ref (q 0)), (1, .int (nI a)), (2, .int (nI b))] [] (mb x q u v g pw kp o)
  have hn5 : nN u ≤ 5 := hk.1
  refine j_aload_n 0 dX6_awakeFor_0 rfl rfl ?_
  refine j_get (v := .ref (q 2)) 0 dX6_awakeFor_1 fX6_13 rfl rfl ?_
  refine j_iload_n 1 dX6_awakeFor_4 rfl rfl ?_
  refine j_ialdN (i := a) (f := u.2.1) 2 dX6_awakeFor_5 rfl (by omega) (by decide) ?_
  refine j_istore_n (lv' := [(3, .int (u.2.1 a)), (0, .ref (q 0)), (1, .int (nI a)), (2, .int (nI b))]) dX6_awakeFor_6 rfl (by decide) rfl ?_
  refine j_aload_n 1 dX6_awakeFor_7 rfl rfl ?_
  refine j_get (v := .ref (q 2)) 0 dX6_awakeFor_8 fX6_13 rfl rfl ?_
  refine j_iload_n 3 dX6_awakeFor_11 rfl rfl ?_
  refine j_ialdN (i := b) (f := u.2.1) 2 dX6_awakeFor_12 rfl (by omega) (by decide) ?_
  refine j_istore (lv' := [(4, .int (u.2.1 b)), (3, .int (u.2.1 a)), (0, .ref (q 0)), (1, .int (nI a)), (2, .int (nI b))]) dX6_awakeFor_13 (by decide) rfl ?_
  refine j_iconst (v := nI 1) dX6_awakeFor_15 (by decide) ?_
  refine j_istore (lv' := [(5, .int (nI 1)), (4, .int (u.2.1 b)), (3, .int (u.2.1 a)), (0, .ref (q 0)), (1, .int (nI a)), (2, .int (nI b))]) dX6_awakeFor_16 (by decide) rfl ?_
  refine j_lv [3, 4, 5, 2, 1, 0] (lv' := [(0, .ref (q 0)), (1, .int (nI a)), (2, .int (nI b)), (3, .int (u.2.1 a)), (4, .int (u.2.1 b)), (5, .int (nI 1))]) rfl ?_
  exact lp_af l x q u v g pw kp o hk a b ha hb _ 62 1 _ _ (by omega) (by omega) rfl (by omega)
set_option maxHeartbeats 4000000 in
set_option maxRecDepth 100000 in
theorem lp_sn {M : Mx} (l : Launch) (x : Cx) (q : Nat → Nat) (u : NS) (v : SS) (g : PG) (pw : Bool × Nat) (kp : KS) (o : OS) (hk : okN u) (e : Int32) {k0 n0 : Nat}  : ∀ (m : Nat) (p : Nat) (s1 s2 : Int32), p ≤ 50 → 0 ≤ p → itr (pf u) (50 - p) p (s1, s2) = prU u → 50 - p < m → J M l x cX6_sundayNow 8 yX6_sundayNow 3 (eI (if e = 0 then (prU u).1 else (prU u).2) (mb x q u v g pw kp o)) k0 n0 7 [(0, .ref (q 0)), (1, .int e), (2, .int s1), (3, .int s2), (4, .int (nI p))] [] (mb x q u v g pw kp o) := by
  intro m; induction m with
  | zero => intro p s1 s2 hc0 hc1 hc2 hm; exact absurd hm (Nat.not_lt_zero _)
  | succ m ih =>
    intro p s1 s2 hc0 hc1 hc2 hm
    have hn5 : nN u ≤ 5 := hk.1
    refine j_iload 4 dX6_sundayNow_7 rfl ?_
    refine j_bipush (v := 50) dX6_sundayNow_9 (by decide) ?_
    refine j_icmpN_ge (a := p) (b := 50) (by omega) (by omega) (tgt := 95) dX6_sundayNow_11 (by decide) (fun h11 => ?_) (fun h11 => ?_)
    · skip
      refine j_iload_n 1 dX6_sundayNow_95 rfl rfl ?_
      refine j_if_ne (tgt := 103) dX6_sundayNow_96 (by decide) (fun h96 => ?_) (fun h96 => ?_)
      · skip
        refine j_iload_n 3 dX6_sundayNow_103 rfl rfl ?_
        exact j_iret _ dX6_sundayNow_104 (List.Perm.refl _) ⟨by rw [itr_end (n := 50) (b := p) (by omega)] at hc2; rw [← hc2]; first | (rw [if_pos h96]; done) | (rw [if_neg h96]; done), by rfl⟩
      · skip
        refine j_iload_n 2 dX6_sundayNow_99 rfl rfl ?_
        refine j_goto (tgt := 104) dX6_sundayNow_100 (by decide) ?_
        exact j_iret _ dX6_sundayNow_104 (List.Perm.refl _) ⟨by rw [itr_end (n := 50) (b := p) (by omega)] at hc2; rw [← hc2]; first | (rw [if_pos h96]; done) | (rw [if_neg h96]; done), by rfl⟩
    · skip
      refine j_iload 4 dX6_sundayNow_14 rfl ?_
      refine j_bipush (v := 10) dX6_sundayNow_16 (by decide) ?_
      refine j_idiv dX6_sundayNow_18 (by decide) ?_
      refine j_topi (b := nI (p / 10)) (pk_div (d := 10) (by omega) (by decide) (by decide)) ?_
      refine j_istore (lv' := [(5, .int (nI (p / 10))), (0, .ref (q 0)), (1, .int e), (2, .int s1), (3, .int s2), (4, .int (nI p))]) dX6_sundayNow_19 (by decide) rfl ?_
      refine j_iload 5 dX6_sundayNow_21 rfl ?_
      refine j_bipush (v := 10) dX6_sundayNow_23 (by decide) ?_
      refine j_irem dX6_sundayNow_25 (by decide) ?_
      refine j_topi (b := nI (p % 10)) (pk_rem (d := 10) (by omega) (by decide) (by decide)) ?_
      refine j_istore (lv' := [(6, .int (nI (p % 10))), (5, .int (nI (p / 10))), (0, .ref (q 0)), (1, .int e), (2, .int s1), (3, .int s2), (4, .int (nI p))]) dX6_sundayNow_26 (by decide) rfl ?_
      refine j_iload 1 dX6_sundayNow_28 rfl ?_
      refine j_iload 0 dX6_sundayNow_30 rfl ?_
      refine j_icmpN_ge (a := p / 10) (b := p % 10) (by omega) (by omega) (tgt := 89) dX6_sundayNow_32 (by decide) (fun h32 => ?_) (fun h32 => ?_)
      · skip
        refine j_iinc (v := nI (p + 1)) (lv' := [(4, .int (nI (p + 1))), (6, .int (nI (p % 10))), (5, .int (nI (p / 10))), (0, .ref (q 0)), (1, .int e), (2, .int s1), (3, .int s2)]) 6 dX6_sundayNow_89 rfl (nI_1 p) (by decide) rfl ?_
        refine j_goto (tgt := 7) dX6_sundayNow_92 (by decide) ?_
        refine j_lv [3, 4, 5, 6, 0] (lv' := [(0, .ref (q 0)), (1, .int e), (2, .int s1), (3, .int s2), (4, .int (nI (p + 1)))]) rfl ?_
        refine ih (p + 1) _ _ (by omega) (by omega) (?_) (by omega)
        rw [← hc2, itr_go (n := 50) (b := p) (by omega)]; exact congrArg (itr (pf u) (50 - (p + 1)) (p + 1)) (by first | (rw [pf, if_neg (fun z => absurd z.1 (by omega))]; done) | (rw [pf, if_neg (fun z => by rw [h41] at z; exact absurd z.2.1 (by decide))]; done) | (rw [pf, if_neg (fun z => by rw [h50] at z; exact absurd z.2.2.1 (by decide))]; done) | (rw [pf, if_neg (fun z => z.2.2.2 h66)]; done) | (rw [pf, if_pos ⟨h32, h41, h50, h66⟩]; done))
      · skip
        refine j_aload_n 2 dX6_sundayNow_35 rfl rfl ?_
        refine j_iload 1 dX6_sundayNow_36 rfl ?_
        refine j_cVi (As := [.int (nI (p / 10))]) (rest := []) (wr := []) (ws' := mb x q u v g pw kp o) (tX6_mayLie l x q u v g pw kp o hk (p / 10) (by omega)) kX6_mayLie 0 rfl rfl rfl vX6_154 dX6_sundayNow_38 (by decide) rfl rfl (Nat.le_of_ble_eq_true rfl) (pm_0 _) (List.append_nil _) ?_
        refine j_ifb_eq (b := mayN u (p / 10)) (tgt := 89) dX6_sundayNow_41 (by decide) (fun h41 => ?_) (fun h41 => ?_)
        · skip
          refine j_iinc (v := nI (p + 1)) (lv' := [(4, .int (nI (p + 1))), (6, .int (nI (p % 10))), (5, .int (nI (p / 10))), (0, .ref (q 0)), (1, .int e), (2, .int s1), (3, .int s2)]) 6 dX6_sundayNow_89 rfl (nI_1 p) (by decide) rfl ?_
          refine j_goto (tgt := 7) dX6_sundayNow_92 (by decide) ?_
          refine j_lv [3, 4, 5, 6, 0] (lv' := [(0, .ref (q 0)), (1, .int e), (2, .int s1), (3, .int s2), (4, .int (nI (p + 1)))]) rfl ?_
          refine ih (p + 1) _ _ (by omega) (by omega) (?_) (by omega)
          rw [← hc2, itr_go (n := 50) (b := p) (by omega)]; exact congrArg (itr (pf u) (50 - (p + 1)) (p + 1)) (by first | (rw [pf, if_neg (fun z => absurd z.1 (by omega))]; done) | (rw [pf, if_neg (fun z => by rw [h41] at z; exact absurd z.2.1 (by decide))]; done) | (rw [pf, if_neg (fun z => by rw [h50] at z; exact absurd z.2.2.1 (by decide))]; done) | (rw [pf, if_neg (fun z => z.2.2.2 h66)]; done) | (rw [pf, if_pos ⟨h32, h41, h50, h66⟩]; done))
        · skip
          have hm41 : p / 10 < nN u := by simp [mayN] at h41; omega
          refine j_aload_n 2 dX6_sundayNow_44 rfl rfl ?_
          refine j_iload 0 dX6_sundayNow_45 rfl ?_
          refine j_cVi (As := [.int (nI (p % 10))]) (rest := []) (wr := []) (ws' := mb x q u v g pw kp o) (tX6_mayLie l x q u v g pw kp o hk (p % 10) (by omega)) kX6_mayLie 0 rfl rfl rfl vX6_154 dX6_sundayNow_47 (by decide) rfl rfl (Nat.le_of_ble_eq_true rfl) (pm_0 _) (List.append_nil _) ?_
          refine j_ifb_eq (b := mayN u (p % 10)) (tgt := 89) dX6_sundayNow_50 (by decide) (fun h50 => ?_) (fun h50 => ?_)
          · skip
            refine j_iinc (v := nI (p + 1)) (lv' := [(4, .int (nI (p + 1))), (6, .int (nI (p % 10))), (5, .int (nI (p / 10))), (0, .ref (q 0)), (1, .int e), (2, .int s1), (3, .int s2)]) 6 dX6_sundayNow_89 rfl (nI_1 p) (by decide) rfl ?_
            refine j_goto (tgt := 7) dX6_sundayNow_92 (by decide) ?_
            refine j_lv [3, 4, 5, 6, 0] (lv' := [(0, .ref (q 0)), (1, .int e), (2, .int s1), (3, .int s2), (4, .int (nI (p + 1)))]) rfl ?_
            refine ih (p + 1) _ _ (by omega) (by omega) (?_) (by omega)
            rw [← hc2, itr_go (n := 50) (b := p) (by omega)]; exact congrArg (itr (pf u) (50 - (p + 1)) (p + 1)) (by first | (rw [pf, if_neg (fun z => absurd z.1 (by omega))]; done) | (rw [pf, if_neg (fun z => by rw [h41] at z; exact absurd z.2.1 (by decide))]; done) | (rw [pf, if_neg (fun z => by rw [h50] at z; exact absurd z.2.2.1 (by decide))]; done) | (rw [pf, if_neg (fun z => z.2.2.2 h66)]; done) | (rw [pf, if_pos ⟨h32, h41, h50, h66⟩]; done))
          · skip
            have hm50 : p % 10 < nN u := by simp [mayN] at h50; omega
            refine j_aload_n 2 dX6_sundayNow_53 rfl rfl ?_
            refine j_iload 1 dX6_sundayNow_54 rfl ?_
            refine j_iload 0 dX6_sundayNow_56 rfl ?_
            refine j_cVi (As := [.int (nI (p / 10)), .int (nI (p % 10))]) (rest := []) (wr := []) (ws' := mb x q u v g pw kp o) (tX6_awakeFor l x q u v g pw kp o hk (p / 10) (p % 10) (by omega) (by omega)) kX6_awakeFor 0 rfl rfl rfl vX6_157 dX6_sundayNow_58 (by decide) rfl rfl (Nat.le_of_ble_eq_true rfl) (pm_0 _) (List.append_nil _) ?_
            refine j_istore (lv' := [(7, .int (nI (togU u (p / 10) (p % 10)))), (6, .int (nI (p % 10))), (5, .int (nI (p / 10))), (0, .ref (q 0)), (1, .int e), (2, .int s1), (3, .int s2), (4, .int (nI p))]) dX6_sundayNow_61 (by decide) rfl ?_
            refine j_iload 0 dX6_sundayNow_63 rfl ?_
            refine j_iload_n 6 dX6_sundayNow_65 rfl rfl ?_
            refine j_icmp_le (tgt := 74) dX6_sundayNow_66 (by decide) (fun h66 => ?_) (fun h66 => ?_)
            · skip
              refine j_iload_n 5 dX6_sundayNow_74 rfl rfl ?_
              refine j_istore_n (lv' := [(2, .int s1), (7, .int (nI (togU u (p / 10) (p % 10)))), (6, .int (nI (p % 10))), (5, .int (nI (p / 10))), (0, .ref (q 0)), (1, .int e), (3, .int s2), (4, .int (nI p))]) dX6_sundayNow_75 rfl (by decide) rfl ?_
              refine j_iload 1 dX6_sundayNow_76 rfl ?_
              refine j_iload_n 6 dX6_sundayNow_78 rfl rfl ?_
              refine j_icmp_le (tgt := 87) dX6_sundayNow_79 (by decide) (fun h79 => ?_) (fun h79 => absurd h66 h79)
              refine j_iload_n 6 dX6_sundayNow_87 rfl rfl ?_
              refine j_istore_n (lv' := [(3, .int s2), (2, .int s1), (7, .int (nI (togU u (p / 10) (p % 10)))), (6, .int (nI (p % 10))), (5, .int (nI (p / 10))), (0, .ref (q 0)), (1, .int e), (4, .int (nI p))]) dX6_sundayNow_88 rfl (by decide) rfl ?_
              refine j_iinc (v := nI (p + 1)) (lv' := [(4, .int (nI (p + 1))), (3, .int s2), (2, .int s1), (7, .int (nI (togU u (p / 10) (p % 10)))), (6, .int (nI (p % 10))), (5, .int (nI (p / 10))), (0, .ref (q 0)), (1, .int e)]) 7 dX6_sundayNow_89 rfl (nI_1 p) (by decide) rfl ?_
              refine j_goto (tgt := 7) dX6_sundayNow_92 (by decide) ?_
              refine j_lv [6, 7, 2, 1, 0] (lv' := [(0, .ref (q 0)), (1, .int e), (2, .int s1), (3, .int s2), (4, .int (nI (p + 1)))]) rfl ?_
              refine ih (p + 1) _ _ (by omega) (by omega) (?_) (by omega)
              rw [← hc2, itr_go (n := 50) (b := p) (by omega)]; exact congrArg (itr (pf u) (50 - (p + 1)) (p + 1)) (by first | (rw [pf, if_neg (fun z => absurd z.1 (by omega))]; done) | (rw [pf, if_neg (fun z => by rw [h41] at z; exact absurd z.2.1 (by decide))]; done) | (rw [pf, if_neg (fun z => by rw [h50] at z; exact absurd z.2.2.1 (by decide))]; done) | (rw [pf, if_neg (fun z => z.2.2.2 h66)]; done) | (rw [pf, if_pos ⟨h32, h41, h50, h66⟩]; done))
            · skip
              refine j_iload 7 dX6_sundayNow_69 rfl ?_
              refine j_goto (tgt := 75) dX6_sundayNow_71 (by decide) ?_
              refine j_istore_n (lv' := [(2, .int (nI p)), (7, .int (nI (togU u (p / 10) (p % 10)))), (6, .int (nI (p % 10))), (5, .int (nI (p / 10))), (0, .ref (q 0)), (1, .int e), (3, .int s2), (4, .int (nI p))]) dX6_sundayNow_75 rfl (by decide) rfl ?_
              refine j_iload 1 dX6_sundayNow_76 rfl ?_
              refine j_iload_n 6 dX6_sundayNow_78 rfl rfl ?_
              refine j_icmp_le (tgt := 87) dX6_sundayNow_79 (by decide) (fun h79 => absurd h79 h66) (fun h79 => ?_)
              refine j_iload 1 dX6_sundayNow_82 rfl ?_
              refine j_goto (tgt := 88) dX6_sundayNow_84 (by decide) ?_
              refine j_istore_n (lv' := [(3, .int (nI (togU u (p / 10) (p % 10)))), (2, .int (nI p)), (7, .int (nI (togU u (p / 10) (p % 10)))), (6, .int (nI (p % 10))), (5, .int (nI (p / 10))), (0, .ref (q 0)), (1, .int e), (4, .int (nI p))]) dX6_sundayNow_88 rfl (by decide) rfl ?_
              refine j_iinc (v := nI (p + 1)) (lv' := [(4, .int (nI (p + 1))), (3, .int (nI (togU u (p / 10) (p % 10)))), (2, .int (nI p)), (7, .int (nI (togU u (p / 10) (p % 10)))), (6, .int (nI (p % 10))), (5, .int (nI (p / 10))), (0, .ref (q 0)), (1, .int e)]) 7 dX6_sundayNow_89 rfl (nI_1 p) (by decide) rfl ?_
              refine j_goto (tgt := 7) dX6_sundayNow_92 (by decide) ?_
              refine j_lv [6, 7, 2, 1, 0] (lv' := [(0, .ref (q 0)), (1, .int e), (2, .int (nI p)), (3, .int (nI (togU u (p / 10) (p % 10)))), (4, .int (nI (p + 1)))]) rfl ?_
              refine ih (p + 1) _ _ (by omega) (by omega) (?_) (by omega)
              rw [← hc2, itr_go (n := 50) (b := p) (by omega)]; exact congrArg (itr (pf u) (50 - (p + 1)) (p + 1)) (by first | (rw [pf, if_neg (fun z => absurd z.1 (by omega))]; done) | (rw [pf, if_neg (fun z => by rw [h41] at z; exact absurd z.2.1 (by decide))]; done) | (rw [pf, if_neg (fun z => by rw [h50] at z; exact absurd z.2.2.1 (by decide))]; done) | (rw [pf, if_neg (fun z => z.2.2.2 h66)]; done) | (rw [pf, if_pos ⟨h32, h41, h50, h66⟩]; done))
set_option maxHeartbeats 4000000 in
set_option maxRecDepth 100000 in
theorem tX6_sundayNow (l : Launch) (x : Cx) (q : Nat → Nat) (u : NS) (v : SS) (g : PG) (pw : Bool × Nat) (kp : KS) (o : OS) (hk : okN u) (e : Int32) : MC l x 3 0 0 yX6_sundayNow cX6_sundayNow 8 (some .int) [.ref (q 0), .int e] (mb x q u v g pw kp o) (eI (if e = 0 then (prU u).1 else (prU u).2) (mb x q u v g pw kp o)) := by
  refine MC.of (by decide) (Nat.le_of_ble_eq_true rfl) eI_fit (fun M => ?_)
  show J M l x cX6_sundayNow 8 yX6_sundayNow 3 (eI (if e = 0 then (prU u).1 else (prU u).2) (mb x q u v g pw kp o)) 0 0 0 [(0, .ref (q 0)), (1, .int e)] [] (mb x q u v g pw kp o)
  have hn5 : nN u ≤ 5 := hk.1
  refine j_iconst (v := (-1)) dX6_sundayNow_0 (by decide) ?_
  refine j_istore_n (lv' := [(2, .int (-1)), (0, .ref (q 0)), (1, .int e)]) dX6_sundayNow_1 rfl (by decide) rfl ?_
  refine j_iconst (v := (-1)) dX6_sundayNow_2 (by decide) ?_
  refine j_istore_n (lv' := [(3, .int (-1)), (2, .int (-1)), (0, .ref (q 0)), (1, .int e)]) dX6_sundayNow_3 rfl (by decide) rfl ?_
  refine j_iconst (v := nI 0) dX6_sundayNow_4 (by decide) ?_
  refine j_istore (lv' := [(4, .int (nI 0)), (3, .int (-1)), (2, .int (-1)), (0, .ref (q 0)), (1, .int e)]) dX6_sundayNow_5 (by decide) rfl ?_
  refine j_lv [3, 4, 2, 1, 0] (lv' := [(0, .ref (q 0)), (1, .int e), (2, .int (-1)), (3, .int (-1)), (4, .int (nI 0))]) rfl ?_
  exact lp_sn l x q u v g pw kp o hk e 51 0 (-1) (-1) (by omega) (by omega) (pf_prU u hn5) (by omega)
set_option maxHeartbeats 4000000 in
set_option maxRecDepth 100000 in
theorem tX6_sunday (l : Launch) (x : Cx) (q : Nat → Nat) (u : NS) (v : SS) (g : PG) (pw : Bool × Nat) (kp : KS) (o : OS) (hk : okN u) (e : Int32) : MC l x 4 0 0 yX6_sunday cX6_sunday 2 (some .int) [.ref (q 0), .int e] (mb x q u v g pw kp o) (eI (kSunday u e) (mb x q u v g pw kp o)) := by
  refine MC.of (by decide) (Nat.le_of_ble_eq_true rfl) eI_fit (fun M => ?_)
  show J M l x cX6_sunday 2 yX6_sunday 4 (eI (kSunday u e) (mb x q u v g pw kp o)) 0 0 0 [(0, .ref (q 0)), (1, .int e)] [] (mb x q u v g pw kp o)
  have hn5 : nN u ≤ 5 := hk.1
  refine j_iload_n 1 dX6_sunday_0 rfl rfl ?_
  refine j_iconst (v := 0) dX6_sunday_1 (by decide) ?_
  refine j_iconst (v := 1) dX6_sunday_2 (by decide) ?_
  refine j_cSi (As := [.int e, .int 0, .int 1]) (rest := []) (wr := mb x q u v g pw kp o) (ws' := mb x q u v g pw kp o) (tX6_within l x e 0 1) kX6_within sX6_51 dX6_sunday_3 (by decide) rfl rfl (Nat.le_of_ble_eq_true rfl) (List.Perm.refl _) rfl ?_
  refine j_ifb_ne (b := isW e 0 1) (tgt := 12) dX6_sunday_6 (by decide) (fun h6 => ?_) (fun h6 => ?_)
  · skip
    refine j_aload_n 0 dX6_sunday_12 rfl rfl ?_
    refine j_get (v := .int (nI (nN u))) 0 dX6_sunday_13 fX6_77 rfl rfl ?_
    refine j_if_ne (tgt := 24) dX6_sunday_16 (by decide) (fun h16 => ?_) (fun h16 => ?_)
    · skip
      have h0 : ¬ nN u = 0 := fun e => h16 (by rw [e]; rfl)
      refine j_aload_n 0 dX6_sunday_24 rfl rfl ?_
      refine j_iload_n 1 dX6_sunday_25 rfl rfl ?_
      refine j_cVi (As := [.int e]) (rest := []) (wr := []) (ws' := mb x q u v g pw kp o) (tX6_sundayNow l x q u v g pw kp o hk e) kX6_sundayNow 0 rfl rfl rfl vX6_160 dX6_sunday_26 (by decide) rfl rfl (Nat.le_of_ble_eq_true rfl) (pm_0 _) (List.append_nil _) ?_
      exact j_iret _ dX6_sunday_29 (List.Perm.refl _) ⟨by first | (simp [kSunday, h6]; done) | (simp [kSunday, h6, h0]; done), by rfl⟩
    · skip
      have h0 : nN u = 0 := by have := (nI_eq (a := nN u) (b := 0) (by omega) (by decide)).mp h16; exact this
      refine j_bipush (v := (-103)) dX6_sunday_19 (by decide) ?_
      refine j_goto (tgt := 29) dX6_sunday_21 (by decide) ?_
      exact j_iret _ dX6_sunday_29 (List.Perm.refl _) ⟨by first | (simp [kSunday, h6]; done) | (simp [kSunday, h6, h0]; done), by rfl⟩
  · skip
    refine j_bipush (v := (-102)) dX6_sunday_9 (by decide) ?_
    exact j_iret _ dX6_sunday_11 (List.Perm.refl _) ⟨by first | (simp [kSunday, h6]; done) | (simp [kSunday, h6, h0]; done), by rfl⟩
set_option maxHeartbeats 4000000 in
set_option maxRecDepth 100000 in
theorem tX6_see (l : Launch) (x : Cx) (q : Nat → Nat) (u : NS) (v : SS) (g : PG) (pw : Bool × Nat) (kp : KS) (o : OS) (hk : okN u) (hv : v.2.2 ≤ 6) (e l9 : Int32) : MC l x 2 0 0 yX6_see cX6_see 3 (some .int) [.ref (q 0), .int e, .int l9] (mb x q u v g pw kp o) (eI (kSee (false, o.1, o.2.1) g u v u v e l9).1 (mb x q u (kSee (false, o.1, o.2.1) g u v u v e l9).2.2.2.2.1 g pw kp o)) := by
  refine MC.of (by decide) (Nat.le_of_ble_eq_true rfl) eI_fit (fun M => ?_)
  show J M l x cX6_see 3 yX6_see 2 (eI (kSee (false, o.1, o.2.1) g u v u v e l9).1 (mb x q u (kSee (false, o.1, o.2.1) g u v u v e l9).2.2.2.2.1 g pw kp o)) 0 0 0 [(0, .ref (q 0)), (1, .int e), (2, .int l9)] [] (mb x q u v g pw kp o)
  have hn5 : nN u ≤ 5 := hk.1
  refine j_iload_n 1 dX6_see_0 rfl rfl ?_
  refine j_iconst (v := 0) dX6_see_1 (by decide) ?_
  refine j_bipush (v := 12) dX6_see_2 (by decide) ?_
  refine j_cSi (As := [.int e, .int 0, .int 12]) (rest := []) (wr := mb x q u v g pw kp o) (ws' := mb x q u v g pw kp o) (tX6_within l x e 0 12) kX6_within sX6_51 dX6_see_4 (by decide) rfl rfl (Nat.le_of_ble_eq_true rfl) (List.Perm.refl _) rfl ?_
  refine j_ifb_ne (b := isW e 0 12) (tgt := 13) dX6_see_7 (by decide) (fun h7 => ?_) (fun h7 => ?_)
  · skip
    refine j_iload_n 2 dX6_see_13 rfl rfl ?_
    refine j_iconst (v := (-1)) dX6_see_14 (by decide) ?_
    refine j_icmp_eq (tgt := 29) dX6_see_15 (by decide) (fun h15 => ?_) (fun h15 => ?_)
    · skip
      refine j_aload_n 0 dX6_see_29 rfl rfl ?_
      refine j_get (v := .int (nI v.2.2)) 0 dX6_see_30 fX6_89 rfl rfl ?_
      refine j_bipush (v := 6) dX6_see_33 (by decide) ?_
      refine j_icmpN_ne (a := v.2.2) (b := 6) (by omega) (by omega) (tgt := 41) dX6_see_35 (by decide) (fun h35 => ?_) (fun h35 => ?_)
      · skip
        have hlt : v.2.2 < 6 := by omega
        refine j_aload_n 0 dX6_see_41 rfl rfl ?_
        refine j_get (v := .ref (q 5)) 0 dX6_see_42 fX6_23 rfl rfl ?_
        refine j_aload_n 0 dX6_see_45 rfl rfl ?_
        refine j_get (v := .int (nI v.2.2)) 0 dX6_see_46 fX6_89 rfl rfl ?_
        refine j_iload_n 1 dX6_see_49 rfl rfl ?_
        refine j_iastN (i := v.2.2) (f := v.1) (ws' := mb x q u (upd v.1 v.2.2 e, v.2.1, v.2.2) g pw kp o) 5 dX6_see_50 rfl (by omega) (by decide) rfl ?_
        refine j_aload_n 0 dX6_see_51 rfl rfl ?_
        refine j_get (v := .ref (q 6)) 0 dX6_see_52 fX6_26 rfl rfl ?_
        refine j_aload_n 0 dX6_see_55 rfl rfl ?_
        refine j_get (v := .int (nI v.2.2)) 0 dX6_see_56 fX6_89 rfl rfl ?_
        refine j_iload_n 2 dX6_see_59 rfl rfl ?_
        refine j_iastN (i := v.2.2) (f := v.2.1) (ws' := mb x q u (upd v.1 v.2.2 e, upd v.2.1 v.2.2 l9, v.2.2) g pw kp o) 6 dX6_see_60 rfl (by omega) (by decide) rfl ?_
        refine j_aload_n 0 dX6_see_61 rfl rfl ?_
        refine j_dup dX6_see_62 rfl ?_
        refine j_get (v := .int (nI v.2.2)) 0 dX6_see_63 fX6_89 rfl rfl ?_
        refine j_iconst (v := 1) dX6_see_66 (by decide) ?_
        refine j_iadd dX6_see_67 ?_
        refine j_topi (b := nI (v.2.2 + 1)) (nI_1 _) ?_
        refine j_put (v := .int (nI (v.2.2 + 1))) (ws' := mb x q u (upd v.1 v.2.2 e, upd v.2.1 v.2.2 l9, v.2.2 + 1) g pw kp o) 0 dX6_see_68 fX6_89 rfl rfl rfl (Nat.le_of_ble_eq_true rfl) rfl ?_
        refine j_aload_n 0 dX6_see_71 rfl rfl ?_
        refine j_get (v := .int (nI (v.2.2 + 1))) 0 dX6_see_72 fX6_89 rfl rfl ?_
        have hK1 : (kSee (false, o.1, o.2.1) g u v u v e l9).1 = nI (v.2.2 + 1) := by first | (simp [kSee, h7, h15, hlt]; done) | (simp [kSee, h7, h15, h23, hlt]; done)
        have hK2 : (kSee (false, o.1, o.2.1) g u v u v e l9).2.2.2.2.1 = (upd v.1 v.2.2 e, upd v.2.1 v.2.2 l9, v.2.2 + 1) := by first | (simp [kSee, h7, h15, hlt]; done) | (simp [kSee, h7, h15, h23, hlt]; done)
        exact j_iret _ dX6_see_75 (List.Perm.refl _) ⟨by rw [hK1], by rw [hK2]⟩
      · skip
        refine j_bipush (v := (-104)) dX6_see_38 (by decide) ?_
        have hK1 : (kSee (false, o.1, o.2.1) g u v u v e l9).1 = (-104) := by first | (simp [kSee, h7, h15, h35]; done) | (simp [kSee, h7, h15, h23, h35]; done)
        have hK2 : (kSee (false, o.1, o.2.1) g u v u v e l9).2.2.2.2.1 = v := by first | (simp [kSee, h7, h15, h35]; done) | (simp [kSee, h7, h15, h23, h35]; done)
        exact j_iret _ dX6_see_40 (List.Perm.refl _) ⟨by rw [hK1], by rw [hK2]⟩
    · skip
      refine j_aload_n 0 dX6_see_18 rfl rfl ?_
      refine j_iload_n 2 dX6_see_19 rfl rfl ?_
      refine j_cVi (As := [.int l9]) (rest := []) (wr := []) (ws' := mb x q u v g pw kp o) (uX6_isLodger l x q u v g pw kp o (hk).1 l9) kX6_isLodger 0 rfl rfl rfl vX6_112 dX6_see_20 (by decide) rfl rfl (Nat.le_of_ble_eq_true rfl) (pm_0 _) (List.append_nil _) ?_
      refine j_ifb_ne (b := kn (nN u) l9) (tgt := 29) dX6_see_23 (by decide) (fun h23 => ?_) (fun h23 => ?_)
      · skip
        refine j_aload_n 0 dX6_see_29 rfl rfl ?_
        refine j_get (v := .int (nI v.2.2)) 0 dX6_see_30 fX6_89 rfl rfl ?_
        refine j_bipush (v := 6) dX6_see_33 (by decide) ?_
        refine j_icmpN_ne (a := v.2.2) (b := 6) (by omega) (by omega) (tgt := 41) dX6_see_35 (by decide) (fun h35 => ?_) (fun h35 => ?_)
        · skip
          have hlt : v.2.2 < 6 := by omega
          refine j_aload_n 0 dX6_see_41 rfl rfl ?_
          refine j_get (v := .ref (q 5)) 0 dX6_see_42 fX6_23 rfl rfl ?_
          refine j_aload_n 0 dX6_see_45 rfl rfl ?_
          refine j_get (v := .int (nI v.2.2)) 0 dX6_see_46 fX6_89 rfl rfl ?_
          refine j_iload_n 1 dX6_see_49 rfl rfl ?_
          refine j_iastN (i := v.2.2) (f := v.1) (ws' := mb x q u (upd v.1 v.2.2 e, v.2.1, v.2.2) g pw kp o) 5 dX6_see_50 rfl (by omega) (by decide) rfl ?_
          refine j_aload_n 0 dX6_see_51 rfl rfl ?_
          refine j_get (v := .ref (q 6)) 0 dX6_see_52 fX6_26 rfl rfl ?_
          refine j_aload_n 0 dX6_see_55 rfl rfl ?_
          refine j_get (v := .int (nI v.2.2)) 0 dX6_see_56 fX6_89 rfl rfl ?_
          refine j_iload_n 2 dX6_see_59 rfl rfl ?_
          refine j_iastN (i := v.2.2) (f := v.2.1) (ws' := mb x q u (upd v.1 v.2.2 e, upd v.2.1 v.2.2 l9, v.2.2) g pw kp o) 6 dX6_see_60 rfl (by omega) (by decide) rfl ?_
          refine j_aload_n 0 dX6_see_61 rfl rfl ?_
          refine j_dup dX6_see_62 rfl ?_
          refine j_get (v := .int (nI v.2.2)) 0 dX6_see_63 fX6_89 rfl rfl ?_
          refine j_iconst (v := 1) dX6_see_66 (by decide) ?_
          refine j_iadd dX6_see_67 ?_
          refine j_topi (b := nI (v.2.2 + 1)) (nI_1 _) ?_
          refine j_put (v := .int (nI (v.2.2 + 1))) (ws' := mb x q u (upd v.1 v.2.2 e, upd v.2.1 v.2.2 l9, v.2.2 + 1) g pw kp o) 0 dX6_see_68 fX6_89 rfl rfl rfl (Nat.le_of_ble_eq_true rfl) rfl ?_
          refine j_aload_n 0 dX6_see_71 rfl rfl ?_
          refine j_get (v := .int (nI (v.2.2 + 1))) 0 dX6_see_72 fX6_89 rfl rfl ?_
          have hK1 : (kSee (false, o.1, o.2.1) g u v u v e l9).1 = nI (v.2.2 + 1) := by first | (simp [kSee, h7, h15, hlt]; done) | (simp [kSee, h7, h15, h23, hlt]; done)
          have hK2 : (kSee (false, o.1, o.2.1) g u v u v e l9).2.2.2.2.1 = (upd v.1 v.2.2 e, upd v.2.1 v.2.2 l9, v.2.2 + 1) := by first | (simp [kSee, h7, h15, hlt]; done) | (simp [kSee, h7, h15, h23, hlt]; done)
          exact j_iret _ dX6_see_75 (List.Perm.refl _) ⟨by rw [hK1], by rw [hK2]⟩
        · skip
          refine j_bipush (v := (-104)) dX6_see_38 (by decide) ?_
          have hK1 : (kSee (false, o.1, o.2.1) g u v u v e l9).1 = (-104) := by first | (simp [kSee, h7, h15, h35]; done) | (simp [kSee, h7, h15, h23, h35]; done)
          have hK2 : (kSee (false, o.1, o.2.1) g u v u v e l9).2.2.2.2.1 = v := by first | (simp [kSee, h7, h15, h35]; done) | (simp [kSee, h7, h15, h23, h35]; done)
          exact j_iret _ dX6_see_40 (List.Perm.refl _) ⟨by rw [hK1], by rw [hK2]⟩
      · skip
        refine j_bipush (v := (-101)) dX6_see_26 (by decide) ?_
        have hK1 : (kSee (false, o.1, o.2.1) g u v u v e l9).1 = (-101) := by simp [kSee, h7, h15, h23]
        have hK2 : (kSee (false, o.1, o.2.1) g u v u v e l9).2.2.2.2.1 = v := by simp [kSee, h7, h15, h23]
        exact j_iret _ dX6_see_28 (List.Perm.refl _) ⟨by rw [hK1], by rw [hK2]⟩
  · skip
    refine j_bipush (v := (-102)) dX6_see_10 (by decide) ?_
    have hK1 : (kSee (false, o.1, o.2.1) g u v u v e l9).1 = (-102) := by simp [kSee, h7]
    have hK2 : (kSee (false, o.1, o.2.1) g u v u v e l9).2.2.2.2.1 = v := by simp [kSee, h7]
    exact j_iret _ dX6_see_12 (List.Perm.refl _) ⟨by rw [hK1], by rw [hK2]⟩
set_option maxHeartbeats 4000000 in
set_option maxRecDepth 100000 in
theorem tX6_forget (l : Launch) (x : Cx) (q : Nat → Nat) (u : NS) (v : SS) (g : PG) (pw : Bool × Nat) (kp : KS) (o : OS) (hk : okN u) : MC l x 0 0 0 yX6_forget cX6_forget 2 (some .int) [.ref (q 0)] (mb x q u v g pw kp o) (eI (nI v.2.2) (mb x q u (v.1, v.2.1, 0) g pw kp o)) := by
  refine MC.of (by decide) (Nat.le_of_ble_eq_true rfl) eI_fit (fun M => ?_)
  show J M l x cX6_forget 2 yX6_forget 0 (eI (nI v.2.2) (mb x q u (v.1, v.2.1, 0) g pw kp o)) 0 0 0 [(0, .ref (q 0))] [] (mb x q u v g pw kp o)
  refine j_aload_n 0 dX6_forget_0 rfl rfl ?_
  refine j_get (v := .int (nI v.2.2)) 0 dX6_forget_1 fX6_89 rfl rfl ?_
  refine j_istore_n (lv' := [(1, .int (nI v.2.2)), (0, .ref (q 0))]) dX6_forget_4 rfl (by decide) rfl ?_
  refine j_aload_n 1 dX6_forget_5 rfl rfl ?_
  refine j_iconst (v := 0) dX6_forget_6 (by decide) ?_
  refine j_put (v := .int (nI 0)) (ws' := mb x q u (v.1, v.2.1, 0) g pw kp o) 0 dX6_forget_7 fX6_89 rfl rfl rfl (Nat.le_of_ble_eq_true rfl) rfl ?_
  refine j_iload_n 0 dX6_forget_10 rfl rfl ?_
  exact j_iret _ dX6_forget_11 (List.Perm.refl _) ⟨by rfl, by rfl⟩
set_option maxHeartbeats 4000000 in
set_option maxRecDepth 100000 in
theorem lp_ltI {M : Mx} (l : Launch) (x : Cx) (q : Nat → Nat) (u : NS) (v : SS) (g : PG) (pw : Bool × Nat) (kp : KS) (o : OS) (hk : okN u) (j : Nat) (hj : j < nN u) (t : Nat) (ht : t < 10) (W : NS) (hkW : okN W) (hfW : frm u W) (hbW : ∀ k, oI (wbU (hrs k (wak W j (nI t)))) = bed u j t k) {k0 n0 : Nat} (hK : ∀ (w : NS) (wy : Nat → Int32), frm u w → (∀ i, i < 13 * t + 13 → wy i = bed u j (i / 13) (i % 13)) → J M l x cX6_layTired 4 yX6_layTired 2 (fun v9 ws => v9 = none ∧ ∃ (u' : NS) (o' : OS), sim u o u' o' ∧ (∀ t k, t < 10 → k < 13 → o'.2.2.2.2.1 (13 * t + k) = bed u j t k) ∧ ws = mb x q u' v g pw kp o') k0 n0 64 [(0, .ref (q 0)), (1, .int (nI j)), (2, .int (nI t))] [] (mb x q w v g pw kp (setW (bgO u o) wy))) : ∀ (m : Nat) (k : Nat) (wy : Nat → Int32), k ≤ 13 → (∀ i, i < 13 * t + k → wy i = bed u j (i / 13) (i % 13)) → 13 - k < m → J M l x cX6_layTired 4 yX6_layTired 2 (fun v9 ws => v9 = none ∧ ∃ (u' : NS) (o' : OS), sim u o u' o' ∧ (∀ t k, t < 10 → k < 13 → o'.2.2.2.2.1 (13 * t + k) = bed u j t k) ∧ ws = mb x q u' v g pw kp o') k0 n0 33 [(0, .ref (q 0)), (1, .int (nI j)), (2, .int (nI t)), (3, .int (nI k))] [] (mb x q (hrs k (wak W j (nI t))) v g pw kp (setW (bgO u o) wy)) := by
  intro m; induction m with
  | zero => intro k wy hc0 hc1 hm; exact absurd hm (Nat.not_lt_zero _)
  | succ m ih =>
    intro k wy hc0 hc1 hm
    have hn5 : nN u ≤ 5 := hk.1
    refine j_iload_n 3 dX6_layTired_33 rfl rfl ?_
    refine j_bipush (v := 12) dX6_layTired_34 (by decide) ?_
    refine j_icmpN_gt (a := k) (b := 12) (by omega) (by omega) (tgt := 64) dX6_layTired_36 (by decide) (fun h36 => ?_) (fun h36 => ?_)
    · skip
      refine j_lv [0, 1, 2] (lv' := [(0, .ref (q 0)), (1, .int (nI j)), (2, .int (nI t))]) rfl ?_
      exact hK (hrs k (wak W j (nI t))) wy (frm.hrs (frm.wak hfW j (nI t)) k) (fun i hi => hc1 i (by omega))
    · skip
      refine j_aload_n 0 dX6_layTired_39 rfl rfl ?_
      refine j_get (v := .ref (q 10)) 0 dX6_layTired_40 fX6_39 rfl rfl ?_
      refine j_bipush (v := 13) dX6_layTired_43 (by decide) ?_
      refine j_iload_n 2 dX6_layTired_45 rfl rfl ?_
      refine j_imul dX6_layTired_46 ?_
      refine j_topi (b := nI (13 * t)) (pk_mul 13 t) ?_
      refine j_iload_n 3 dX6_layTired_47 rfl rfl ?_
      refine j_iadd dX6_layTired_48 ?_
      refine j_topi (b := nI (13 * t + k)) (nI_add _ _) ?_
      refine j_aload_n 0 dX6_layTired_49 rfl rfl ?_
      refine j_cVi (As := []) (rest := [.int (nI (13 * t + k)), .ref (q 10)]) (wr := []) (ws' := mb x q (hrs k (wak W j (nI t))) v g pw kp (setW (bgO u o) wy)) (uX6_whose l x q (hrs k (wak W j (nI t))) v g pw kp (setW (bgO u o) wy) (okN_hrs (okN_wak hkW j _ (by omega)) k)) kX6_whose 0 rfl rfl rfl vX6_92 dX6_layTired_50 (by decide) rfl rfl (Nat.le_of_ble_eq_true rfl) (pm_0 _) (List.append_nil _) ?_
      refine j_iastN (i := 13 * t + k) (f := (setW (bgO u o) wy).2.2.2.2.1) (ws' := mb x q (hrs k (wak W j (nI t))) v g pw kp ((setW (bgO u o) wy).1, (setW (bgO u o) wy).2.1, (setW (bgO u o) wy).2.2.1, (setW (bgO u o) wy).2.2.2.1, upd ((setW (bgO u o) wy).2.2.2.2.1) (13 * t + k) (oI (wbU (hrs k (wak W j (nI t))))), (setW (bgO u o) wy).2.2.2.2.2.1, (setW (bgO u o) wy).2.2.2.2.2.2)) 10 dX6_layTired_53 rfl (by omega) (by decide) rfl ?_
      refine j_aload_n 0 dX6_layTired_54 rfl rfl ?_
      refine j_cVv (As := []) (rest := []) (wr := []) (ws' := mb x q (ph (hrs k (wak W j (nI t)))) v g pw kp ((setW (bgO u o) wy).1, (setW (bgO u o) wy).2.1, (setW (bgO u o) wy).2.2.1, (setW (bgO u o) wy).2.2.2.1, upd ((setW (bgO u o) wy).2.2.2.2.1) (13 * t + k) (oI (wbU (hrs k (wak W j (nI t))))), (setW (bgO u o) wy).2.2.2.2.2.1, (setW (bgO u o) wy).2.2.2.2.2.2)) (uX6_goHour l x q (hrs k (wak W j (nI t))) v g pw kp ((setW (bgO u o) wy).1, (setW (bgO u o) wy).2.1, (setW (bgO u o) wy).2.2.1, (setW (bgO u o) wy).2.2.2.1, upd ((setW (bgO u o) wy).2.2.2.2.1) (13 * t + k) (oI (wbU (hrs k (wak W j (nI t))))), (setW (bgO u o) wy).2.2.2.2.2.1, (setW (bgO u o) wy).2.2.2.2.2.2) (okN_hrs (okN_wak hkW j _ (by omega)) k)) kX6_goHour 0 rfl rfl rfl vX6_126 dX6_layTired_55 (by decide) rfl rfl (Nat.le_of_ble_eq_true rfl) (pm_0 _) (List.append_nil _) ?_
      refine j_iinc (v := nI (k + 1)) (lv' := [(3, .int (nI (k + 1))), (0, .ref (q 0)), (1, .int (nI j)), (2, .int (nI t))]) 3 dX6_layTired_58 rfl (nI_1 k) (by decide) rfl ?_
      refine j_goto (tgt := 33) dX6_layTired_61 (by decide) ?_
      refine j_lv [1, 2, 3, 0] (lv' := [(0, .ref (q 0)), (1, .int (nI j)), (2, .int (nI t)), (3, .int (nI (k + 1)))]) rfl ?_
      refine j_ws (ws' := mb x q (hrs (k + 1) (wak W j (nI t))) v g pw kp (setW (bgO u o) (upd wy (13 * t + k) (oI (wbU (hrs k (wak W j (nI t)))))))) rfl ?_
      refine ih (k + 1) _ (by omega) (fun i hi => ?_) (by omega)
      by_cases e : i = 13 * t + k
      · subst e; rw [upd_self, bed_i (by omega)]; exact hbW k
      · rw [pk_un e]; exact hc1 i (by omega)
set_option maxHeartbeats 4000000 in
set_option maxRecDepth 100000 in
theorem lp_ltO {M : Mx} (l : Launch) (x : Cx) (q : Nat → Nat) (u : NS) (v : SS) (g : PG) (pw : Bool × Nat) (kp : KS) (o : OS) (hk : okN u) (j : Nat) (hj : j < nN u) {k0 n0 : Nat}  : ∀ (m : Nat) (t : Nat) (w : NS) (wy : Nat → Int32), t ≤ 10 → frm u w → (∀ i, i < 13 * t → wy i = bed u j (i / 13) (i % 13)) → 10 - t < m → J M l x cX6_layTired 4 yX6_layTired 2 (fun v9 ws => v9 = none ∧ ∃ (u' : NS) (o' : OS), sim u o u' o' ∧ (∀ t k, t < 10 → k < 13 → o'.2.2.2.2.1 (13 * t + k) = bed u j t k) ∧ ws = mb x q u' v g pw kp o') k0 n0 6 [(0, .ref (q 0)), (1, .int (nI j)), (2, .int (nI t))] [] (mb x q w v g pw kp (setW (bgO u o) wy)) := by
  intro m; induction m with
  | zero => intro t w wy hc0 hc1 hc2 hm; exact absurd hm (Nat.not_lt_zero _)
  | succ m ih =>
    intro t w wy hc0 hc1 hc2 hm
    have hn5 : nN u ≤ 5 := hk.1
    have hfw := hc1
    have hnw := hfw.nE
    refine j_iload_n 2 dX6_layTired_6 rfl rfl ?_
    refine j_bipush (v := 10) dX6_layTired_7 (by decide) ?_
    refine j_icmpN_ge (a := t) (b := 10) (by omega) (by omega) (tgt := 70) dX6_layTired_9 (by decide) (fun h9 => ?_) (fun h9 => ?_)
    · skip
      refine j_aload_n 0 dX6_layTired_70 rfl rfl ?_
      refine j_cVv (As := []) (rest := []) (wr := []) (ws' := mb x q (enU w (setW (bgO u o) wy)) v g pw kp (setW (bgO u o) wy)) (uX6_end l x q w v g pw kp (setW (bgO u o) wy) ) kX6_end 0 rfl rfl rfl vX6_135 dX6_layTired_71 (by decide) rfl rfl (Nat.le_of_ble_eq_true rfl) (pm_0 _) (List.append_nil _) ?_
      exact j_vret _ dX6_layTired_74 (List.Perm.refl _) ⟨rfl, _, _, sim_bgW hn5 hfw, fun t' k' h1 h2 => (hc2 (13 * t' + k') (by omega)).trans (bed_i h2), rfl⟩
    · skip
      refine j_aload_n 0 dX6_layTired_12 rfl rfl ?_
      refine j_iconst (v := 0) dX6_layTired_13 (by decide) ?_
      refine j_cVv (As := [.int 0]) (rest := []) (wr := []) (ws' := mb x q (ldU 0 w (setW (bgO u o) wy).2.2.1) v g pw kp (setW (bgO u o) wy)) (uX6_load l x q w v g pw kp (setW (bgO u o) wy) 0 (by omega)) kX6_load 0 rfl rfl rfl vX6_103 dX6_layTired_14 (by decide) rfl rfl (Nat.le_of_ble_eq_true rfl) (pm_0 _) (List.append_nil _) ?_
      refine j_aload_n 0 dX6_layTired_17 rfl rfl ?_
      refine j_get (v := .ref (q 2)) 0 dX6_layTired_18 fX6_13 rfl rfl ?_
      refine j_iload_n 1 dX6_layTired_21 rfl rfl ?_
      refine j_iload_n 2 dX6_layTired_22 rfl rfl ?_
      refine j_iastN (i := j) (f := (ldU 0 w (setW (bgO u o) wy).2.2.1).2.1) (ws' := mb x q ((ldU 0 w (setW (bgO u o) wy).2.2.1).1, upd ((ldU 0 w (setW (bgO u o) wy).2.2.1).2.1) j (nI t), (ldU 0 w (setW (bgO u o) wy).2.2.1).2.2.1, (ldU 0 w (setW (bgO u o) wy).2.2.1).2.2.2.1, nN (ldU 0 w (setW (bgO u o) wy).2.2.1), nD (ldU 0 w (setW (bgO u o) wy).2.2.1), nH (ldU 0 w (setW (bgO u o) wy).2.2.1)) v g pw kp (setW (bgO u o) wy)) 2 dX6_layTired_23 rfl (by omega) (by decide) rfl ?_
      refine j_aload_n 0 dX6_layTired_24 rfl rfl ?_
      refine j_get (v := .ref (q 3)) 0 dX6_layTired_25 fX6_16 rfl rfl ?_
      refine j_iload_n 1 dX6_layTired_28 rfl rfl ?_
      refine j_iconst (v := 0) dX6_layTired_29 (by decide) ?_
      refine j_zastB (i := j) (f := (ldU 0 w (setW (bgO u o) wy).2.2.1).2.2.1) (ws' := mb x q ((ldU 0 w (setW (bgO u o) wy).2.2.1).1, upd ((ldU 0 w (setW (bgO u o) wy).2.2.1).2.1) j (nI t), bup ((ldU 0 w (setW (bgO u o) wy).2.2.1).2.2.1) j false, (ldU 0 w (setW (bgO u o) wy).2.2.1).2.2.2.1, nN (ldU 0 w (setW (bgO u o) wy).2.2.1), nD (ldU 0 w (setW (bgO u o) wy).2.2.1), nH (ldU 0 w (setW (bgO u o) wy).2.2.1)) v g pw kp (setW (bgO u o) wy)) 3 false dX6_layTired_30 rfl (by omega) (by decide) rfl ?_
      refine j_iconst (v := nI 0) dX6_layTired_31 (by decide) ?_
      refine j_istore_n (lv' := [(3, .int (nI 0)), (0, .ref (q 0)), (1, .int (nI j)), (2, .int (nI t))]) dX6_layTired_32 rfl (by decide) rfl ?_
      refine j_lv [1, 2, 3, 0] (lv' := [(0, .ref (q 0)), (1, .int (nI j)), (2, .int (nI t)), (3, .int (nI 0))]) rfl ?_
      have hkW := okN_l0 (o := o) hk hfw (setW_sv (bgO u o) wy)
      refine j_ws (ws' := mb x q (hrs 0 (wak (ldU 0 w (setW (bgO u o) wy).2.2.1) j (nI t))) v g pw kp (setW (bgO u o) wy)) rfl ?_
      refine lp_ltI l x q u v g pw kp o hk j hj t (by omega) (ldU 0 w (setW (bgO u o) wy).2.2.1) hkW (frm.ld hfw 0 _) (fun k => bed_l0 (o := o) hn5 hfw (setW_sv (bgO u o) wy) j t k) (fun w wy hfw hwy => ?_) 14 0 wy (by omega) (fun i hi => hc2 i (by omega)) (by omega)
      refine j_iinc (v := nI (t + 1)) (lv' := [(2, .int (nI (t + 1))), (0, .ref (q 0)), (1, .int (nI j))]) 2 dX6_layTired_64 rfl (nI_1 t) (by decide) rfl ?_
      refine j_goto (tgt := 6) dX6_layTired_67 (by decide) ?_
      refine j_lv [1, 2, 0] (lv' := [(0, .ref (q 0)), (1, .int (nI j)), (2, .int (nI (t + 1)))]) rfl ?_
      exact ih (t + 1) w wy (by omega) hfw (fun i hi => hwy i (by omega)) (by omega)
set_option maxHeartbeats 4000000 in
set_option maxRecDepth 100000 in
theorem tX6_layTired (l : Launch) (x : Cx) (q : Nat → Nat) (u : NS) (v : SS) (g : PG) (pw : Bool × Nat) (kp : KS) (o : OS) (hk : okN u) (j : Nat) (hj : j < nN u) : MC l x 2 0 0 yX6_layTired cX6_layTired 4 none [.ref (q 0), .int (nI j)] (mb x q u v g pw kp o) (fun v9 ws => v9 = none ∧ ∃ (u' : NS) (o' : OS), sim u o u' o' ∧ (∀ t k, t < 10 → k < 13 → o'.2.2.2.2.1 (13 * t + k) = bed u j t k) ∧ ws = mb x q u' v g pw kp o') := by
  refine MC.of (by decide) (Nat.le_of_ble_eq_true rfl) (fun v ws h => Or.inl ⟨rfl, h.1⟩) (fun M => ?_)
  show J M l x cX6_layTired 4 yX6_layTired 2 (fun v9 ws => v9 = none ∧ ∃ (u' : NS) (o' : OS), sim u o u' o' ∧ (∀ t k, t < 10 → k < 13 → o'.2.2.2.2.1 (13 * t + k) = bed u j t k) ∧ ws = mb x q u' v g pw kp o') 0 0 0 [(0, .ref (q 0)), (1, .int (nI j))] [] (mb x q u v g pw kp o)
  have hn5 : nN u ≤ 5 := hk.1
  refine j_aload_n 0 dX6_layTired_0 rfl rfl ?_
  refine j_cVv (As := []) (rest := []) (wr := []) (ws' := mb x q u v g pw kp (bgO u o)) (uX6_begin l x q u v g pw kp o ) kX6_begin 0 rfl rfl rfl vX6_132 dX6_layTired_1 (by decide) rfl rfl (Nat.le_of_ble_eq_true rfl) (pm_0 _) (List.append_nil _) ?_
  refine j_iconst (v := nI 0) dX6_layTired_4 (by decide) ?_
  refine j_istore_n (lv' := [(2, .int (nI 0)), (0, .ref (q 0)), (1, .int (nI j))]) dX6_layTired_5 rfl (by decide) rfl ?_
  refine j_lv [1, 2, 0] (lv' := [(0, .ref (q 0)), (1, .int (nI j)), (2, .int (nI 0))]) rfl ?_
  refine j_ws (ws' := mb x q u v g pw kp (setW (bgO u o) (bgO u o).2.2.2.2.1)) rfl ?_
  exact lp_ltO l x q u v g pw kp o hk j hj 11 0 u _ (by omega) (frm.rf u) (fun i hi => by omega) (by omega)
set_option maxHeartbeats 4000000 in
set_option maxRecDepth 100000 in
theorem lp_fiI {M : Mx} (l : Launch) (x : Cx) (q : Nat → Nat) (u : NS) (v : SS) (g : PG) (pw : Bool × Nat) (kp : KS) (o : OS) (hk : okN u) (hv : vok v) (bits : Int32) (t : Nat) (ht : t < 10) {k0 n0 : Nat} (hK : J M l x cX6_fitting 5 yX6_fitting 0 (eI (bitsW o.2.2.2.2.1 v) (mb x q u v g pw kp o)) k0 n0 67 [(0, .ref (q 0)), (1, .int bits), (2, .int (nI t)), (3, .int (bI (sFit (fun k => o.2.2.2.2.1 (13 * t + k)) v v.2.2)))] [] (mb x q u v g pw kp o)) : ∀ (m : Nat) (k : Nat), k ≤ v.2.2 → v.2.2 - k < m → J M l x cX6_fitting 5 yX6_fitting 0 (eI (bitsW o.2.2.2.2.1 v) (mb x q u v g pw kp o)) k0 n0 15 [(0, .ref (q 0)), (1, .int bits), (2, .int (nI t)), (3, .int (bI (sFit (fun k => o.2.2.2.2.1 (13 * t + k)) v k))), (4, .int (nI k))] [] (mb x q u v g pw kp o) := by
  intro m; induction m with
  | zero => intro k hc0 hm; exact absurd hm (Nat.not_lt_zero _)
  | succ m ih =>
    intro k hc0 hm
    have hn5 : nN u ≤ 5 := hk.1
    have hv6 := hv.1
    refine j_iload 4 dX6_fitting_15 rfl ?_
    refine j_aload_n 0 dX6_fitting_17 rfl rfl ?_
    refine j_get (v := .int (nI v.2.2)) 0 dX6_fitting_18 fX6_89 rfl rfl ?_
    refine j_icmpN_ge (a := k) (b := v.2.2) (by omega) (by omega) (tgt := 67) dX6_fitting_21 (by decide) (fun h21 => ?_) (fun h21 => ?_)
    · skip
      refine j_lv [0, 1, 2, 3] (lv' := [(0, .ref (q 0)), (1, .int bits), (2, .int (nI t)), (3, .int (bI (sFit (fun k => o.2.2.2.2.1 (13 * t + k)) v k)))]) rfl ?_
      rw [show k = v.2.2 by omega]
      exact hK
    · skip
      obtain ⟨k9, hk9, e9⟩ := hv.2 k h21
      have e8 : v.1 k = nI k9 := e9
      refine j_iload_n 3 dX6_fitting_24 rfl rfl ?_
      refine j_ifb_eq (b := sFit (fun k => o.2.2.2.2.1 (13 * t + k)) v k) (tgt := 59) dX6_fitting_25 (by decide) (fun h25 => ?_) (fun h25 => ?_)
      · skip
        refine j_iconst (v := bI false) dX6_fitting_59 (by decide) ?_
        refine j_istore_n (lv' := [(3, .int (bI false)), (0, .ref (q 0)), (1, .int bits), (2, .int (nI t)), (4, .int (nI k))]) dX6_fitting_60 rfl (by decide) rfl ?_
        refine j_iinc (v := nI (k + 1)) (lv' := [(4, .int (nI (k + 1))), (3, .int (bI false)), (0, .ref (q 0)), (1, .int bits), (2, .int (nI t))]) 4 dX6_fitting_61 rfl (nI_1 k) (by decide) rfl ?_
        refine j_goto (tgt := 15) dX6_fitting_64 (by decide) ?_
        refine j_lv [2, 3, 4, 1, 0] (lv' := [(0, .ref (q 0)), (1, .int bits), (2, .int (nI t)), (3, .int (bI false)), (4, .int (nI (k + 1)))]) rfl ?_
        refine j_lve (lv' := [(0, .ref (q 0)), (1, .int bits), (2, .int (nI t)), (3, .int (bI (sFit (fun k => o.2.2.2.2.1 (13 * t + k)) v (k + 1)))), (4, .int (nI (k + 1)))]) (by rw [show sFit (fun k => o.2.2.2.2.1 (13 * t + k)) v (k + 1) = false from by first | (simp [sFit, h25]; done) | (rw [sFit, h25, e8, nI_clamp (by omega), decide_eq_true h52]; rfl) | (rw [sFit, h25, e8, nI_clamp (by omega), decide_eq_false h52]; rfl)]) ?_
        exact ih (k + 1) (by omega) (by omega)
      · skip
        refine j_aload_n 0 dX6_fitting_28 rfl rfl ?_
        refine j_get (v := .ref (q 10)) 0 dX6_fitting_29 fX6_39 rfl rfl ?_
        refine j_bipush (v := 13) dX6_fitting_32 (by decide) ?_
        refine j_iload_n 2 dX6_fitting_34 rfl rfl ?_
        refine j_imul dX6_fitting_35 ?_
        refine j_topi (b := nI (13 * t)) (pk_mul 13 t) ?_
        refine j_aload_n 0 dX6_fitting_36 rfl rfl ?_
        refine j_get (v := .ref (q 5)) 0 dX6_fitting_37 fX6_23 rfl rfl ?_
        refine j_iload 4 dX6_fitting_40 rfl ?_
        refine j_ialdN (i := k) (f := v.1) 5 dX6_fitting_42 rfl (by omega) (by decide) ?_
        refine j_topi (b := nI k9) e8 ?_
        refine j_iadd dX6_fitting_43 ?_
        refine j_topi (b := nI (13 * t + k9)) (nI_add _ _) ?_
        refine j_ialdN (i := 13 * t + k9) (f := o.2.2.2.2.1) 10 dX6_fitting_44 rfl (by omega) (by decide) ?_
        refine j_aload_n 0 dX6_fitting_45 rfl rfl ?_
        refine j_get (v := .ref (q 6)) 0 dX6_fitting_46 fX6_26 rfl rfl ?_
        refine j_iload 4 dX6_fitting_49 rfl ?_
        refine j_ialdN (i := k) (f := v.2.1) 6 dX6_fitting_51 rfl (by omega) (by decide) ?_
        refine j_icmp_ne (tgt := 59) dX6_fitting_52 (by decide) (fun h52 => ?_) (fun h52 => ?_)
        · skip
          refine j_iconst (v := bI false) dX6_fitting_59 (by decide) ?_
          refine j_istore_n (lv' := [(3, .int (bI false)), (0, .ref (q 0)), (1, .int bits), (2, .int (nI t)), (4, .int (nI k))]) dX6_fitting_60 rfl (by decide) rfl ?_
          refine j_iinc (v := nI (k + 1)) (lv' := [(4, .int (nI (k + 1))), (3, .int (bI false)), (0, .ref (q 0)), (1, .int bits), (2, .int (nI t))]) 4 dX6_fitting_61 rfl (nI_1 k) (by decide) rfl ?_
          refine j_goto (tgt := 15) dX6_fitting_64 (by decide) ?_
          refine j_lv [2, 3, 4, 1, 0] (lv' := [(0, .ref (q 0)), (1, .int bits), (2, .int (nI t)), (3, .int (bI false)), (4, .int (nI (k + 1)))]) rfl ?_
          refine j_lve (lv' := [(0, .ref (q 0)), (1, .int bits), (2, .int (nI t)), (3, .int (bI (sFit (fun k => o.2.2.2.2.1 (13 * t + k)) v (k + 1)))), (4, .int (nI (k + 1)))]) (by rw [show sFit (fun k => o.2.2.2.2.1 (13 * t + k)) v (k + 1) = false from by first | (simp [sFit, h25]; done) | (rw [sFit, h25, e8, nI_clamp (by omega), decide_eq_true h52]; rfl) | (rw [sFit, h25, e8, nI_clamp (by omega), decide_eq_false h52]; rfl)]) ?_
          exact ih (k + 1) (by omega) (by omega)
        · skip
          refine j_iconst (v := bI true) dX6_fitting_55 (by decide) ?_
          refine j_goto (tgt := 60) dX6_fitting_56 (by decide) ?_
          refine j_istore_n (lv' := [(3, .int (bI true)), (0, .ref (q 0)), (1, .int bits), (2, .int (nI t)), (4, .int (nI k))]) dX6_fitting_60 rfl (by decide) rfl ?_
          refine j_iinc (v := nI (k + 1)) (lv' := [(4, .int (nI (k + 1))), (3, .int (bI true)), (0, .ref (q 0)), (1, .int bits), (2, .int (nI t))]) 4 dX6_fitting_61 rfl (nI_1 k) (by decide) rfl ?_
          refine j_goto (tgt := 15) dX6_fitting_64 (by decide) ?_
          refine j_lv [2, 3, 4, 1, 0] (lv' := [(0, .ref (q 0)), (1, .int bits), (2, .int (nI t)), (3, .int (bI true)), (4, .int (nI (k + 1)))]) rfl ?_
          refine j_lve (lv' := [(0, .ref (q 0)), (1, .int bits), (2, .int (nI t)), (3, .int (bI (sFit (fun k => o.2.2.2.2.1 (13 * t + k)) v (k + 1)))), (4, .int (nI (k + 1)))]) (by rw [show sFit (fun k => o.2.2.2.2.1 (13 * t + k)) v (k + 1) = true from by first | (simp [sFit, h25]; done) | (rw [sFit, h25, e8, nI_clamp (by omega), decide_eq_true h52]; rfl) | (rw [sFit, h25, e8, nI_clamp (by omega), decide_eq_false h52]; rfl)]) ?_
          exact ih (k + 1) (by omega) (by omega)
set_option maxHeartbeats 4000000 in
set_option maxRecDepth 100000 in
theorem lp_fiO {M : Mx} (l : Launch) (x : Cx) (q : Nat → Nat) (u : NS) (v : SS) (g : PG) (pw : Bool × Nat) (kp : KS) (o : OS) (hk : okN u) (hv : vok v) {k0 n0 : Nat}  : ∀ (m : Nat) (t : Nat), t ≤ 10 → 10 - t < m → J M l x cX6_fitting 5 yX6_fitting 0 (eI (bitsW o.2.2.2.2.1 v) (mb x q u v g pw kp o)) k0 n0 4 [(0, .ref (q 0)), (1, .int (btF (fun t => sFit (fun k => o.2.2.2.2.1 (13 * t + k)) v v.2.2) t)), (2, .int (nI t))] [] (mb x q u v g pw kp o) := by
  intro m; induction m with
  | zero => intro t hc0 hm; exact absurd hm (Nat.not_lt_zero _)
  | succ m ih =>
    intro t hc0 hm
    have hn5 : nN u ≤ 5 := hk.1
    have hv6 := hv.1
    refine j_iload_n 2 dX6_fitting_4 rfl rfl ?_
    refine j_bipush (v := 10) dX6_fitting_5 (by decide) ?_
    refine j_icmpN_ge (a := t) (b := 10) (by omega) (by omega) (tgt := 87) dX6_fitting_7 (by decide) (fun h7 => ?_) (fun h7 => ?_)
    · skip
      refine j_iload_n 1 dX6_fitting_87 rfl rfl ?_
      exact j_iret _ dX6_fitting_88 (List.Perm.refl _) ⟨by rw [show t = 10 by omega]; rfl, by rfl⟩
    · skip
      refine j_iconst (v := bI true) dX6_fitting_10 (by decide) ?_
      refine j_istore_n (lv' := [(3, .int (bI true)), (0, .ref (q 0)), (1, .int (btF (fun t => sFit (fun k => o.2.2.2.2.1 (13 * t + k)) v v.2.2) t)), (2, .int (nI t))]) dX6_fitting_11 rfl (by decide) rfl ?_
      refine j_iconst (v := nI 0) dX6_fitting_12 (by decide) ?_
      refine j_istore (lv' := [(4, .int (nI 0)), (3, .int (bI true)), (0, .ref (q 0)), (1, .int (btF (fun t => sFit (fun k => o.2.2.2.2.1 (13 * t + k)) v v.2.2) t)), (2, .int (nI t))]) dX6_fitting_13 (by decide) rfl ?_
      refine j_lv [2, 3, 4, 1, 0] (lv' := [(0, .ref (q 0)), (1, .int (btF (fun t => sFit (fun k => o.2.2.2.2.1 (13 * t + k)) v v.2.2) t)), (2, .int (nI t)), (3, .int (bI true)), (4, .int (nI 0))]) rfl ?_
      refine lp_fiI l x q u v g pw kp o hk hv (btF (fun t => sFit (fun k => o.2.2.2.2.1 (13 * t + k)) v v.2.2) t) t (by omega) ?_ 7 0 (by omega) (by omega)
      refine j_iload_n 1 dX6_fitting_67 rfl rfl ?_
      refine j_iload_n 3 dX6_fitting_68 rfl rfl ?_
      refine j_ifb_eq (b := sFit (fun k => o.2.2.2.2.1 (13 * t + k)) v v.2.2) (tgt := 78) dX6_fitting_69 (by decide) (fun h69 => ?_) (fun h69 => ?_)
      · skip
        refine j_iconst (v := 0) dX6_fitting_78 (by decide) ?_
        refine j_ior dX6_fitting_79 ?_
        refine j_istore_n (lv' := [(1, .int ((btF (fun t => sFit (fun k => o.2.2.2.2.1 (13 * t + k)) v v.2.2) t) ||| 0)), (0, .ref (q 0)), (2, .int (nI t)), (3, .int (bI (sFit (fun k => o.2.2.2.2.1 (13 * t + k)) v v.2.2)))]) dX6_fitting_80 rfl (by decide) rfl ?_
        refine j_iinc (v := nI (t + 1)) (lv' := [(2, .int (nI (t + 1))), (1, .int ((btF (fun t => sFit (fun k => o.2.2.2.2.1 (13 * t + k)) v v.2.2) t) ||| 0)), (0, .ref (q 0)), (3, .int (bI (sFit (fun k => o.2.2.2.2.1 (13 * t + k)) v v.2.2)))]) 2 dX6_fitting_81 rfl (nI_1 t) (by decide) rfl ?_
        refine j_goto (tgt := 4) dX6_fitting_84 (by decide) ?_
        refine j_lv [2, 1, 0] (lv' := [(0, .ref (q 0)), (1, .int ((btF (fun t => sFit (fun k => o.2.2.2.2.1 (13 * t + k)) v v.2.2) t) ||| 0)), (2, .int (nI (t + 1)))]) rfl ?_
        refine j_lve (lv' := [(0, .ref (q 0)), (1, .int (btF (fun t => sFit (fun k => o.2.2.2.2.1 (13 * t + k)) v v.2.2) (t + 1))), (2, .int (nI (t + 1)))]) (by first | (rw [btF, if_pos h69]; done) | (rw [btF, if_neg (by rw [h69]; decide), Int32.or_zero]; done)) ?_
        exact ih (t + 1) (by omega) (by omega)
      · skip
        refine j_iconst (v := 1) dX6_fitting_72 (by decide) ?_
        refine j_iload_n 2 dX6_fitting_73 rfl rfl ?_
        refine j_ishl dX6_fitting_74 ?_
        refine j_goto (tgt := 79) dX6_fitting_75 (by decide) ?_
        refine j_ior dX6_fitting_79 ?_
        refine j_istore_n (lv' := [(1, .int ((btF (fun t => sFit (fun k => o.2.2.2.2.1 (13 * t + k)) v v.2.2) t) ||| (1 <<< ((nI t) &&& 31)))), (0, .ref (q 0)), (2, .int (nI t)), (3, .int (bI (sFit (fun k => o.2.2.2.2.1 (13 * t + k)) v v.2.2)))]) dX6_fitting_80 rfl (by decide) rfl ?_
        refine j_iinc (v := nI (t + 1)) (lv' := [(2, .int (nI (t + 1))), (1, .int ((btF (fun t => sFit (fun k => o.2.2.2.2.1 (13 * t + k)) v v.2.2) t) ||| (1 <<< ((nI t) &&& 31)))), (0, .ref (q 0)), (3, .int (bI (sFit (fun k => o.2.2.2.2.1 (13 * t + k)) v v.2.2)))]) 2 dX6_fitting_81 rfl (nI_1 t) (by decide) rfl ?_
        refine j_goto (tgt := 4) dX6_fitting_84 (by decide) ?_
        refine j_lv [2, 1, 0] (lv' := [(0, .ref (q 0)), (1, .int ((btF (fun t => sFit (fun k => o.2.2.2.2.1 (13 * t + k)) v v.2.2) t) ||| (1 <<< ((nI t) &&& 31)))), (2, .int (nI (t + 1)))]) rfl ?_
        refine j_lve (lv' := [(0, .ref (q 0)), (1, .int (btF (fun t => sFit (fun k => o.2.2.2.2.1 (13 * t + k)) v v.2.2) (t + 1))), (2, .int (nI (t + 1)))]) (by first | (rw [btF, if_pos h69]; done) | (rw [btF, if_neg (by rw [h69]; decide), Int32.or_zero]; done)) ?_
        exact ih (t + 1) (by omega) (by omega)
set_option maxHeartbeats 4000000 in
set_option maxRecDepth 100000 in
theorem tX6_fitting (l : Launch) (x : Cx) (q : Nat → Nat) (u : NS) (v : SS) (g : PG) (pw : Bool × Nat) (kp : KS) (o : OS) (hk : okN u) (hv : vok v) : MC l x 0 0 0 yX6_fitting cX6_fitting 5 (some .int) [.ref (q 0)] (mb x q u v g pw kp o) (eI (bitsW o.2.2.2.2.1 v) (mb x q u v g pw kp o)) := by
  refine MC.of (by decide) (Nat.le_of_ble_eq_true rfl) eI_fit (fun M => ?_)
  show J M l x cX6_fitting 5 yX6_fitting 0 (eI (bitsW o.2.2.2.2.1 v) (mb x q u v g pw kp o)) 0 0 0 [(0, .ref (q 0))] [] (mb x q u v g pw kp o)
  have hn5 : nN u ≤ 5 := hk.1
  refine j_iconst (v := 0) dX6_fitting_0 (by decide) ?_
  refine j_istore_n (lv' := [(1, .int 0), (0, .ref (q 0))]) dX6_fitting_1 rfl (by decide) rfl ?_
  refine j_iconst (v := nI 0) dX6_fitting_2 (by decide) ?_
  refine j_istore_n (lv' := [(2, .int (nI 0)), (1, .int 0), (0, .ref (q 0))]) dX6_fitting_3 rfl (by decide) rfl ?_
  refine j_lv [2, 1, 0] (lv' := [(0, .ref (q 0)), (1, .int 0), (2, .int (nI 0))]) rfl ?_
  exact lp_fiO l x q u v g pw kp o hk hv 11 0 (by omega) (by omega)
set_option maxHeartbeats 4000000 in
set_option maxRecDepth 100000 in
theorem tX6_howTired (l : Launch) (x : Cx) (q : Nat → Nat) (u : NS) (v : SS) (g : PG) (pw : Bool × Nat) (kp : KS) (o : OS) (hk : okN u) (hv : vok v) (j : Nat) (hj : j < nN u) : MC l x 3 0 0 yX6_howTired cX6_howTired 2 (some .int) [.ref (q 0), .int (nI j)] (mb x q u v g pw kp o) (pM x q u v g pw kp o (bitsU u v j)) := by
  refine MC.of (by decide) (Nat.le_of_ble_eq_true rfl) eXI_fit (fun M => ?_)
  show J M l x cX6_howTired 2 yX6_howTired 3 (pM x q u v g pw kp o (bitsU u v j)) 0 0 0 [(0, .ref (q 0)), (1, .int (nI j))] [] (mb x q u v g pw kp o)
  have hn5 : nN u ≤ 5 := hk.1
  refine j_aload_n 0 dX6_howTired_0 rfl rfl ?_
  refine j_iload_n 1 dX6_howTired_1 rfl rfl ?_
  refine j_callV (As := [.int (nI j)]) (rest := []) (wr := []) (tX6_layTired l x q u v g pw kp o hk j hj) kX6_layTired vX6_163 0 rfl rfl rfl dX6_howTired_2 (by decide) (Nat.le_of_eq (Nat.zero_add _)) (Nat.le_of_eq (Nat.zero_add _)) rfl rfl (Nat.le_of_ble_eq_true rfl) (pm_0 _) (fun v9 w9 hv9 => ?_)
  obtain ⟨rfl, u19, o19, hs19, hw19, rfl⟩ := hv9
  refine j_eq (lv' := [(0, .ref (q 0)), (1, .int (nI j))]) (st' := []) (ws' := mb x q u19 v g pw kp o19) rfl rfl (List.append_nil _) ?_
  have hku19 : okN u19 := okN_eq hs19.1.symm hk
  refine j_aload_n 0 dX6_howTired_5 rfl rfl ?_
  refine j_cVi (As := []) (rest := []) (wr := []) (ws' := mb x q u19 v g pw kp o19) (tX6_fitting l x q u19 v g pw kp o19 hku19 hv) kX6_fitting 0 rfl rfl rfl vX6_166 dX6_howTired_6 (by decide) rfl rfl (Nat.le_of_ble_eq_true rfl) (pm_0 _) (List.append_nil _) ?_
  exact j_iret _ dX6_howTired_9 (List.Perm.refl _) ⟨by rw [bitsW_U hv hw19], u19, o19, hs19, rfl⟩
set_option maxHeartbeats 4000000 in
set_option maxRecDepth 100000 in
theorem lp_wbI {M : Mx} (l : Launch) (x : Cx) (q : Nat → Nat) (u : NS) (v : SS) (g : PG) (pw : Bool × Nat) (kp : KS) (o : OS) (hk : okN u) (bits : Int32) (hr : Nat) (hhr : hr < 13) (m0 c : Nat) {k0 n0 : Nat} (hK : J M l x cX6_worstBehind 7 yX6_worstBehind 1 (eI (nI (worB bits (fun t => o.2.2.2.2.1 (13 * t + hr)) (nN u + 1))) (mb x q u v g pw kp o)) k0 n0 69 [(0, .ref (q 0)), (1, .int bits), (2, .int (nI hr)), (3, .int (nI m0)), (4, .int (oI (oc c))), (5, .int (nI (lefB bits (fun t => o.2.2.2.2.1 (13 * t + hr)) (oI (oc c)) 10)))] [] (mb x q u v g pw kp o)) : ∀ (m : Nat) (t : Nat), t ≤ 10 → 10 - t < m → J M l x cX6_worstBehind 7 yX6_worstBehind 1 (eI (nI (worB bits (fun t => o.2.2.2.2.1 (13 * t + hr)) (nN u + 1))) (mb x q u v g pw kp o)) k0 n0 20 [(0, .ref (q 0)), (1, .int bits), (2, .int (nI hr)), (3, .int (nI m0)), (4, .int (oI (oc c))), (5, .int (nI (lefB bits (fun t => o.2.2.2.2.1 (13 * t + hr)) (oI (oc c)) t))), (6, .int (nI t))] [] (mb x q u v g pw kp o) := by
  intro m; induction m with
  | zero => intro t hc0 hm; exact absurd hm (Nat.not_lt_zero _)
  | succ m ih =>
    intro t hc0 hm
    have hn5 : nN u ≤ 5 := hk.1
    refine j_iload 6 dX6_worstBehind_20 rfl ?_
    refine j_bipush (v := 10) dX6_worstBehind_22 (by decide) ?_
    refine j_icmpN_ge (a := t) (b := 10) (by omega) (by omega) (tgt := 69) dX6_worstBehind_24 (by decide) (fun h24 => ?_) (fun h24 => ?_)
    · skip
      refine j_lv [0, 1, 2, 3, 4, 5] (lv' := [(0, .ref (q 0)), (1, .int bits), (2, .int (nI hr)), (3, .int (nI m0)), (4, .int (oI (oc c))), (5, .int (nI (lefB bits (fun t => o.2.2.2.2.1 (13 * t + hr)) (oI (oc c)) t)))]) rfl ?_
      rw [show t = 10 by omega]
      exact hK
    · skip
      refine j_iload 5 dX6_worstBehind_27 rfl ?_
      refine j_iload_n 1 dX6_worstBehind_29 rfl rfl ?_
      refine j_iload 6 dX6_worstBehind_30 rfl ?_
      refine j_cSi (As := [.int bits, .int (nI t)]) (rest := [.int (nI (lefB bits (fun t => o.2.2.2.2.1 (13 * t + hr)) (oI (oc c)) t))]) (wr := mb x q u v g pw kp o) (ws' := mb x q u v g pw kp o) (tX6_isIn l x bits (nI t)) kX6_isIn sX6_169 dX6_worstBehind_32 (by decide) rfl rfl (Nat.le_of_ble_eq_true rfl) (List.Perm.refl _) rfl ?_
      refine j_ifb_eq (b := decide ((bits >>> ((nI t) &&& 31)) &&& 1 = 1)) (tgt := 59) dX6_worstBehind_35 (by decide) (fun h35 => ?_) (fun h35 => ?_)
      · skip
        refine j_iconst (v := nI 0) dX6_worstBehind_59 (by decide) ?_
        refine j_iadd dX6_worstBehind_60 ?_
        refine j_topi (b := nI (lefB bits (fun t => o.2.2.2.2.1 (13 * t + hr)) (oI (oc c)) t + 0)) (nI_add _ _) ?_
        refine j_istore (lv' := [(5, .int (nI (lefB bits (fun t => o.2.2.2.2.1 (13 * t + hr)) (oI (oc c)) t + 0))), (0, .ref (q 0)), (1, .int bits), (2, .int (nI hr)), (3, .int (nI m0)), (4, .int (oI (oc c))), (6, .int (nI t))]) dX6_worstBehind_61 (by decide) rfl ?_
        refine j_iinc (v := nI (t + 1)) (lv' := [(6, .int (nI (t + 1))), (5, .int (nI (lefB bits (fun t => o.2.2.2.2.1 (13 * t + hr)) (oI (oc c)) t + 0))), (0, .ref (q 0)), (1, .int bits), (2, .int (nI hr)), (3, .int (nI m0)), (4, .int (oI (oc c)))]) 6 dX6_worstBehind_63 rfl (nI_1 t) (by decide) rfl ?_
        refine j_goto (tgt := 20) dX6_worstBehind_66 (by decide) ?_
        refine j_lv [2, 3, 4, 5, 6, 1, 0] (lv' := [(0, .ref (q 0)), (1, .int bits), (2, .int (nI hr)), (3, .int (nI m0)), (4, .int (oI (oc c))), (5, .int (nI (lefB bits (fun t => o.2.2.2.2.1 (13 * t + hr)) (oI (oc c)) t + 0))), (6, .int (nI (t + 1)))]) rfl ?_
        refine j_lve (lv' := [(0, .ref (q 0)), (1, .int bits), (2, .int (nI hr)), (3, .int (nI m0)), (4, .int (oI (oc c))), (5, .int (nI (lefB bits (fun t => o.2.2.2.2.1 (13 * t + hr)) (oI (oc c)) (t + 1)))), (6, .int (nI (t + 1)))]) (by first | (rw [lefB, if_pos ⟨of_decide_eq_true h35, h52⟩]; done) | (rw [lefB, if_neg (fun z => h52 z.2)]; done) | (rw [lefB, if_neg (fun z => of_decide_eq_false h35 z.1)]; done)) ?_
        exact ih (t + 1) (by omega) (by omega)
      · skip
        refine j_aload_n 0 dX6_worstBehind_38 rfl rfl ?_
        refine j_get (v := .ref (q 10)) 0 dX6_worstBehind_39 fX6_39 rfl rfl ?_
        refine j_bipush (v := 13) dX6_worstBehind_42 (by decide) ?_
        refine j_iload 6 dX6_worstBehind_44 rfl ?_
        refine j_imul dX6_worstBehind_46 ?_
        refine j_topi (b := nI (13 * t)) (pk_mul 13 t) ?_
        refine j_iload_n 2 dX6_worstBehind_47 rfl rfl ?_
        refine j_iadd dX6_worstBehind_48 ?_
        refine j_topi (b := nI (13 * t + hr)) (nI_add _ _) ?_
        refine j_ialdN (i := 13 * t + hr) (f := o.2.2.2.2.1) 10 dX6_worstBehind_49 rfl (by omega) (by decide) ?_
        refine j_iload 4 dX6_worstBehind_50 rfl ?_
        refine j_icmp_ne (tgt := 59) dX6_worstBehind_52 (by decide) (fun h52 => ?_) (fun h52 => ?_)
        · skip
          refine j_iconst (v := nI 0) dX6_worstBehind_59 (by decide) ?_
          refine j_iadd dX6_worstBehind_60 ?_
          refine j_topi (b := nI (lefB bits (fun t => o.2.2.2.2.1 (13 * t + hr)) (oI (oc c)) t + 0)) (nI_add _ _) ?_
          refine j_istore (lv' := [(5, .int (nI (lefB bits (fun t => o.2.2.2.2.1 (13 * t + hr)) (oI (oc c)) t + 0))), (0, .ref (q 0)), (1, .int bits), (2, .int (nI hr)), (3, .int (nI m0)), (4, .int (oI (oc c))), (6, .int (nI t))]) dX6_worstBehind_61 (by decide) rfl ?_
          refine j_iinc (v := nI (t + 1)) (lv' := [(6, .int (nI (t + 1))), (5, .int (nI (lefB bits (fun t => o.2.2.2.2.1 (13 * t + hr)) (oI (oc c)) t + 0))), (0, .ref (q 0)), (1, .int bits), (2, .int (nI hr)), (3, .int (nI m0)), (4, .int (oI (oc c)))]) 6 dX6_worstBehind_63 rfl (nI_1 t) (by decide) rfl ?_
          refine j_goto (tgt := 20) dX6_worstBehind_66 (by decide) ?_
          refine j_lv [2, 3, 4, 5, 6, 1, 0] (lv' := [(0, .ref (q 0)), (1, .int bits), (2, .int (nI hr)), (3, .int (nI m0)), (4, .int (oI (oc c))), (5, .int (nI (lefB bits (fun t => o.2.2.2.2.1 (13 * t + hr)) (oI (oc c)) t + 0))), (6, .int (nI (t + 1)))]) rfl ?_
          refine j_lve (lv' := [(0, .ref (q 0)), (1, .int bits), (2, .int (nI hr)), (3, .int (nI m0)), (4, .int (oI (oc c))), (5, .int (nI (lefB bits (fun t => o.2.2.2.2.1 (13 * t + hr)) (oI (oc c)) (t + 1)))), (6, .int (nI (t + 1)))]) (by first | (rw [lefB, if_pos ⟨of_decide_eq_true h35, h52⟩]; done) | (rw [lefB, if_neg (fun z => h52 z.2)]; done) | (rw [lefB, if_neg (fun z => of_decide_eq_false h35 z.1)]; done)) ?_
          exact ih (t + 1) (by omega) (by omega)
        · skip
          refine j_iconst (v := nI 1) dX6_worstBehind_55 (by decide) ?_
          refine j_goto (tgt := 60) dX6_worstBehind_56 (by decide) ?_
          refine j_iadd dX6_worstBehind_60 ?_
          refine j_topi (b := nI (lefB bits (fun t => o.2.2.2.2.1 (13 * t + hr)) (oI (oc c)) t + 1)) (nI_add _ _) ?_
          refine j_istore (lv' := [(5, .int (nI (lefB bits (fun t => o.2.2.2.2.1 (13 * t + hr)) (oI (oc c)) t + 1))), (0, .ref (q 0)), (1, .int bits), (2, .int (nI hr)), (3, .int (nI m0)), (4, .int (oI (oc c))), (6, .int (nI t))]) dX6_worstBehind_61 (by decide) rfl ?_
          refine j_iinc (v := nI (t + 1)) (lv' := [(6, .int (nI (t + 1))), (5, .int (nI (lefB bits (fun t => o.2.2.2.2.1 (13 * t + hr)) (oI (oc c)) t + 1))), (0, .ref (q 0)), (1, .int bits), (2, .int (nI hr)), (3, .int (nI m0)), (4, .int (oI (oc c)))]) 6 dX6_worstBehind_63 rfl (nI_1 t) (by decide) rfl ?_
          refine j_goto (tgt := 20) dX6_worstBehind_66 (by decide) ?_
          refine j_lv [2, 3, 4, 5, 6, 1, 0] (lv' := [(0, .ref (q 0)), (1, .int bits), (2, .int (nI hr)), (3, .int (nI m0)), (4, .int (oI (oc c))), (5, .int (nI (lefB bits (fun t => o.2.2.2.2.1 (13 * t + hr)) (oI (oc c)) t + 1))), (6, .int (nI (t + 1)))]) rfl ?_
          refine j_lve (lv' := [(0, .ref (q 0)), (1, .int bits), (2, .int (nI hr)), (3, .int (nI m0)), (4, .int (oI (oc c))), (5, .int (nI (lefB bits (fun t => o.2.2.2.2.1 (13 * t + hr)) (oI (oc c)) (t + 1)))), (6, .int (nI (t + 1)))]) (by first | (rw [lefB, if_pos ⟨of_decide_eq_true h35, h52⟩]; done) | (rw [lefB, if_neg (fun z => h52 z.2)]; done) | (rw [lefB, if_neg (fun z => of_decide_eq_false h35 z.1)]; done)) ?_
          exact ih (t + 1) (by omega) (by omega)
set_option maxHeartbeats 4000000 in
set_option maxRecDepth 100000 in
theorem lp_wbO {M : Mx} (l : Launch) (x : Cx) (q : Nat → Nat) (u : NS) (v : SS) (g : PG) (pw : Bool × Nat) (kp : KS) (o : OS) (hk : okN u) (bits : Int32) (hr : Nat) (hhr : hr < 13) {k0 n0 : Nat}  : ∀ (m : Nat) (c : Nat), c ≤ nN u + 1 → nN u + 1 - c < m → J M l x cX6_worstBehind 7 yX6_worstBehind 1 (eI (nI (worB bits (fun t => o.2.2.2.2.1 (13 * t + hr)) (nN u + 1))) (mb x q u v g pw kp o)) k0 n0 5 [(0, .ref (q 0)), (1, .int bits), (2, .int (nI hr)), (3, .int (nI (worB bits (fun t => o.2.2.2.2.1 (13 * t + hr)) c))), (4, .int (oI (oc c)))] [] (mb x q u v g pw kp o) := by
  intro m; induction m with
  | zero => intro c hc0 hm; exact absurd hm (Nat.not_lt_zero _)
  | succ m ih =>
    intro c hc0 hm
    have hn5 : nN u ≤ 5 := hk.1
    have hwl := worB_le bits (fun t => o.2.2.2.2.1 (13 * t + hr)) c
    have hll := lefB_le bits (fun t => o.2.2.2.2.1 (13 * t + hr)) (oI (oc c)) 10
    refine j_iload 4 dX6_worstBehind_5 rfl ?_
    refine j_aload_n 0 dX6_worstBehind_7 rfl rfl ?_
    refine j_get (v := .int (nI (nN u))) 0 dX6_worstBehind_8 fX6_77 rfl rfl ?_
    refine j_icmp_ge (tgt := 88) dX6_worstBehind_11 (by decide) (fun h11 => ?_) (fun h11 => ?_)
    · skip
      have hge := (oc_ge (by omega) (by omega)).mp h11
      refine j_iload_n 3 dX6_worstBehind_88 rfl rfl ?_
      exact j_iret _ dX6_worstBehind_89 (List.Perm.refl _) ⟨by rw [show c = nN u + 1 by omega], by rfl⟩
    · skip
      have hge := mt (oc_ge (n := nN u) (c := c) (by omega) (by omega)).mpr h11
      refine j_iconst (v := nI 0) dX6_worstBehind_14 (by decide) ?_
      refine j_istore (lv' := [(5, .int (nI 0)), (0, .ref (q 0)), (1, .int bits), (2, .int (nI hr)), (3, .int (nI (worB bits (fun t => o.2.2.2.2.1 (13 * t + hr)) c))), (4, .int (oI (oc c)))]) dX6_worstBehind_15 (by decide) rfl ?_
      refine j_iconst (v := nI 0) dX6_worstBehind_17 (by decide) ?_
      refine j_istore (lv' := [(6, .int (nI 0)), (5, .int (nI 0)), (0, .ref (q 0)), (1, .int bits), (2, .int (nI hr)), (3, .int (nI (worB bits (fun t => o.2.2.2.2.1 (13 * t + hr)) c))), (4, .int (oI (oc c)))]) dX6_worstBehind_18 (by decide) rfl ?_
      refine j_lv [2, 3, 4, 5, 6, 1, 0] (lv' := [(0, .ref (q 0)), (1, .int bits), (2, .int (nI hr)), (3, .int (nI (worB bits (fun t => o.2.2.2.2.1 (13 * t + hr)) c))), (4, .int (oI (oc c))), (5, .int (nI 0)), (6, .int (nI 0))]) rfl ?_
      refine lp_wbI l x q u v g pw kp o hk bits hr hhr (worB bits (fun t => o.2.2.2.2.1 (13 * t + hr)) c) c ?_ 11 0 (by omega) (by omega)
      refine j_iload 5 dX6_worstBehind_69 rfl ?_
      refine j_iload_n 3 dX6_worstBehind_71 rfl rfl ?_
      refine j_icmpN_le (a := lefB bits (fun t => o.2.2.2.2.1 (13 * t + hr)) (oI (oc c)) 10) (b := worB bits (fun t => o.2.2.2.2.1 (13 * t + hr)) c) (by omega) (by omega) (tgt := 80) dX6_worstBehind_72 (by decide) (fun h72 => ?_) (fun h72 => ?_)
      · skip
        refine j_iload_n 3 dX6_worstBehind_80 rfl rfl ?_
        refine j_istore_n (lv' := [(3, .int (nI (worB bits (fun t => o.2.2.2.2.1 (13 * t + hr)) c))), (0, .ref (q 0)), (1, .int bits), (2, .int (nI hr)), (4, .int (oI (oc c))), (5, .int (nI (lefB bits (fun t => o.2.2.2.2.1 (13 * t + hr)) (oI (oc c)) 10)))]) dX6_worstBehind_81 rfl (by decide) rfl ?_
        refine j_iinc (v := oI (oc (c + 1))) (lv' := [(4, .int (oI (oc (c + 1)))), (3, .int (nI (worB bits (fun t => o.2.2.2.2.1 (13 * t + hr)) c))), (0, .ref (q 0)), (1, .int bits), (2, .int (nI hr)), (5, .int (nI (lefB bits (fun t => o.2.2.2.2.1 (13 * t + hr)) (oI (oc c)) 10)))]) 4 dX6_worstBehind_82 rfl (oc_inc c) (by decide) rfl ?_
        refine j_goto (tgt := 5) dX6_worstBehind_85 (by decide) ?_
        refine j_lv [2, 3, 4, 1, 0] (lv' := [(0, .ref (q 0)), (1, .int bits), (2, .int (nI hr)), (3, .int (nI (worB bits (fun t => o.2.2.2.2.1 (13 * t + hr)) c))), (4, .int (oI (oc (c + 1))))]) rfl ?_
        refine j_lve (lv' := [(0, .ref (q 0)), (1, .int bits), (2, .int (nI hr)), (3, .int (nI (worB bits (fun t => o.2.2.2.2.1 (13 * t + hr)) (c + 1)))), (4, .int (oI (oc (c + 1))))]) (by first | (rw [worB, Nat.max_eq_left (by omega)]; done) | (rw [worB, Nat.max_eq_right (by omega)]; done)) ?_
        exact ih (c + 1) (by omega) (by omega)
      · skip
        refine j_iload 5 dX6_worstBehind_75 rfl ?_
        refine j_goto (tgt := 81) dX6_worstBehind_77 (by decide) ?_
        refine j_istore_n (lv' := [(3, .int (nI (lefB bits (fun t => o.2.2.2.2.1 (13 * t + hr)) (oI (oc c)) 10))), (0, .ref (q 0)), (1, .int bits), (2, .int (nI hr)), (4, .int (oI (oc c))), (5, .int (nI (lefB bits (fun t => o.2.2.2.2.1 (13 * t + hr)) (oI (oc c)) 10)))]) dX6_worstBehind_81 rfl (by decide) rfl ?_
        refine j_iinc (v := oI (oc (c + 1))) (lv' := [(4, .int (oI (oc (c + 1)))), (3, .int (nI (lefB bits (fun t => o.2.2.2.2.1 (13 * t + hr)) (oI (oc c)) 10))), (0, .ref (q 0)), (1, .int bits), (2, .int (nI hr)), (5, .int (nI (lefB bits (fun t => o.2.2.2.2.1 (13 * t + hr)) (oI (oc c)) 10)))]) 4 dX6_worstBehind_82 rfl (oc_inc c) (by decide) rfl ?_
        refine j_goto (tgt := 5) dX6_worstBehind_85 (by decide) ?_
        refine j_lv [2, 3, 4, 1, 0] (lv' := [(0, .ref (q 0)), (1, .int bits), (2, .int (nI hr)), (3, .int (nI (lefB bits (fun t => o.2.2.2.2.1 (13 * t + hr)) (oI (oc c)) 10))), (4, .int (oI (oc (c + 1))))]) rfl ?_
        refine j_lve (lv' := [(0, .ref (q 0)), (1, .int bits), (2, .int (nI hr)), (3, .int (nI (worB bits (fun t => o.2.2.2.2.1 (13 * t + hr)) (c + 1)))), (4, .int (oI (oc (c + 1))))]) (by first | (rw [worB, Nat.max_eq_left (by omega)]; done) | (rw [worB, Nat.max_eq_right (by omega)]; done)) ?_
        exact ih (c + 1) (by omega) (by omega)
set_option maxHeartbeats 4000000 in
set_option maxRecDepth 100000 in
theorem tX6_worstBehind (l : Launch) (x : Cx) (q : Nat → Nat) (u : NS) (v : SS) (g : PG) (pw : Bool × Nat) (kp : KS) (o : OS) (hk : okN u) (bits : Int32) (hr : Nat) (hhr : hr < 13) : MC l x 1 0 0 yX6_worstBehind cX6_worstBehind 7 (some .int) [.ref (q 0), .int bits, .int (nI hr)] (mb x q u v g pw kp o) (eI (nI (worB bits (fun t => o.2.2.2.2.1 (13 * t + hr)) (nN u + 1))) (mb x q u v g pw kp o)) := by
  refine MC.of (by decide) (Nat.le_of_ble_eq_true rfl) eI_fit (fun M => ?_)
  show J M l x cX6_worstBehind 7 yX6_worstBehind 1 (eI (nI (worB bits (fun t => o.2.2.2.2.1 (13 * t + hr)) (nN u + 1))) (mb x q u v g pw kp o)) 0 0 0 [(0, .ref (q 0)), (1, .int bits), (2, .int (nI hr))] [] (mb x q u v g pw kp o)
  have hn5 : nN u ≤ 5 := hk.1
  refine j_iconst (v := nI 0) dX6_worstBehind_0 (by decide) ?_
  refine j_istore_n (lv' := [(3, .int (nI 0)), (0, .ref (q 0)), (1, .int bits), (2, .int (nI hr))]) dX6_worstBehind_1 rfl (by decide) rfl ?_
  refine j_iconst (v := (-1)) dX6_worstBehind_2 (by decide) ?_
  refine j_istore (lv' := [(4, .int (-1)), (3, .int (nI 0)), (0, .ref (q 0)), (1, .int bits), (2, .int (nI hr))]) dX6_worstBehind_3 (by decide) rfl ?_
  refine j_lv [2, 3, 4, 1, 0] (lv' := [(0, .ref (q 0)), (1, .int bits), (2, .int (nI hr)), (3, .int (nI 0)), (4, .int (-1))]) rfl ?_
  exact lp_wbO l x q u v g pw kp o hk bits hr hhr (nN u + 2) 0 (by omega) (by omega)
set_option maxHeartbeats 4000000 in
set_option maxRecDepth 100000 in
theorem lp_lo {M : Mx} (l : Launch) (x : Cx) (q : Nat → Nat) (u : NS) (v : SS) (g : PG) (pw : Bool × Nat) (kp : KS) (o : OS) (hk : okN u) (hv : vok v) (j : Nat) (hj : j < nN u) (hb0 : ¬ bitsU u v j = 0) (u19 : NS) (o19 : OS) (hs19 : sim u o u19 o19) (hw19 : ∀ t k, t < 10 → k < 13 → o19.2.2.2.2.1 (13 * t + k) = bed u j t k) {k0 n0 : Nat}  : ∀ (m : Nat) (k : Nat) (s1 : Int32) (s2 : Nat), k ≤ 13 → itr (lokS (bitsU u v j) (bed u j) (nN u)) (13 - k) k (s1, s2) = itr (lokS (bitsU u v j) (bed u j) (nN u)) 13 0 (-1, 268435456) → s2 ≤ 268435456 → 13 - k < m → J M l x cX6_lookOf 7 yX6_lookOf 3 (pM x q u v g pw kp o (lokB (bitsU u v j) (bed u j) (nN u))) k0 n0 19 [(0, .ref (q 0)), (1, .int (nI j)), (2, .int (bitsU u v j)), (3, .int s1), (4, .int (nI s2)), (5, .int (nI k))] [] (mb x q u19 v g pw kp o19) := by
  intro m; induction m with
  | zero => intro k s1 s2 hc0 hc1 hc2 hm; exact absurd hm (Nat.not_lt_zero _)
  | succ m ih =>
    intro k s1 s2 hc0 hc1 hc2 hm
    have hn5 : nN u ≤ 5 := hk.1
    have hku19 : okN u19 := okN_eq hs19.1.symm hk
    have hwl := worB_le (bitsU u v j) (fun t => bed u j t k) (nN u + 1)
    refine j_iload 5 dX6_lookOf_19 rfl ?_
    refine j_bipush (v := 12) dX6_lookOf_21 (by decide) ?_
    refine j_icmpN_gt (a := k) (b := 12) (by omega) (by omega) (tgt := 75) dX6_lookOf_23 (by decide) (fun h23 => ?_) (fun h23 => ?_)
    · skip
      refine j_iload_n 3 dX6_lookOf_75 rfl rfl ?_
      exact j_iret _ dX6_lookOf_76 (List.Perm.refl _) ⟨by first | (rw [lokB, if_neg hb0, ← lok_far _ _ _ 268435456 (by decide), ← hc1, itr_end (n := 13) (b := k) (by omega)]; done) | (exact absurd h27 hb0), u19, o19, hs19, rfl⟩
    · skip
      refine j_iload_n 2 dX6_lookOf_26 rfl rfl ?_
      refine j_if_eq (tgt := 75) dX6_lookOf_27 (by decide) (fun h27 => ?_) (fun h27 => ?_)
      · skip
        refine j_iload_n 3 dX6_lookOf_75 rfl rfl ?_
        exact j_iret _ dX6_lookOf_76 (List.Perm.refl _) ⟨by first | (rw [lokB, if_neg hb0, ← lok_far _ _ _ 268435456 (by decide), ← hc1, itr_end (n := 13) (b := k) (by omega)]; done) | (exact absurd h27 hb0), u19, o19, hs19, rfl⟩
      · skip
        refine j_aload_n 0 dX6_lookOf_30 rfl rfl ?_
        refine j_iload_n 2 dX6_lookOf_31 rfl rfl ?_
        refine j_iload 5 dX6_lookOf_32 rfl ?_
        refine j_cVi (As := [.int (bitsU u v j), .int (nI k)]) (rest := []) (wr := []) (ws' := mb x q u19 v g pw kp o19) (tX6_worstBehind l x q u19 v g pw kp o19 hku19 (bitsU u v j) k (by omega)) kX6_worstBehind 0 rfl rfl rfl vX6_174 dX6_lookOf_34 (by decide) rfl rfl (Nat.le_of_ble_eq_true rfl) (pm_0 _) (List.append_nil _) ?_
        refine j_topi (b := nI (worB (bitsU u v j) (fun t => bed u j t k) (nN u + 1))) (by rw [hs19.1.nE, worB_cong (fun t ht => hw19 t k ht (by omega))]) ?_
        refine j_istore (lv' := [(6, .int (nI (worB (bitsU u v j) (fun t => bed u j t k) (nN u + 1)))), (0, .ref (q 0)), (1, .int (nI j)), (2, .int (bitsU u v j)), (3, .int s1), (4, .int (nI s2)), (5, .int (nI k))]) dX6_lookOf_37 (by decide) rfl ?_
        refine j_iload 0 dX6_lookOf_39 rfl ?_
        refine j_iload 5 dX6_lookOf_41 rfl ?_
        refine j_icmpN_ge (a := worB (bitsU u v j) (fun t => bed u j t k) (nN u + 1)) (b := s2) (by omega) (by omega) (tgt := 51) dX6_lookOf_43 (by decide) (fun h43 => ?_) (fun h43 => ?_)
        · skip
          refine j_iload_n 4 dX6_lookOf_51 rfl rfl ?_
          refine j_istore_n (lv' := [(3, .int s1), (6, .int (nI (worB (bitsU u v j) (fun t => bed u j t k) (nN u + 1)))), (0, .ref (q 0)), (1, .int (nI j)), (2, .int (bitsU u v j)), (4, .int (nI s2)), (5, .int (nI k))]) dX6_lookOf_52 rfl (by decide) rfl ?_
          refine j_iload 1 dX6_lookOf_53 rfl ?_
          refine j_iload 5 dX6_lookOf_55 rfl ?_
          refine j_icmpN_ge (a := worB (bitsU u v j) (fun t => bed u j t k) (nN u + 1)) (b := s2) (by omega) (by omega) (tgt := 65) dX6_lookOf_57 (by decide) (fun h57 => ?_) (fun h57 => by omega)
          refine j_iload 5 dX6_lookOf_65 rfl ?_
          refine j_istore (lv' := [(4, .int (nI s2)), (3, .int s1), (6, .int (nI (worB (bitsU u v j) (fun t => bed u j t k) (nN u + 1)))), (0, .ref (q 0)), (1, .int (nI j)), (2, .int (bitsU u v j)), (5, .int (nI k))]) dX6_lookOf_67 (by decide) rfl ?_
          refine j_iinc (v := nI (k + 1)) (lv' := [(5, .int (nI (k + 1))), (4, .int (nI s2)), (3, .int s1), (6, .int (nI (worB (bitsU u v j) (fun t => bed u j t k) (nN u + 1)))), (0, .ref (q 0)), (1, .int (nI j)), (2, .int (bitsU u v j))]) 6 dX6_lookOf_69 rfl (nI_1 k) (by decide) rfl ?_
          refine j_goto (tgt := 19) dX6_lookOf_72 (by decide) ?_
          refine j_lv [4, 5, 6, 2, 1, 0] (lv' := [(0, .ref (q 0)), (1, .int (nI j)), (2, .int (bitsU u v j)), (3, .int s1), (4, .int (nI s2)), (5, .int (nI (k + 1)))]) rfl ?_
          exact ih (k + 1) s1 s2 (by omega) (by rw [← hc1, itr_go (n := 13) (b := k) (by omega), show lokS (bitsU u v j) (bed u j) (nN u) k (s1, s2) = (s1, s2) from if_neg (show ¬ _ < s2 by omega)]) (by omega) (by omega)
        · skip
          refine j_iload 6 dX6_lookOf_46 rfl ?_
          refine j_goto (tgt := 52) dX6_lookOf_48 (by decide) ?_
          refine j_istore_n (lv' := [(3, .int (nI k)), (6, .int (nI (worB (bitsU u v j) (fun t => bed u j t k) (nN u + 1)))), (0, .ref (q 0)), (1, .int (nI j)), (2, .int (bitsU u v j)), (4, .int (nI s2)), (5, .int (nI k))]) dX6_lookOf_52 rfl (by decide) rfl ?_
          refine j_iload 1 dX6_lookOf_53 rfl ?_
          refine j_iload 5 dX6_lookOf_55 rfl ?_
          refine j_icmpN_ge (a := worB (bitsU u v j) (fun t => bed u j t k) (nN u + 1)) (b := s2) (by omega) (by omega) (tgt := 65) dX6_lookOf_57 (by decide) (fun h57 => by omega) (fun h57 => ?_)
          refine j_iload 1 dX6_lookOf_60 rfl ?_
          refine j_goto (tgt := 67) dX6_lookOf_62 (by decide) ?_
          refine j_istore (lv' := [(4, .int (nI (worB (bitsU u v j) (fun t => bed u j t k) (nN u + 1)))), (3, .int (nI k)), (6, .int (nI (worB (bitsU u v j) (fun t => bed u j t k) (nN u + 1)))), (0, .ref (q 0)), (1, .int (nI j)), (2, .int (bitsU u v j)), (5, .int (nI k))]) dX6_lookOf_67 (by decide) rfl ?_
          refine j_iinc (v := nI (k + 1)) (lv' := [(5, .int (nI (k + 1))), (4, .int (nI (worB (bitsU u v j) (fun t => bed u j t k) (nN u + 1)))), (3, .int (nI k)), (6, .int (nI (worB (bitsU u v j) (fun t => bed u j t k) (nN u + 1)))), (0, .ref (q 0)), (1, .int (nI j)), (2, .int (bitsU u v j))]) 6 dX6_lookOf_69 rfl (nI_1 k) (by decide) rfl ?_
          refine j_goto (tgt := 19) dX6_lookOf_72 (by decide) ?_
          refine j_lv [4, 5, 6, 2, 1, 0] (lv' := [(0, .ref (q 0)), (1, .int (nI j)), (2, .int (bitsU u v j)), (3, .int (nI k)), (4, .int (nI (worB (bitsU u v j) (fun t => bed u j t k) (nN u + 1)))), (5, .int (nI (k + 1)))]) rfl ?_
          exact ih (k + 1) (nI k) (worB (bitsU u v j) (fun t => bed u j t k) (nN u + 1)) (by omega) (by rw [← hc1, itr_go (n := 13) (b := k) (by omega), show lokS (bitsU u v j) (bed u j) (nN u) k (s1, s2) = ((nI k), (worB (bitsU u v j) (fun t => bed u j t k) (nN u + 1))) from if_pos (show _ < s2 by omega)]) (by omega) (by omega)
set_option maxHeartbeats 4000000 in
set_option maxRecDepth 100000 in
theorem tX6_lookOf (l : Launch) (x : Cx) (q : Nat → Nat) (u : NS) (v : SS) (g : PG) (pw : Bool × Nat) (kp : KS) (o : OS) (hk : okN u) (hv : vok v) (j : Nat) (hj : j < nN u) : MC l x 3 0 0 yX6_lookOf cX6_lookOf 7 (some .int) [.ref (q 0), .int (nI j)] (mb x q u v g pw kp o) (pM x q u v g pw kp o (lokB (bitsU u v j) (bed u j) (nN u))) := by
  refine MC.of (by decide) (Nat.le_of_ble_eq_true rfl) eXI_fit (fun M => ?_)
  show J M l x cX6_lookOf 7 yX6_lookOf 3 (pM x q u v g pw kp o (lokB (bitsU u v j) (bed u j) (nN u))) 0 0 0 [(0, .ref (q 0)), (1, .int (nI j))] [] (mb x q u v g pw kp o)
  have hn5 : nN u ≤ 5 := hk.1
  refine j_aload_n 0 dX6_lookOf_0 rfl rfl ?_
  refine j_iload_n 1 dX6_lookOf_1 rfl rfl ?_
  refine j_callV (As := [.int (nI j)]) (rest := []) (wr := []) (tX6_layTired l x q u v g pw kp o hk j hj) kX6_layTired vX6_163 0 rfl rfl rfl dX6_lookOf_2 (by decide) (Nat.le_of_eq (Nat.zero_add _)) (Nat.le_of_eq (Nat.zero_add _)) rfl rfl (Nat.le_of_ble_eq_true rfl) (pm_0 _) (fun v9 w9 hv9 => ?_)
  obtain ⟨rfl, u19, o19, hs19, hw19, rfl⟩ := hv9
  refine j_eq (lv' := [(0, .ref (q 0)), (1, .int (nI j))]) (st' := []) (ws' := mb x q u19 v g pw kp o19) rfl rfl (List.append_nil _) ?_
  have hku19 : okN u19 := okN_eq hs19.1.symm hk
  refine j_aload_n 0 dX6_lookOf_5 rfl rfl ?_
  refine j_cVi (As := []) (rest := []) (wr := []) (ws' := mb x q u19 v g pw kp o19) (tX6_fitting l x q u19 v g pw kp o19 hku19 hv) kX6_fitting 0 rfl rfl rfl vX6_166 dX6_lookOf_6 (by decide) rfl rfl (Nat.le_of_ble_eq_true rfl) (pm_0 _) (List.append_nil _) ?_
  refine j_topi (b := bitsU u v j) (bitsW_U hv hw19) ?_
  refine j_istore_n (lv' := [(2, .int (bitsU u v j)), (0, .ref (q 0)), (1, .int (nI j))]) dX6_lookOf_9 rfl (by decide) rfl ?_
  refine j_iconst (v := (-1)) dX6_lookOf_10 (by decide) ?_
  refine j_istore_n (lv' := [(3, .int (-1)), (2, .int (bitsU u v j)), (0, .ref (q 0)), (1, .int (nI j))]) dX6_lookOf_11 rfl (by decide) rfl ?_
  refine j_ldc dX6_lookOf_12 pX6_173 ?_
  refine j_istore (lv' := [(4, .int 268435456), (3, .int (-1)), (2, .int (bitsU u v j)), (0, .ref (q 0)), (1, .int (nI j))]) dX6_lookOf_14 (by decide) rfl ?_
  refine j_iconst (v := nI 0) dX6_lookOf_16 (by decide) ?_
  refine j_istore (lv' := [(5, .int (nI 0)), (4, .int 268435456), (3, .int (-1)), (2, .int (bitsU u v j)), (0, .ref (q 0)), (1, .int (nI j))]) dX6_lookOf_17 (by decide) rfl ?_
  by_cases hb0 : bitsU u v j = 0
  · skip
    refine j_iload 0 dX6_lookOf_19 rfl ?_
    refine j_bipush (v := 12) dX6_lookOf_21 (by decide) ?_
    refine j_icmpN_gt (a := 0) (b := 12) (by omega) (by omega) (tgt := 75) dX6_lookOf_23 (by decide) (fun h23 => by omega) (fun h23 => ?_)
    refine j_iload_n 3 dX6_lookOf_26 rfl rfl ?_
    refine j_if_eq (tgt := 75) dX6_lookOf_27 (by decide) (fun h27 => ?_) (fun h27 => absurd hb0 h27)
    refine j_iload_n 2 dX6_lookOf_75 rfl rfl ?_
    exact j_iret _ dX6_lookOf_76 (List.Perm.refl _) ⟨by rw [lokB, if_pos hb0], u19, o19, hs19, rfl⟩
  · skip
    refine j_lv [4, 5, 3, 2, 1, 0] (lv' := [(0, .ref (q 0)), (1, .int (nI j)), (2, .int (bitsU u v j)), (3, .int (-1)), (4, .int 268435456), (5, .int (nI 0))]) rfl ?_
    exact lp_lo l x q u v g pw kp o hk hv j hj hb0 u19 o19 hs19 hw19 14 0 (-1) 268435456 (by omega) rfl (by omega) (by omega)
