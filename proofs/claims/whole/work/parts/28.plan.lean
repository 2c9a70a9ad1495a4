set_option maxHeartbeats 4000000 in
set_option maxRecDepth 100000 in
theorem tX1_hoursInBed (l : Launch) (x : Cx) (q : Nat → Nat) (a : Nat → Nat → Nat) (hib fh : Int32) : MC l x 0 0 0 yX1_hoursInBed cX1_hoursInBed 1 (some .int) [.ref (q 0)] (lb x q a (hib, fh)) (eI hib (lb x q a (hib, fh))) := by
  refine MC.of (by decide) (Nat.le_of_ble_eq_true rfl) eI_fit (fun M => ?_)
  show J M l x cX1_hoursInBed 1 yX1_hoursInBed 0 (eI hib (lb x q a (hib, fh))) 0 0 0 [(0, .ref (q 0))] [] (lb x q a (hib, fh))
  refine j_aload_n 0 dX1_hoursInBed_0 rfl rfl ?_
  refine j_get (v := .int hib) 0 dX1_hoursInBed_1 fX1_18 rfl rfl ?_
  exact j_iret _ dX1_hoursInBed_4 (List.Perm.refl _) ⟨by rfl, by rfl⟩
set_option maxHeartbeats 4000000 in
set_option maxRecDepth 100000 in
theorem tX1_firstHearer (l : Launch) (x : Cx) (q : Nat → Nat) (a : Nat → Nat → Nat) (hib fh : Int32) : MC l x 0 0 0 yX1_firstHearer cX1_firstHearer 1 (some .int) [.ref (q 0)] (lb x q a (hib, fh)) (eI fh (lb x q a (hib, fh))) := by
  refine MC.of (by decide) (Nat.le_of_ble_eq_true rfl) eI_fit (fun M => ?_)
  show J M l x cX1_firstHearer 1 yX1_firstHearer 0 (eI fh (lb x q a (hib, fh))) 0 0 0 [(0, .ref (q 0))] [] (lb x q a (hib, fh))
  refine j_aload_n 0 dX1_firstHearer_0 rfl rfl ?_
  refine j_get (v := .int fh) 0 dX1_firstHearer_1 fX1_22 rfl rfl ?_
  exact j_iret _ dX1_firstHearer_4 (List.Perm.refl _) ⟨by rfl, by rfl⟩
set_option maxHeartbeats 4000000 in
set_option maxRecDepth 100000 in
theorem tmost3 (l : Launch) (x : Cx) (q : Nat → Nat) (a : Nat → Nat → Nat) (f : Nat → Nat) (u : NS) (hu : nN u ≤ 5) (L : Nat) (hL : L < nN u) (H : Nat) (hH : H ≤ 3) (hib fh : Int32) : MC l x 4 0 0 yX1_most cX1_most 9 (some .int) [.ref (q 0), .ref (f 0), .int (nI L), .int (nI 3), .int (nI H)] (fl [lb x q a (hib, fh), nb x f u]) (eX (mst (H - 3) u L).1 (fun ws => ws = fl [lb x q a (hib, fh), nb x f u])) := by
  refine MC.of (by decide) (Nat.le_of_ble_eq_true rfl) eXI_fit (fun M => ?_)
  show J M l x cX1_most 9 yX1_most 4 (eX (mst (H - 3) u L).1 (fun ws => ws = fl [lb x q a (hib, fh), nb x f u])) 0 0 0 [(0, .ref (q 0)), (1, .ref (f 0)), (2, .int (nI L)), (3, .int (nI 3)), (4, .int (nI H))] [] (fl [lb x q a (hib, fh), nb x f u])
  refine j_iload_n 3 dX1_most_0 rfl rfl ?_
  refine j_if_lt (tgt := 19) dX1_most_1 (by decide) (fun h1 => absurd h1 (show ¬ (nI 3 : Int32) < 0 by decide)) (fun h1 => ?_)
  refine j_iload_n 3 dX1_most_4 rfl rfl ?_
  refine j_iload 4 dX1_most_5 rfl ?_
  refine j_icmpN_ge (a := 3) (b := H) (by omega) (by omega) (tgt := 19) dX1_most_7 (by decide) (fun h7 => ?_) (fun h7 => by omega)
  refine j_iconst (v := 0) dX1_most_19 (by decide) ?_
  exact j_iret _ dX1_most_20 (List.Perm.refl _) ⟨by rw [show H - 3 = 0 by omega]; rfl, rfl⟩
set_option maxHeartbeats 4000000 in
set_option maxRecDepth 100000 in
theorem lp_most2 {M : Mx} (l : Launch) (x : Cx) (q : Nat → Nat) (a : Nat → Nat → Nat) (f : Nat → Nat) (u : NS) (hu : nN u ≤ 5) (L : Nat) (hL : L < nN u) (H : Nat) (hH : H ≤ 3) (hib r1 r2 : Int32) (fh : Int32) (hA : 2 < H) {k0 n0 : Nat}  : ∀ (m : Nat) (c : Nat) (s1 s2 : Int32) (w2 : NS), c ≤ nN u + 1 → itr (lvS (fun o => bI (wbU (lec u o) == some L) + (mst (H - 3) (ph (lec u o)) L).1) L) (nN u + 1 - c) c (s1, s2) = (r1, r2) → nN w2 ≤ 5 → nN u + 1 - c < m → J M l x cX1_most 9 yX1_most 5 (eX r1 (fun ws => ∃ w2' : NS, nN w2' ≤ 5 ∧ ws = fl [lb x q a (hib, fh), nb x f u, nb x (a 2) w2'])) k0 n0 35 [(0, .ref (q 0)), (1, .ref (f 0)), (2, .int (nI L)), (3, .int (nI 2)), (4, .int (nI H)), (5, .ref ((a 2) 0)), (6, .int s1), (7, .int (oI (oc c)))] [] (fl [lb x q a (hib, fh), nb x f u, nb x (a 2) w2]) := by
  intro m; induction m with
  | zero => intro c s1 s2 w2 hc0 hc1 hc2 hm; exact absurd hm (Nat.not_lt_zero _)
  | succ m ih =>
    intro c s1 s2 w2 hc0 hc1 hc2 hm
    have hw2 := hc2
    refine j_iload 7 dX1_most_35 rfl ?_
    refine j_aload_n 1 dX1_most_37 rfl rfl ?_
    refine j_cVi (As := []) (rest := [.int (oI (oc c))]) (wr := fl [lb x q a (hib, fh), nb x (a 2) w2]) (ws' := fl [nb x f u, lb x q a (hib, fh), nb x (a 2) w2]) (uX2_lodgers l x f u ) kX2_lodgers 0 rfl rfl rfl vX1_35 dX1_most_38 (by decide) rfl rfl (Nat.le_of_ble_eq_true rfl) (pm_1 1 [0, 2] rfl rfl rfl) rfl ?_
    refine j_icmp_ge (tgt := 138) dX1_most_41 (by decide) (fun h41 => ?_) (fun h41 => ?_)
    · skip
      have hge := (oc_ge (by omega) (by omega)).mp h41
      refine j_iload 6 dX1_most_138 rfl ?_
      refine j_perm (fl [lb x q a (hib, fh), nb x f u, nb x (a 2) w2]) (pm_b [1, 0, 2] rfl rfl) ?_
      rw [itr_end (n := nN u + 1) (b := c) (by omega)] at hc1; cases hc1
      exact j_iret _ dX1_most_140 (List.Perm.refl _) ⟨rfl, w2, hc2, rfl⟩
    · skip
      have hge := mt (oc_ge (n := nN u) (c := c) (by omega) (by omega)).mpr h41
      refine j_iload 7 dX1_most_44 rfl ?_
      refine j_iload_n 2 dX1_most_46 rfl rfl ?_
      refine j_icmp_ne (tgt := 53) dX1_most_47 (by decide) (fun h47 => ?_) (fun h47 => ?_)
      · skip
        have hcl := mt (oc_eq (c := c) (l := L) (by omega) (by omega)).mpr h47
        refine j_aload 5 dX1_most_53 rfl ?_
        refine j_aload_n 1 dX1_most_55 rfl rfl ?_
        refine j_cVv (As := [.ref (f 0)]) (rest := []) (wr := fl [lb x q a (hib, fh)]) (ws' := fl [nb x (a 2) (cpy u w2), nb x f u, lb x q a (hib, fh)]) (uX2_copyFrom l x (a 2) w2 f u (by (try simp only [nN_ph, nN_lec, nN_cpy, nN_cof, nN_wak, nN_hrs]); omega)) kX2_copyFrom 0 rfl rfl rfl vX1_39 dX1_most_56 (by decide) rfl rfl (Nat.le_of_ble_eq_true rfl) (pm_2 2 0 [1] rfl rfl rfl rfl) (List.append_assoc _ _ _) ?_
        refine j_aload 5 dX1_most_59 rfl ?_
        refine j_iload 7 dX1_most_61 rfl ?_
        refine j_cVv (As := [.int (oI (oc c))]) (rest := []) (wr := fl [nb x f u, lb x q a (hib, fh)]) (ws' := fl [nb x (a 2) (lec (cpy u w2) (oc c)), nb x f u, lb x q a (hib, fh)]) (uX2_giveLecture l x (a 2) (cpy u w2) (by (try simp only [nN_ph, nN_lec, nN_cpy, nN_cof, nN_wak, nN_hrs]); omega) (oc c) (fun j e => by rw [nN_cpy]; exact oc_lt (by omega) e)) kX2_giveLecture 0 rfl rfl rfl vX1_43 dX1_most_63 (by decide) rfl rfl (Nat.le_of_ble_eq_true rfl) (pm_1 0 [1, 2] rfl rfl rfl) rfl ?_
        refine j_aload 5 dX1_most_66 rfl ?_
        refine j_cVi (As := []) (rest := []) (wr := fl [nb x f u, lb x q a (hib, fh)]) (ws' := fl [nb x (a 2) (lec (cpy u w2) (oc c)), nb x f u, lb x q a (hib, fh)]) (uX2_whoseBed l x (a 2) (lec (cpy u w2) (oc c)) (by (try simp only [nN_ph, nN_lec, nN_cpy, nN_cof, nN_wak, nN_hrs]); omega)) kX2_whoseBed 0 rfl rfl rfl vX1_47 dX1_most_68 (by decide) rfl rfl (Nat.le_of_ble_eq_true rfl) (pm_1 0 [1, 2] rfl rfl rfl) rfl ?_
        refine j_iload_n 2 dX1_most_71 rfl rfl ?_
        refine j_icmp_ne (tgt := 79) dX1_most_72 (by decide) (fun h72 => ?_) (fun h72 => ?_)
        · skip
          have hx : nN (lec (cpy u w2) (oc c)) = nN u := by rw [nN_lec, nN_cpy]
          have hb : (wbU (lec (cpy u w2) (oc c)) == some L) = false := by
            have : ¬ wbU (lec (cpy u w2) (oc c)) = some L := fun e => h72 ((oI_eq (by omega) (fun j e => by have := wbU_lt e; omega)).mpr e).symm
            simp [this]
          refine j_iconst (v := bI false) dX1_most_79 (by decide) ?_
          refine j_istore (lv' := [(8, .int (bI false)), (0, .ref (q 0)), (1, .ref (f 0)), (2, .int (nI L)), (3, .int (nI 2)), (4, .int (nI H)), (5, .ref ((a 2) 0)), (6, .int s1), (7, .int (oI (oc c)))]) dX1_most_80 (by decide) rfl ?_
          refine j_aload 6 dX1_most_82 rfl ?_
          refine j_cVv (As := []) (rest := []) (wr := fl [nb x f u, lb x q a (hib, fh)]) (ws' := fl [nb x (a 2) (ph (lec (cpy u w2) (oc c))), nb x f u, lb x q a (hib, fh)]) (uX2_passHour l x (a 2) (lec (cpy u w2) (oc c)) (by (try simp only [nN_ph, nN_lec, nN_cpy, nN_cof, nN_wak, nN_hrs]); omega)) kX2_passHour 0 rfl rfl rfl vX1_50 dX1_most_84 (by decide) rfl rfl (Nat.le_of_ble_eq_true rfl) (pm_1 0 [1, 2] rfl rfl rfl) rfl ?_
          refine j_iload 0 dX1_most_87 rfl ?_
          refine j_aload_n 1 dX1_most_89 rfl rfl ?_
          refine j_aload 6 dX1_most_90 rfl ?_
          refine j_iload_n 3 dX1_most_92 rfl rfl ?_
          refine j_iload_n 4 dX1_most_93 rfl rfl ?_
          refine j_iconst (v := 1) dX1_most_94 (by decide) ?_
          refine j_iadd dX1_most_95 ?_
          refine j_topi (b := nI 3) (by decide) ?_
          refine j_iload 5 dX1_most_96 rfl ?_
          refine j_callV (As := [.ref ((a 2) 0), .int (nI L), .int (nI 3), .int (nI H)]) (rest := [.int (bI false)]) (wr := fl [nb x f u]) (tmost3 l x q a (a 2) (ph (lec (cpy u w2) (oc c))) (by (try simp only [nN_ph, nN_lec, nN_cpy, nN_cof, nN_wak, nN_hrs]); omega) L (by (try simp only [nN_ph, nN_lec, nN_cpy, nN_cof, nN_wak, nN_hrs]); omega) H hH hib fh) kX1_most vX1_31 0 rfl rfl rfl dX1_most_98 (by decide) (Nat.le_of_eq (Nat.zero_add _)) (Nat.le_of_eq (Nat.zero_add _)) rfl rfl (Nat.le_of_ble_eq_true rfl) (pm_c [2, 0] [1] rfl rfl rfl) (fun v9 w9 hv9 => ?_)
          obtain ⟨rfl, rfl⟩ := hv9
          refine j_eq (lv' := [(8, .int (bI false)), (0, .ref (q 0)), (1, .ref (f 0)), (2, .int (nI L)), (3, .int (nI 2)), (4, .int (nI H)), (5, .ref ((a 2) 0)), (6, .int s1), (7, .int (oI (oc c)))]) (st' := [.int ((mst (H - 3) (ph (lec (cpy u w2) (oc c))) L).1), .int (bI false)]) (ws' := fl [lb x q a (hib, fh), nb x (a 2) (ph (lec (cpy u w2) (oc c))), nb x f u]) rfl rfl (fl_app _ _) ?_
          refine j_iadd dX1_most_101 ?_
          refine j_topi (b := (fun o => bI (wbU (lec u o) == some L) + (mst (H - 3) (ph (lec u o)) L).1) (oc c)) (val_eq (H - 3) u w2 (oc c) L (fun j e => oc_lt (by omega) e) hb) ?_
          refine j_istore (lv' := [(8, .int ((fun o => bI (wbU (lec u o) == some L) + (mst (H - 3) (ph (lec u o)) L).1) (oc c))), (0, .ref (q 0)), (1, .ref (f 0)), (2, .int (nI L)), (3, .int (nI 2)), (4, .int (nI H)), (5, .ref ((a 2) 0)), (6, .int s1), (7, .int (oI (oc c)))]) dX1_most_102 (by decide) rfl ?_
          refine j_iload 0 dX1_most_104 rfl ?_
          refine j_iload 7 dX1_most_106 rfl ?_
          refine j_icmp_le (tgt := 132) dX1_most_108 (by decide) (fun h108 => ?_) (fun h108 => ?_)
          · skip
            refine j_iinc (v := oI (oc (c + 1))) (lv' := [(7, .int (oI (oc (c + 1)))), (8, .int ((fun o => bI (wbU (lec u o) == some L) + (mst (H - 3) (ph (lec u o)) L).1) (oc c))), (0, .ref (q 0)), (1, .ref (f 0)), (2, .int (nI L)), (3, .int (nI 2)), (4, .int (nI H)), (5, .ref ((a 2) 0)), (6, .int s1)]) 8 dX1_most_132 rfl (oc_inc c) (by decide) rfl ?_
            refine j_goto (tgt := 35) dX1_most_135 (by decide) ?_
            refine j_lv [2, 3, 4, 5, 6, 7, 8, 0] (lv' := [(0, .ref (q 0)), (1, .ref (f 0)), (2, .int (nI L)), (3, .int (nI 2)), (4, .int (nI H)), (5, .ref ((a 2) 0)), (6, .int s1), (7, .int (oI (oc (c + 1))))]) rfl ?_
            refine j_perm (fl [lb x q a (hib, fh), nb x f u, nb x (a 2) (ph (lec (cpy u w2) (oc c)))]) (pm_b [0, 2, 1] rfl rfl) ?_
            refine ih (c + 1) _ s2 _ (by omega) ?_ (by (try simp only [nN_ph, nN_lec, nN_cpy, nN_cof, nN_wak, nN_hrs]); omega) (by omega)
            rw [← hc1, itr_go (n := nN u + 1) (b := c) (by omega)]; exact congrArg (itr (lvS (fun o => bI (wbU (lec u o) == some L) + (mst (H - 3) (ph (lec u o)) L).1) L) (nN u + 1 - (c + 1)) (c + 1)) (by first | (rw [lvS, if_pos hcl]; done) | (rw [lvS, if_neg hcl, if_pos h108]; done) | (rw [lvS, if_neg hcl, if_neg h108]; done))
          · skip
            refine j_iload 0 dX1_most_111 rfl ?_
            refine j_istore (lv' := [(6, .int ((fun o => bI (wbU (lec u o) == some L) + (mst (H - 3) (ph (lec u o)) L).1) (oc c))), (8, .int ((fun o => bI (wbU (lec u o) == some L) + (mst (H - 3) (ph (lec u o)) L).1) (oc c))), (0, .ref (q 0)), (1, .ref (f 0)), (2, .int (nI L)), (3, .int (nI 2)), (4, .int (nI H)), (5, .ref ((a 2) 0)), (7, .int (oI (oc c)))]) dX1_most_113 (by decide) rfl ?_
            refine j_aload_n 2 dX1_most_115 rfl rfl ?_
            refine j_iload_n 5 dX1_most_116 rfl rfl ?_
            refine j_if_ne (tgt := 125) dX1_most_117 (by decide) (fun h117 => ?_) (fun h117 => absurd h117 (show ¬ (nI 2 : Int32) = 0 by decide))
            refine j_aload_n 2 dX1_most_125 rfl rfl ?_
            refine j_get (v := .int fh) 0 dX1_most_126 fX1_22 rfl rfl ?_
            refine j_put (v := .int fh) (ws' := fl [lb x q a (hib, fh), nb x (a 2) (ph (lec (cpy u w2) (oc c))), nb x f u]) 0 dX1_most_129 fX1_22 rfl rfl rfl (Nat.le_of_ble_eq_true rfl) rfl ?_
            refine j_iinc (v := oI (oc (c + 1))) (lv' := [(7, .int (oI (oc (c + 1)))), (6, .int ((fun o => bI (wbU (lec u o) == some L) + (mst (H - 3) (ph (lec u o)) L).1) (oc c))), (8, .int ((fun o => bI (wbU (lec u o) == some L) + (mst (H - 3) (ph (lec u o)) L).1) (oc c))), (0, .ref (q 0)), (1, .ref (f 0)), (2, .int (nI L)), (3, .int (nI 2)), (4, .int (nI H)), (5, .ref ((a 2) 0))]) 8 dX1_most_132 rfl (oc_inc c) (by decide) rfl ?_
            refine j_goto (tgt := 35) dX1_most_135 (by decide) ?_
            refine j_lv [3, 4, 5, 6, 7, 8, 1, 0] (lv' := [(0, .ref (q 0)), (1, .ref (f 0)), (2, .int (nI L)), (3, .int (nI 2)), (4, .int (nI H)), (5, .ref ((a 2) 0)), (6, .int ((fun o => bI (wbU (lec u o) == some L) + (mst (H - 3) (ph (lec u o)) L).1) (oc c))), (7, .int (oI (oc (c + 1))))]) rfl ?_
            refine j_perm (fl [lb x q a (hib, fh), nb x f u, nb x (a 2) (ph (lec (cpy u w2) (oc c)))]) (pm_b [0, 2, 1] rfl rfl) ?_
            refine ih (c + 1) _ (oI (oc c)) _ (by omega) ?_ (by (try simp only [nN_ph, nN_lec, nN_cpy, nN_cof, nN_wak, nN_hrs]); omega) (by omega)
            rw [← hc1, itr_go (n := nN u + 1) (b := c) (by omega)]; exact congrArg (itr (lvS (fun o => bI (wbU (lec u o) == some L) + (mst (H - 3) (ph (lec u o)) L).1) L) (nN u + 1 - (c + 1)) (c + 1)) (by first | (rw [lvS, if_pos hcl]; done) | (rw [lvS, if_neg hcl, if_pos h108]; done) | (rw [lvS, if_neg hcl, if_neg h108]; done))
        · skip
          have hx : nN (lec (cpy u w2) (oc c)) = nN u := by rw [nN_lec, nN_cpy]
          have hb : (wbU (lec (cpy u w2) (oc c)) == some L) = true := by
            have : wbU (lec (cpy u w2) (oc c)) = some L := (oI_eq (by omega) (fun j e => by have := wbU_lt e; omega)).mp h72.symm
            simp [this]
          refine j_iconst (v := bI true) dX1_most_75 (by decide) ?_
          refine j_goto (tgt := 80) dX1_most_76 (by decide) ?_
          refine j_istore (lv' := [(8, .int (bI true)), (0, .ref (q 0)), (1, .ref (f 0)), (2, .int (nI L)), (3, .int (nI 2)), (4, .int (nI H)), (5, .ref ((a 2) 0)), (6, .int s1), (7, .int (oI (oc c)))]) dX1_most_80 (by decide) rfl ?_
          refine j_aload 6 dX1_most_82 rfl ?_
          refine j_cVv (As := []) (rest := []) (wr := fl [nb x f u, lb x q a (hib, fh)]) (ws' := fl [nb x (a 2) (ph (lec (cpy u w2) (oc c))), nb x f u, lb x q a (hib, fh)]) (uX2_passHour l x (a 2) (lec (cpy u w2) (oc c)) (by (try simp only [nN_ph, nN_lec, nN_cpy, nN_cof, nN_wak, nN_hrs]); omega)) kX2_passHour 0 rfl rfl rfl vX1_50 dX1_most_84 (by decide) rfl rfl (Nat.le_of_ble_eq_true rfl) (pm_1 0 [1, 2] rfl rfl rfl) rfl ?_
          refine j_iload 0 dX1_most_87 rfl ?_
          refine j_aload_n 1 dX1_most_89 rfl rfl ?_
          refine j_aload 6 dX1_most_90 rfl ?_
          refine j_iload_n 3 dX1_most_92 rfl rfl ?_
          refine j_iload_n 4 dX1_most_93 rfl rfl ?_
          refine j_iconst (v := 1) dX1_most_94 (by decide) ?_
          refine j_iadd dX1_most_95 ?_
          refine j_topi (b := nI 3) (by decide) ?_
          refine j_iload 5 dX1_most_96 rfl ?_
          refine j_callV (As := [.ref ((a 2) 0), .int (nI L), .int (nI 3), .int (nI H)]) (rest := [.int (bI true)]) (wr := fl [nb x f u]) (tmost3 l x q a (a 2) (ph (lec (cpy u w2) (oc c))) (by (try simp only [nN_ph, nN_lec, nN_cpy, nN_cof, nN_wak, nN_hrs]); omega) L (by (try simp only [nN_ph, nN_lec, nN_cpy, nN_cof, nN_wak, nN_hrs]); omega) H hH hib fh) kX1_most vX1_31 0 rfl rfl rfl dX1_most_98 (by decide) (Nat.le_of_eq (Nat.zero_add _)) (Nat.le_of_eq (Nat.zero_add _)) rfl rfl (Nat.le_of_ble_eq_true rfl) (pm_c [2, 0] [1] rfl rfl rfl) (fun v9 w9 hv9 => ?_)
          obtain ⟨rfl, rfl⟩ := hv9
          refine j_eq (lv' := [(8, .int (bI true)), (0, .ref (q 0)), (1, .ref (f 0)), (2, .int (nI L)), (3, .int (nI 2)), (4, .int (nI H)), (5, .ref ((a 2) 0)), (6, .int s1), (7, .int (oI (oc c)))]) (st' := [.int ((mst (H - 3) (ph (lec (cpy u w2) (oc c))) L).1), .int (bI true)]) (ws' := fl [lb x q a (hib, fh), nb x (a 2) (ph (lec (cpy u w2) (oc c))), nb x f u]) rfl rfl (fl_app _ _) ?_
          refine j_iadd dX1_most_101 ?_
          refine j_topi (b := (fun o => bI (wbU (lec u o) == some L) + (mst (H - 3) (ph (lec u o)) L).1) (oc c)) (val_eq (H - 3) u w2 (oc c) L (fun j e => oc_lt (by omega) e) hb) ?_
          refine j_istore (lv' := [(8, .int ((fun o => bI (wbU (lec u o) == some L) + (mst (H - 3) (ph (lec u o)) L).1) (oc c))), (0, .ref (q 0)), (1, .ref (f 0)), (2, .int (nI L)), (3, .int (nI 2)), (4, .int (nI H)), (5, .ref ((a 2) 0)), (6, .int s1), (7, .int (oI (oc c)))]) dX1_most_102 (by decide) rfl ?_
          refine j_iload 0 dX1_most_104 rfl ?_
          refine j_iload 7 dX1_most_106 rfl ?_
          refine j_icmp_le (tgt := 132) dX1_most_108 (by decide) (fun h108 => ?_) (fun h108 => ?_)
          · skip
            refine j_iinc (v := oI (oc (c + 1))) (lv' := [(7, .int (oI (oc (c + 1)))), (8, .int ((fun o => bI (wbU (lec u o) == some L) + (mst (H - 3) (ph (lec u o)) L).1) (oc c))), (0, .ref (q 0)), (1, .ref (f 0)), (2, .int (nI L)), (3, .int (nI 2)), (4, .int (nI H)), (5, .ref ((a 2) 0)), (6, .int s1)]) 8 dX1_most_132 rfl (oc_inc c) (by decide) rfl ?_
            refine j_goto (tgt := 35) dX1_most_135 (by decide) ?_
            refine j_lv [2, 3, 4, 5, 6, 7, 8, 0] (lv' := [(0, .ref (q 0)), (1, .ref (f 0)), (2, .int (nI L)), (3, .int (nI 2)), (4, .int (nI H)), (5, .ref ((a 2) 0)), (6, .int s1), (7, .int (oI (oc (c + 1))))]) rfl ?_
            refine j_perm (fl [lb x q a (hib, fh), nb x f u, nb x (a 2) (ph (lec (cpy u w2) (oc c)))]) (pm_b [0, 2, 1] rfl rfl) ?_
            refine ih (c + 1) _ s2 _ (by omega) ?_ (by (try simp only [nN_ph, nN_lec, nN_cpy, nN_cof, nN_wak, nN_hrs]); omega) (by omega)
            rw [← hc1, itr_go (n := nN u + 1) (b := c) (by omega)]; exact congrArg (itr (lvS (fun o => bI (wbU (lec u o) == some L) + (mst (H - 3) (ph (lec u o)) L).1) L) (nN u + 1 - (c + 1)) (c + 1)) (by first | (rw [lvS, if_pos hcl]; done) | (rw [lvS, if_neg hcl, if_pos h108]; done) | (rw [lvS, if_neg hcl, if_neg h108]; done))
          · skip
            refine j_iload 0 dX1_most_111 rfl ?_
            refine j_istore (lv' := [(6, .int ((fun o => bI (wbU (lec u o) == some L) + (mst (H - 3) (ph (lec u o)) L).1) (oc c))), (8, .int ((fun o => bI (wbU (lec u o) == some L) + (mst (H - 3) (ph (lec u o)) L).1) (oc c))), (0, .ref (q 0)), (1, .ref (f 0)), (2, .int (nI L)), (3, .int (nI 2)), (4, .int (nI H)), (5, .ref ((a 2) 0)), (7, .int (oI (oc c)))]) dX1_most_113 (by decide) rfl ?_
            refine j_aload_n 2 dX1_most_115 rfl rfl ?_
            refine j_iload_n 5 dX1_most_116 rfl rfl ?_
            refine j_if_ne (tgt := 125) dX1_most_117 (by decide) (fun h117 => ?_) (fun h117 => absurd h117 (show ¬ (nI 2 : Int32) = 0 by decide))
            refine j_aload_n 2 dX1_most_125 rfl rfl ?_
            refine j_get (v := .int fh) 0 dX1_most_126 fX1_22 rfl rfl ?_
            refine j_put (v := .int fh) (ws' := fl [lb x q a (hib, fh), nb x (a 2) (ph (lec (cpy u w2) (oc c))), nb x f u]) 0 dX1_most_129 fX1_22 rfl rfl rfl (Nat.le_of_ble_eq_true rfl) rfl ?_
            refine j_iinc (v := oI (oc (c + 1))) (lv' := [(7, .int (oI (oc (c + 1)))), (6, .int ((fun o => bI (wbU (lec u o) == some L) + (mst (H - 3) (ph (lec u o)) L).1) (oc c))), (8, .int ((fun o => bI (wbU (lec u o) == some L) + (mst (H - 3) (ph (lec u o)) L).1) (oc c))), (0, .ref (q 0)), (1, .ref (f 0)), (2, .int (nI L)), (3, .int (nI 2)), (4, .int (nI H)), (5, .ref ((a 2) 0))]) 8 dX1_most_132 rfl (oc_inc c) (by decide) rfl ?_
            refine j_goto (tgt := 35) dX1_most_135 (by decide) ?_
            refine j_lv [3, 4, 5, 6, 7, 8, 1, 0] (lv' := [(0, .ref (q 0)), (1, .ref (f 0)), (2, .int (nI L)), (3, .int (nI 2)), (4, .int (nI H)), (5, .ref ((a 2) 0)), (6, .int ((fun o => bI (wbU (lec u o) == some L) + (mst (H - 3) (ph (lec u o)) L).1) (oc c))), (7, .int (oI (oc (c + 1))))]) rfl ?_
            refine j_perm (fl [lb x q a (hib, fh), nb x f u, nb x (a 2) (ph (lec (cpy u w2) (oc c)))]) (pm_b [0, 2, 1] rfl rfl) ?_
            refine ih (c + 1) _ (oI (oc c)) _ (by omega) ?_ (by (try simp only [nN_ph, nN_lec, nN_cpy, nN_cof, nN_wak, nN_hrs]); omega) (by omega)
            rw [← hc1, itr_go (n := nN u + 1) (b := c) (by omega)]; exact congrArg (itr (lvS (fun o => bI (wbU (lec u o) == some L) + (mst (H - 3) (ph (lec u o)) L).1) L) (nN u + 1 - (c + 1)) (c + 1)) (by first | (rw [lvS, if_pos hcl]; done) | (rw [lvS, if_neg hcl, if_pos h108]; done) | (rw [lvS, if_neg hcl, if_neg h108]; done))
      · skip
        have hcl := (oc_eq (c := c) (l := L) (by omega) (by omega)).mp h47
        refine j_goto (tgt := 132) dX1_most_50 (by decide) ?_
        refine j_iinc (v := oI (oc (c + 1))) (lv' := [(7, .int (oI (oc (c + 1)))), (0, .ref (q 0)), (1, .ref (f 0)), (2, .int (nI L)), (3, .int (nI 2)), (4, .int (nI H)), (5, .ref ((a 2) 0)), (6, .int s1)]) 7 dX1_most_132 rfl (oc_inc c) (by decide) rfl ?_
        refine j_goto (tgt := 35) dX1_most_135 (by decide) ?_
        refine j_lv [1, 2, 3, 4, 5, 6, 7, 0] (lv' := [(0, .ref (q 0)), (1, .ref (f 0)), (2, .int (nI L)), (3, .int (nI 2)), (4, .int (nI H)), (5, .ref ((a 2) 0)), (6, .int s1), (7, .int (oI (oc (c + 1))))]) rfl ?_
        refine j_perm (fl [lb x q a (hib, fh), nb x f u, nb x (a 2) w2]) (pm_b [1, 0, 2] rfl rfl) ?_
        refine ih (c + 1) _ s2 _ (by omega) ?_ hc2 (by omega)
        rw [← hc1, itr_go (n := nN u + 1) (b := c) (by omega)]; exact congrArg (itr (lvS (fun o => bI (wbU (lec u o) == some L) + (mst (H - 3) (ph (lec u o)) L).1) L) (nN u + 1 - (c + 1)) (c + 1)) (by first | (rw [lvS, if_pos hcl]; done) | (rw [lvS, if_neg hcl, if_pos h108]; done) | (rw [lvS, if_neg hcl, if_neg h108]; done))
set_option maxHeartbeats 4000000 in
set_option maxRecDepth 100000 in
theorem tmost2 (l : Launch) (x : Cx) (q : Nat → Nat) (a : Nat → Nat → Nat) (f : Nat → Nat) (u : NS) (hu : nN u ≤ 5) (L : Nat) (hL : L < nN u) (H : Nat) (hH : H ≤ 3) (hib fh : Int32) (w2 : NS) (hw2 : nN w2 ≤ 5) : MC l x 5 0 0 yX1_most cX1_most 9 (some .int) [.ref (q 0), .ref (f 0), .int (nI L), .int (nI 2), .int (nI H)] (fl [lb x q a (hib, fh), nb x f u, nb x (a 2) w2]) (eX (mst (H - 2) u L).1 (fun ws => ∃ w2' : NS, nN w2' ≤ 5 ∧ ws = fl [lb x q a (hib, fh), nb x f u, nb x (a 2) w2'])) := by
  refine MC.of (by decide) (Nat.le_of_ble_eq_true rfl) eXI_fit (fun M => ?_)
  show J M l x cX1_most 9 yX1_most 5 (eX (mst (H - 2) u L).1 (fun ws => ∃ w2' : NS, nN w2' ≤ 5 ∧ ws = fl [lb x q a (hib, fh), nb x f u, nb x (a 2) w2'])) 0 0 0 [(0, .ref (q 0)), (1, .ref (f 0)), (2, .int (nI L)), (3, .int (nI 2)), (4, .int (nI H))] [] (fl [lb x q a (hib, fh), nb x f u, nb x (a 2) w2])
  by_cases hA : 2 < H
  · skip
    refine j_iload_n 3 dX1_most_0 rfl rfl ?_
    refine j_if_lt (tgt := 19) dX1_most_1 (by decide) (fun h1 => absurd h1 (show ¬ (nI 2 : Int32) < 0 by decide)) (fun h1 => ?_)
    refine j_iload_n 3 dX1_most_4 rfl rfl ?_
    refine j_iload 4 dX1_most_5 rfl ?_
    refine j_icmpN_ge (a := 2) (b := H) (by omega) (by omega) (tgt := 19) dX1_most_7 (by decide) (fun h7 => by omega) (fun h7 => ?_)
    refine j_iload_n 3 dX1_most_10 rfl rfl ?_
    refine j_aload_n 0 dX1_most_11 rfl rfl ?_
    refine j_get (v := .ref (q 1)) 0 dX1_most_12 fX1_11 rfl rfl ?_
    refine j_alen (v := nI 3) 1 3 dX1_most_15 rfl rfl rfl ?_
    refine j_icmpN_lt (a := 2) (b := 3) (by omega) (by omega) (tgt := 21) dX1_most_16 (by decide) (fun h16 => ?_) (fun h16 => by omega)
    refine j_aload_n 0 dX1_most_21 rfl rfl ?_
    refine j_get (v := .ref (q 1)) 0 dX1_most_22 fX1_11 rfl rfl ?_
    refine j_iload_n 3 dX1_most_25 rfl rfl ?_
    refine j_aald (b := a 2 0) (f := fun i => if i < 3 then some (a i 0) else none) 1 dX1_most_26 rfl (vp_in_nI (show 2 < 3 by decide) (by decide)) rfl ?_
    refine j_astore (lv' := [(5, .ref ((a 2) 0)), (0, .ref (q 0)), (1, .ref (f 0)), (2, .int (nI L)), (3, .int (nI 2)), (4, .int (nI H))]) dX1_most_27 (by decide) rfl ?_
    refine j_iconst (v := (-1)) dX1_most_29 (by decide) ?_
    refine j_istore (lv' := [(6, .int (-1)), (5, .ref ((a 2) 0)), (0, .ref (q 0)), (1, .ref (f 0)), (2, .int (nI L)), (3, .int (nI 2)), (4, .int (nI H))]) dX1_most_30 (by decide) rfl ?_
    refine j_iconst (v := (-1)) dX1_most_32 (by decide) ?_
    refine j_istore (lv' := [(7, .int (-1)), (6, .int (-1)), (5, .ref ((a 2) 0)), (0, .ref (q 0)), (1, .ref (f 0)), (2, .int (nI L)), (3, .int (nI 2)), (4, .int (nI H))]) dX1_most_33 (by decide) rfl ?_
    refine j_lv [3, 4, 5, 6, 7, 2, 1, 0] (lv' := [(0, .ref (q 0)), (1, .ref (f 0)), (2, .int (nI L)), (3, .int (nI 2)), (4, .int (nI H)), (5, .ref ((a 2) 0)), (6, .int (-1)), (7, .int (-1))]) rfl ?_
    have e : mst (H - 2) u L = itr (lvS (fun o => bI (wbU (lec u o) == some L) + (mst (H - 3) (ph (lec u o)) L).1) L) (nN u + 1) 0 (-1, -1) := by rw [show H - 2 = (H - 3) + 1 by omega, mst]
    have hl := lp_most2 (M := M) (k0 := 0) (n0 := 0) l x q a f u hu L hL H hH hib (mst (H - 2) u L).1 (mst (H - 2) u L).2 fh hA (nN u + 2) 0 (-1) (-1) w2 (by omega) (by rw [e]; rfl) hw2 (by omega)
    exact hl
  · skip
    refine j_iload_n 3 dX1_most_0 rfl rfl ?_
    refine j_if_lt (tgt := 19) dX1_most_1 (by decide) (fun h1 => absurd h1 (show ¬ (nI 2 : Int32) < 0 by decide)) (fun h1 => ?_)
    refine j_iload_n 3 dX1_most_4 rfl rfl ?_
    refine j_iload 4 dX1_most_5 rfl ?_
    refine j_icmpN_ge (a := 2) (b := H) (by omega) (by omega) (tgt := 19) dX1_most_7 (by decide) (fun h7 => ?_) (fun h7 => by omega)
    refine j_iconst (v := 0) dX1_most_19 (by decide) ?_
    exact j_iret _ dX1_most_20 (List.Perm.refl _) ⟨by rw [show H - 2 = 0 by omega]; rfl, w2, hw2, rfl⟩
set_option maxHeartbeats 4000000 in
set_option maxRecDepth 100000 in
theorem lp_most1 {M : Mx} (l : Launch) (x : Cx) (q : Nat → Nat) (a : Nat → Nat → Nat) (f : Nat → Nat) (u : NS) (hu : nN u ≤ 5) (L : Nat) (hL : L < nN u) (H : Nat) (hH : H ≤ 3) (hib r1 r2 : Int32) (fh : Int32) (hA : 1 < H) {k0 n0 : Nat}  : ∀ (m : Nat) (c : Nat) (s1 s2 : Int32) (w1 : NS) (w2 : NS), c ≤ nN u + 1 → itr (lvS (fun o => bI (wbU (lec u o) == some L) + (mst (H - 2) (ph (lec u o)) L).1) L) (nN u + 1 - c) c (s1, s2) = (r1, r2) → nN w1 ≤ 5 → nN w2 ≤ 5 → nN u + 1 - c < m → J M l x cX1_most 9 yX1_most 6 (eX r1 (fun ws => ∃ w1' : NS, nN w1' ≤ 5 ∧ ∃ w2' : NS, nN w2' ≤ 5 ∧ ws = fl [lb x q a (hib, fh), nb x f u, nb x (a 1) w1', nb x (a 2) w2'])) k0 n0 35 [(0, .ref (q 0)), (1, .ref (f 0)), (2, .int (nI L)), (3, .int (nI 1)), (4, .int (nI H)), (5, .ref ((a 1) 0)), (6, .int s1), (7, .int (oI (oc c)))] [] (fl [lb x q a (hib, fh), nb x f u, nb x (a 1) w1, nb x (a 2) w2]) := by
  intro m; induction m with
  | zero => intro c s1 s2 w1 w2 hc0 hc1 hc2 hc3 hm; exact absurd hm (Nat.not_lt_zero _)
  | succ m ih =>
    intro c s1 s2 w1 w2 hc0 hc1 hc2 hc3 hm
    have hw1 := hc2
    have hw2 := hc3
    refine j_iload 7 dX1_most_35 rfl ?_
    refine j_aload_n 1 dX1_most_37 rfl rfl ?_
    refine j_cVi (As := []) (rest := [.int (oI (oc c))]) (wr := fl [lb x q a (hib, fh), nb x (a 1) w1, nb x (a 2) w2]) (ws' := fl [nb x f u, lb x q a (hib, fh), nb x (a 1) w1, nb x (a 2) w2]) (uX2_lodgers l x f u ) kX2_lodgers 0 rfl rfl rfl vX1_35 dX1_most_38 (by decide) rfl rfl (Nat.le_of_ble_eq_true rfl) (pm_1 1 [0, 2, 3] rfl rfl rfl) rfl ?_
    refine j_icmp_ge (tgt := 138) dX1_most_41 (by decide) (fun h41 => ?_) (fun h41 => ?_)
    · skip
      have hge := (oc_ge (by omega) (by omega)).mp h41
      refine j_iload 6 dX1_most_138 rfl ?_
      refine j_perm (fl [lb x q a (hib, fh), nb x f u, nb x (a 1) w1, nb x (a 2) w2]) (pm_b [1, 0, 2, 3] rfl rfl) ?_
      rw [itr_end (n := nN u + 1) (b := c) (by omega)] at hc1; cases hc1
      exact j_iret _ dX1_most_140 (List.Perm.refl _) ⟨rfl, w1, hc2, w2, hc3, rfl⟩
    · skip
      have hge := mt (oc_ge (n := nN u) (c := c) (by omega) (by omega)).mpr h41
      refine j_iload 7 dX1_most_44 rfl ?_
      refine j_iload_n 2 dX1_most_46 rfl rfl ?_
      refine j_icmp_ne (tgt := 53) dX1_most_47 (by decide) (fun h47 => ?_) (fun h47 => ?_)
      · skip
        have hcl := mt (oc_eq (c := c) (l := L) (by omega) (by omega)).mpr h47
        refine j_aload 5 dX1_most_53 rfl ?_
        refine j_aload_n 1 dX1_most_55 rfl rfl ?_
        refine j_cVv (As := [.ref (f 0)]) (rest := []) (wr := fl [lb x q a (hib, fh), nb x (a 2) w2]) (ws' := fl [nb x (a 1) (cpy u w1), nb x f u, lb x q a (hib, fh), nb x (a 2) w2]) (uX2_copyFrom l x (a 1) w1 f u (by (try simp only [nN_ph, nN_lec, nN_cpy, nN_cof, nN_wak, nN_hrs]); omega)) kX2_copyFrom 0 rfl rfl rfl vX1_39 dX1_most_56 (by decide) rfl rfl (Nat.le_of_ble_eq_true rfl) (pm_2 2 0 [1, 3] rfl rfl rfl rfl) (List.append_assoc _ _ _) ?_
        refine j_aload 5 dX1_most_59 rfl ?_
        refine j_iload 7 dX1_most_61 rfl ?_
        refine j_cVv (As := [.int (oI (oc c))]) (rest := []) (wr := fl [nb x f u, lb x q a (hib, fh), nb x (a 2) w2]) (ws' := fl [nb x (a 1) (lec (cpy u w1) (oc c)), nb x f u, lb x q a (hib, fh), nb x (a 2) w2]) (uX2_giveLecture l x (a 1) (cpy u w1) (by (try simp only [nN_ph, nN_lec, nN_cpy, nN_cof, nN_wak, nN_hrs]); omega) (oc c) (fun j e => by rw [nN_cpy]; exact oc_lt (by omega) e)) kX2_giveLecture 0 rfl rfl rfl vX1_43 dX1_most_63 (by decide) rfl rfl (Nat.le_of_ble_eq_true rfl) (pm_1 0 [1, 2, 3] rfl rfl rfl) rfl ?_
        refine j_aload 5 dX1_most_66 rfl ?_
        refine j_cVi (As := []) (rest := []) (wr := fl [nb x f u, lb x q a (hib, fh), nb x (a 2) w2]) (ws' := fl [nb x (a 1) (lec (cpy u w1) (oc c)), nb x f u, lb x q a (hib, fh), nb x (a 2) w2]) (uX2_whoseBed l x (a 1) (lec (cpy u w1) (oc c)) (by (try simp only [nN_ph, nN_lec, nN_cpy, nN_cof, nN_wak, nN_hrs]); omega)) kX2_whoseBed 0 rfl rfl rfl vX1_47 dX1_most_68 (by decide) rfl rfl (Nat.le_of_ble_eq_true rfl) (pm_1 0 [1, 2, 3] rfl rfl rfl) rfl ?_
        refine j_iload_n 2 dX1_most_71 rfl rfl ?_
        refine j_icmp_ne (tgt := 79) dX1_most_72 (by decide) (fun h72 => ?_) (fun h72 => ?_)
        · skip
          have hx : nN (lec (cpy u w1) (oc c)) = nN u := by rw [nN_lec, nN_cpy]
          have hb : (wbU (lec (cpy u w1) (oc c)) == some L) = false := by
            have : ¬ wbU (lec (cpy u w1) (oc c)) = some L := fun e => h72 ((oI_eq (by omega) (fun j e => by have := wbU_lt e; omega)).mpr e).symm
            simp [this]
          refine j_iconst (v := bI false) dX1_most_79 (by decide) ?_
          refine j_istore (lv' := [(8, .int (bI false)), (0, .ref (q 0)), (1, .ref (f 0)), (2, .int (nI L)), (3, .int (nI 1)), (4, .int (nI H)), (5, .ref ((a 1) 0)), (6, .int s1), (7, .int (oI (oc c)))]) dX1_most_80 (by decide) rfl ?_
          refine j_aload 6 dX1_most_82 rfl ?_
          refine j_cVv (As := []) (rest := []) (wr := fl [nb x f u, lb x q a (hib, fh), nb x (a 2) w2]) (ws' := fl [nb x (a 1) (ph (lec (cpy u w1) (oc c))), nb x f u, lb x q a (hib, fh), nb x (a 2) w2]) (uX2_passHour l x (a 1) (lec (cpy u w1) (oc c)) (by (try simp only [nN_ph, nN_lec, nN_cpy, nN_cof, nN_wak, nN_hrs]); omega)) kX2_passHour 0 rfl rfl rfl vX1_50 dX1_most_84 (by decide) rfl rfl (Nat.le_of_ble_eq_true rfl) (pm_1 0 [1, 2, 3] rfl rfl rfl) rfl ?_
          refine j_iload 0 dX1_most_87 rfl ?_
          refine j_aload_n 1 dX1_most_89 rfl rfl ?_
          refine j_aload 6 dX1_most_90 rfl ?_
          refine j_iload_n 3 dX1_most_92 rfl rfl ?_
          refine j_iload_n 4 dX1_most_93 rfl rfl ?_
          refine j_iconst (v := 1) dX1_most_94 (by decide) ?_
          refine j_iadd dX1_most_95 ?_
          refine j_topi (b := nI 2) (by decide) ?_
          refine j_iload 5 dX1_most_96 rfl ?_
          refine j_callV (As := [.ref ((a 1) 0), .int (nI L), .int (nI 2), .int (nI H)]) (rest := [.int (bI false)]) (wr := fl [nb x f u]) (tmost2 l x q a (a 1) (ph (lec (cpy u w1) (oc c))) (by (try simp only [nN_ph, nN_lec, nN_cpy, nN_cof, nN_wak, nN_hrs]); omega) L (by (try simp only [nN_ph, nN_lec, nN_cpy, nN_cof, nN_wak, nN_hrs]); omega) H hH hib fh w2 hw2) kX1_most vX1_31 0 rfl rfl rfl dX1_most_98 (by decide) (Nat.le_of_eq (Nat.zero_add _)) (Nat.le_of_eq (Nat.zero_add _)) rfl rfl (Nat.le_of_ble_eq_true rfl) (pm_c [2, 0, 3] [1] rfl rfl rfl) (fun v9 w9 hv9 => ?_)
          obtain ⟨rfl, y2, hy2, rfl⟩ := hv9
          refine j_eq (lv' := [(8, .int (bI false)), (0, .ref (q 0)), (1, .ref (f 0)), (2, .int (nI L)), (3, .int (nI 1)), (4, .int (nI H)), (5, .ref ((a 1) 0)), (6, .int s1), (7, .int (oI (oc c)))]) (st' := [.int ((mst (H - 2) (ph (lec (cpy u w1) (oc c))) L).1), .int (bI false)]) (ws' := fl [lb x q a (hib, fh), nb x (a 1) (ph (lec (cpy u w1) (oc c))), nb x (a 2) y2, nb x f u]) rfl rfl (fl_app _ _) ?_
          refine j_iadd dX1_most_101 ?_
          refine j_topi (b := (fun o => bI (wbU (lec u o) == some L) + (mst (H - 2) (ph (lec u o)) L).1) (oc c)) (val_eq (H - 2) u w1 (oc c) L (fun j e => oc_lt (by omega) e) hb) ?_
          refine j_istore (lv' := [(8, .int ((fun o => bI (wbU (lec u o) == some L) + (mst (H - 2) (ph (lec u o)) L).1) (oc c))), (0, .ref (q 0)), (1, .ref (f 0)), (2, .int (nI L)), (3, .int (nI 1)), (4, .int (nI H)), (5, .ref ((a 1) 0)), (6, .int s1), (7, .int (oI (oc c)))]) dX1_most_102 (by decide) rfl ?_
          refine j_iload 0 dX1_most_104 rfl ?_
          refine j_iload 7 dX1_most_106 rfl ?_
          refine j_icmp_le (tgt := 132) dX1_most_108 (by decide) (fun h108 => ?_) (fun h108 => ?_)
          · skip
            refine j_iinc (v := oI (oc (c + 1))) (lv' := [(7, .int (oI (oc (c + 1)))), (8, .int ((fun o => bI (wbU (lec u o) == some L) + (mst (H - 2) (ph (lec u o)) L).1) (oc c))), (0, .ref (q 0)), (1, .ref (f 0)), (2, .int (nI L)), (3, .int (nI 1)), (4, .int (nI H)), (5, .ref ((a 1) 0)), (6, .int s1)]) 8 dX1_most_132 rfl (oc_inc c) (by decide) rfl ?_
            refine j_goto (tgt := 35) dX1_most_135 (by decide) ?_
            refine j_lv [2, 3, 4, 5, 6, 7, 8, 0] (lv' := [(0, .ref (q 0)), (1, .ref (f 0)), (2, .int (nI L)), (3, .int (nI 1)), (4, .int (nI H)), (5, .ref ((a 1) 0)), (6, .int s1), (7, .int (oI (oc (c + 1))))]) rfl ?_
            refine j_perm (fl [lb x q a (hib, fh), nb x f u, nb x (a 1) (ph (lec (cpy u w1) (oc c))), nb x (a 2) y2]) (pm_b [0, 3, 1, 2] rfl rfl) ?_
            refine ih (c + 1) _ s2 _ _ (by omega) ?_ (by (try simp only [nN_ph, nN_lec, nN_cpy, nN_cof, nN_wak, nN_hrs]); omega) hy2 (by omega)
            rw [← hc1, itr_go (n := nN u + 1) (b := c) (by omega)]; exact congrArg (itr (lvS (fun o => bI (wbU (lec u o) == some L) + (mst (H - 2) (ph (lec u o)) L).1) L) (nN u + 1 - (c + 1)) (c + 1)) (by first | (rw [lvS, if_pos hcl]; done) | (rw [lvS, if_neg hcl, if_pos h108]; done) | (rw [lvS, if_neg hcl, if_neg h108]; done))
          · skip
            refine j_iload 0 dX1_most_111 rfl ?_
            refine j_istore (lv' := [(6, .int ((fun o => bI (wbU (lec u o) == some L) + (mst (H - 2) (ph (lec u o)) L).1) (oc c))), (8, .int ((fun o => bI (wbU (lec u o) == some L) + (mst (H - 2) (ph (lec u o)) L).1) (oc c))), (0, .ref (q 0)), (1, .ref (f 0)), (2, .int (nI L)), (3, .int (nI 1)), (4, .int (nI H)), (5, .ref ((a 1) 0)), (7, .int (oI (oc c)))]) dX1_most_113 (by decide) rfl ?_
            refine j_aload_n 2 dX1_most_115 rfl rfl ?_
            refine j_iload_n 5 dX1_most_116 rfl rfl ?_
            refine j_if_ne (tgt := 125) dX1_most_117 (by decide) (fun h117 => ?_) (fun h117 => absurd h117 (show ¬ (nI 1 : Int32) = 0 by decide))
            refine j_aload_n 2 dX1_most_125 rfl rfl ?_
            refine j_get (v := .int fh) 0 dX1_most_126 fX1_22 rfl rfl ?_
            refine j_put (v := .int fh) (ws' := fl [lb x q a (hib, fh), nb x (a 1) (ph (lec (cpy u w1) (oc c))), nb x (a 2) y2, nb x f u]) 0 dX1_most_129 fX1_22 rfl rfl rfl (Nat.le_of_ble_eq_true rfl) rfl ?_
            refine j_iinc (v := oI (oc (c + 1))) (lv' := [(7, .int (oI (oc (c + 1)))), (6, .int ((fun o => bI (wbU (lec u o) == some L) + (mst (H - 2) (ph (lec u o)) L).1) (oc c))), (8, .int ((fun o => bI (wbU (lec u o) == some L) + (mst (H - 2) (ph (lec u o)) L).1) (oc c))), (0, .ref (q 0)), (1, .ref (f 0)), (2, .int (nI L)), (3, .int (nI 1)), (4, .int (nI H)), (5, .ref ((a 1) 0))]) 8 dX1_most_132 rfl (oc_inc c) (by decide) rfl ?_
            refine j_goto (tgt := 35) dX1_most_135 (by decide) ?_
            refine j_lv [3, 4, 5, 6, 7, 8, 1, 0] (lv' := [(0, .ref (q 0)), (1, .ref (f 0)), (2, .int (nI L)), (3, .int (nI 1)), (4, .int (nI H)), (5, .ref ((a 1) 0)), (6, .int ((fun o => bI (wbU (lec u o) == some L) + (mst (H - 2) (ph (lec u o)) L).1) (oc c))), (7, .int (oI (oc (c + 1))))]) rfl ?_
            refine j_perm (fl [lb x q a (hib, fh), nb x f u, nb x (a 1) (ph (lec (cpy u w1) (oc c))), nb x (a 2) y2]) (pm_b [0, 3, 1, 2] rfl rfl) ?_
            refine ih (c + 1) _ (oI (oc c)) _ _ (by omega) ?_ (by (try simp only [nN_ph, nN_lec, nN_cpy, nN_cof, nN_wak, nN_hrs]); omega) hy2 (by omega)
            rw [← hc1, itr_go (n := nN u + 1) (b := c) (by omega)]; exact congrArg (itr (lvS (fun o => bI (wbU (lec u o) == some L) + (mst (H - 2) (ph (lec u o)) L).1) L) (nN u + 1 - (c + 1)) (c + 1)) (by first | (rw [lvS, if_pos hcl]; done) | (rw [lvS, if_neg hcl, if_pos h108]; done) | (rw [lvS, if_neg hcl, if_neg h108]; done))
        · skip
          have hx : nN (lec (cpy u w1) (oc c)) = nN u := by rw [nN_lec, nN_cpy]
          have hb : (wbU (lec (cpy u w1) (oc c)) == some L) = true := by
            have : wbU (lec (cpy u w1) (oc c)) = some L := (oI_eq (by omega) (fun j e => by have := wbU_lt e; omega)).mp h72.symm
            simp [this]
          refine j_iconst (v := bI true) dX1_most_75 (by decide) ?_
          refine j_goto (tgt := 80) dX1_most_76 (by decide) ?_
          refine j_istore (lv' := [(8, .int (bI true)), (0, .ref (q 0)), (1, .ref (f 0)), (2, .int (nI L)), (3, .int (nI 1)), (4, .int (nI H)), (5, .ref ((a 1) 0)), (6, .int s1), (7, .int (oI (oc c)))]) dX1_most_80 (by decide) rfl ?_
          refine j_aload 6 dX1_most_82 rfl ?_
          refine j_cVv (As := []) (rest := []) (wr := fl [nb x f u, lb x q a (hib, fh), nb x (a 2) w2]) (ws' := fl [nb x (a 1) (ph (lec (cpy u w1) (oc c))), nb x f u, lb x q a (hib, fh), nb x (a 2) w2]) (uX2_passHour l x (a 1) (lec (cpy u w1) (oc c)) (by (try simp only [nN_ph, nN_lec, nN_cpy, nN_cof, nN_wak, nN_hrs]); omega)) kX2_passHour 0 rfl rfl rfl vX1_50 dX1_most_84 (by decide) rfl rfl (Nat.le_of_ble_eq_true rfl) (pm_1 0 [1, 2, 3] rfl rfl rfl) rfl ?_
          refine j_iload 0 dX1_most_87 rfl ?_
          refine j_aload_n 1 dX1_most_89 rfl rfl ?_
          refine j_aload 6 dX1_most_90 rfl ?_
          refine j_iload_n 3 dX1_most_92 rfl rfl ?_
          refine j_iload_n 4 dX1_most_93 rfl rfl ?_
          refine j_iconst (v := 1) dX1_most_94 (by decide) ?_
          refine j_iadd dX1_most_95 ?_
          refine j_topi (b := nI 2) (by decide) ?_
          refine j_iload 5 dX1_most_96 rfl ?_
          refine j_callV (As := [.ref ((a 1) 0), .int (nI L), .int (nI 2), .int (nI H)]) (rest := [.int (bI true)]) (wr := fl [nb x f u]) (tmost2 l x q a (a 1) (ph (lec (cpy u w1) (oc c))) (by (try simp only [nN_ph, nN_lec, nN_cpy, nN_cof, nN_wak, nN_hrs]); omega) L (by (try simp only [nN_ph, nN_lec, nN_cpy, nN_cof, nN_wak, nN_hrs]); omega) H hH hib fh w2 hw2) kX1_most vX1_31 0 rfl rfl rfl dX1_most_98 (by decide) (Nat.le_of_eq (Nat.zero_add _)) (Nat.le_of_eq (Nat.zero_add _)) rfl rfl (Nat.le_of_ble_eq_true rfl) (pm_c [2, 0, 3] [1] rfl rfl rfl) (fun v9 w9 hv9 => ?_)
          obtain ⟨rfl, y2, hy2, rfl⟩ := hv9
          refine j_eq (lv' := [(8, .int (bI true)), (0, .ref (q 0)), (1, .ref (f 0)), (2, .int (nI L)), (3, .int (nI 1)), (4, .int (nI H)), (5, .ref ((a 1) 0)), (6, .int s1), (7, .int (oI (oc c)))]) (st' := [.int ((mst (H - 2) (ph (lec (cpy u w1) (oc c))) L).1), .int (bI true)]) (ws' := fl [lb x q a (hib, fh), nb x (a 1) (ph (lec (cpy u w1) (oc c))), nb x (a 2) y2, nb x f u]) rfl rfl (fl_app _ _) ?_
          refine j_iadd dX1_most_101 ?_
          refine j_topi (b := (fun o => bI (wbU (lec u o) == some L) + (mst (H - 2) (ph (lec u o)) L).1) (oc c)) (val_eq (H - 2) u w1 (oc c) L (fun j e => oc_lt (by omega) e) hb) ?_
          refine j_istore (lv' := [(8, .int ((fun o => bI (wbU (lec u o) == some L) + (mst (H - 2) (ph (lec u o)) L).1) (oc c))), (0, .ref (q 0)), (1, .ref (f 0)), (2, .int (nI L)), (3, .int (nI 1)), (4, .int (nI H)), (5, .ref ((a 1) 0)), (6, .int s1), (7, .int (oI (oc c)))]) dX1_most_102 (by decide) rfl ?_
          refine j_iload 0 dX1_most_104 rfl ?_
          refine j_iload 7 dX1_most_106 rfl ?_
          refine j_icmp_le (tgt := 132) dX1_most_108 (by decide) (fun h108 => ?_) (fun h108 => ?_)
          · skip
            refine j_iinc (v := oI (oc (c + 1))) (lv' := [(7, .int (oI (oc (c + 1)))), (8, .int ((fun o => bI (wbU (lec u o) == some L) + (mst (H - 2) (ph (lec u o)) L).1) (oc c))), (0, .ref (q 0)), (1, .ref (f 0)), (2, .int (nI L)), (3, .int (nI 1)), (4, .int (nI H)), (5, .ref ((a 1) 0)), (6, .int s1)]) 8 dX1_most_132 rfl (oc_inc c) (by decide) rfl ?_
            refine j_goto (tgt := 35) dX1_most_135 (by decide) ?_
            refine j_lv [2, 3, 4, 5, 6, 7, 8, 0] (lv' := [(0, .ref (q 0)), (1, .ref (f 0)), (2, .int (nI L)), (3, .int (nI 1)), (4, .int (nI H)), (5, .ref ((a 1) 0)), (6, .int s1), (7, .int (oI (oc (c + 1))))]) rfl ?_
            refine j_perm (fl [lb x q a (hib, fh), nb x f u, nb x (a 1) (ph (lec (cpy u w1) (oc c))), nb x (a 2) y2]) (pm_b [0, 3, 1, 2] rfl rfl) ?_
            refine ih (c + 1) _ s2 _ _ (by omega) ?_ (by (try simp only [nN_ph, nN_lec, nN_cpy, nN_cof, nN_wak, nN_hrs]); omega) hy2 (by omega)
            rw [← hc1, itr_go (n := nN u + 1) (b := c) (by omega)]; exact congrArg (itr (lvS (fun o => bI (wbU (lec u o) == some L) + (mst (H - 2) (ph (lec u o)) L).1) L) (nN u + 1 - (c + 1)) (c + 1)) (by first | (rw [lvS, if_pos hcl]; done) | (rw [lvS, if_neg hcl, if_pos h108]; done) | (rw [lvS, if_neg hcl, if_neg h108]; done))
          · skip
            refine j_iload 0 dX1_most_111 rfl ?_
            refine j_istore (lv' := [(6, .int ((fun o => bI (wbU (lec u o) == some L) + (mst (H - 2) (ph (lec u o)) L).1) (oc c))), (8, .int ((fun o => bI (wbU (lec u o) == some L) + (mst (H - 2) (ph (lec u o)) L).1) (oc c))), (0, .ref (q 0)), (1, .ref (f 0)), (2, .int (nI L)), (3, .int (nI 1)), (4, .int (nI H)), (5, .ref ((a 1) 0)), (7, .int (oI (oc c)))]) dX1_most_113 (by decide) rfl ?_
            refine j_aload_n 2 dX1_most_115 rfl rfl ?_
            refine j_iload_n 5 dX1_most_116 rfl rfl ?_
            refine j_if_ne (tgt := 125) dX1_most_117 (by decide) (fun h117 => ?_) (fun h117 => absurd h117 (show ¬ (nI 1 : Int32) = 0 by decide))
            refine j_aload_n 2 dX1_most_125 rfl rfl ?_
            refine j_get (v := .int fh) 0 dX1_most_126 fX1_22 rfl rfl ?_
            refine j_put (v := .int fh) (ws' := fl [lb x q a (hib, fh), nb x (a 1) (ph (lec (cpy u w1) (oc c))), nb x (a 2) y2, nb x f u]) 0 dX1_most_129 fX1_22 rfl rfl rfl (Nat.le_of_ble_eq_true rfl) rfl ?_
            refine j_iinc (v := oI (oc (c + 1))) (lv' := [(7, .int (oI (oc (c + 1)))), (6, .int ((fun o => bI (wbU (lec u o) == some L) + (mst (H - 2) (ph (lec u o)) L).1) (oc c))), (8, .int ((fun o => bI (wbU (lec u o) == some L) + (mst (H - 2) (ph (lec u o)) L).1) (oc c))), (0, .ref (q 0)), (1, .ref (f 0)), (2, .int (nI L)), (3, .int (nI 1)), (4, .int (nI H)), (5, .ref ((a 1) 0))]) 8 dX1_most_132 rfl (oc_inc c) (by decide) rfl ?_
            refine j_goto (tgt := 35) dX1_most_135 (by decide) ?_
            refine j_lv [3, 4, 5, 6, 7, 8, 1, 0] (lv' := [(0, .ref (q 0)), (1, .ref (f 0)), (2, .int (nI L)), (3, .int (nI 1)), (4, .int (nI H)), (5, .ref ((a 1) 0)), (6, .int ((fun o => bI (wbU (lec u o) == some L) + (mst (H - 2) (ph (lec u o)) L).1) (oc c))), (7, .int (oI (oc (c + 1))))]) rfl ?_
            refine j_perm (fl [lb x q a (hib, fh), nb x f u, nb x (a 1) (ph (lec (cpy u w1) (oc c))), nb x (a 2) y2]) (pm_b [0, 3, 1, 2] rfl rfl) ?_
            refine ih (c + 1) _ (oI (oc c)) _ _ (by omega) ?_ (by (try simp only [nN_ph, nN_lec, nN_cpy, nN_cof, nN_wak, nN_hrs]); omega) hy2 (by omega)
            rw [← hc1, itr_go (n := nN u + 1) (b := c) (by omega)]; exact congrArg (itr (lvS (fun o => bI (wbU (lec u o) == some L) + (mst (H - 2) (ph (lec u o)) L).1) L) (nN u + 1 - (c + 1)) (c + 1)) (by first | (rw [lvS, if_pos hcl]; done) | (rw [lvS, if_neg hcl, if_pos h108]; done) | (rw [lvS, if_neg hcl, if_neg h108]; done))
      · skip
        have hcl := (oc_eq (c := c) (l := L) (by omega) (by omega)).mp h47
        refine j_goto (tgt := 132) dX1_most_50 (by decide) ?_
        refine j_iinc (v := oI (oc (c + 1))) (lv' := [(7, .int (oI (oc (c + 1)))), (0, .ref (q 0)), (1, .ref (f 0)), (2, .int (nI L)), (3, .int (nI 1)), (4, .int (nI H)), (5, .ref ((a 1) 0)), (6, .int s1)]) 7 dX1_most_132 rfl (oc_inc c) (by decide) rfl ?_
        refine j_goto (tgt := 35) dX1_most_135 (by decide) ?_
        refine j_lv [1, 2, 3, 4, 5, 6, 7, 0] (lv' := [(0, .ref (q 0)), (1, .ref (f 0)), (2, .int (nI L)), (3, .int (nI 1)), (4, .int (nI H)), (5, .ref ((a 1) 0)), (6, .int s1), (7, .int (oI (oc (c + 1))))]) rfl ?_
        refine j_perm (fl [lb x q a (hib, fh), nb x f u, nb x (a 1) w1, nb x (a 2) w2]) (pm_b [1, 0, 2, 3] rfl rfl) ?_
        refine ih (c + 1) _ s2 _ _ (by omega) ?_ hc2 hc3 (by omega)
        rw [← hc1, itr_go (n := nN u + 1) (b := c) (by omega)]; exact congrArg (itr (lvS (fun o => bI (wbU (lec u o) == some L) + (mst (H - 2) (ph (lec u o)) L).1) L) (nN u + 1 - (c + 1)) (c + 1)) (by first | (rw [lvS, if_pos hcl]; done) | (rw [lvS, if_neg hcl, if_pos h108]; done) | (rw [lvS, if_neg hcl, if_neg h108]; done))
set_option maxHeartbeats 4000000 in
set_option maxRecDepth 100000 in
theorem tmost1 (l : Launch) (x : Cx) (q : Nat → Nat) (a : Nat → Nat → Nat) (f : Nat → Nat) (u : NS) (hu : nN u ≤ 5) (L : Nat) (hL : L < nN u) (H : Nat) (hH : H ≤ 3) (hib fh : Int32) (w1 : NS) (w2 : NS) (hw1 : nN w1 ≤ 5) (hw2 : nN w2 ≤ 5) : MC l x 6 0 0 yX1_most cX1_most 9 (some .int) [.ref (q 0), .ref (f 0), .int (nI L), .int (nI 1), .int (nI H)] (fl [lb x q a (hib, fh), nb x f u, nb x (a 1) w1, nb x (a 2) w2]) (eX (mst (H - 1) u L).1 (fun ws => ∃ w1' : NS, nN w1' ≤ 5 ∧ ∃ w2' : NS, nN w2' ≤ 5 ∧ ws = fl [lb x q a (hib, fh), nb x f u, nb x (a 1) w1', nb x (a 2) w2'])) := by
  refine MC.of (by decide) (Nat.le_of_ble_eq_true rfl) eXI_fit (fun M => ?_)
  show J M l x cX1_most 9 yX1_most 6 (eX (mst (H - 1) u L).1 (fun ws => ∃ w1' : NS, nN w1' ≤ 5 ∧ ∃ w2' : NS, nN w2' ≤ 5 ∧ ws = fl [lb x q a (hib, fh), nb x f u, nb x (a 1) w1', nb x (a 2) w2'])) 0 0 0 [(0, .ref (q 0)), (1, .ref (f 0)), (2, .int (nI L)), (3, .int (nI 1)), (4, .int (nI H))] [] (fl [lb x q a (hib, fh), nb x f u, nb x (a 1) w1, nb x (a 2) w2])
  by_cases hA : 1 < H
  · skip
    refine j_iload_n 3 dX1_most_0 rfl rfl ?_
    refine j_if_lt (tgt := 19) dX1_most_1 (by decide) (fun h1 => absurd h1 (show ¬ (nI 1 : Int32) < 0 by decide)) (fun h1 => ?_)
    refine j_iload_n 3 dX1_most_4 rfl rfl ?_
    refine j_iload 4 dX1_most_5 rfl ?_
    refine j_icmpN_ge (a := 1) (b := H) (by omega) (by omega) (tgt := 19) dX1_most_7 (by decide) (fun h7 => by omega) (fun h7 => ?_)
    refine j_iload_n 3 dX1_most_10 rfl rfl ?_
    refine j_aload_n 0 dX1_most_11 rfl rfl ?_
    refine j_get (v := .ref (q 1)) 0 dX1_most_12 fX1_11 rfl rfl ?_
    refine j_alen (v := nI 3) 1 3 dX1_most_15 rfl rfl rfl ?_
    refine j_icmpN_lt (a := 1) (b := 3) (by omega) (by omega) (tgt := 21) dX1_most_16 (by decide) (fun h16 => ?_) (fun h16 => by omega)
    refine j_aload_n 0 dX1_most_21 rfl rfl ?_
    refine j_get (v := .ref (q 1)) 0 dX1_most_22 fX1_11 rfl rfl ?_
    refine j_iload_n 3 dX1_most_25 rfl rfl ?_
    refine j_aald (b := a 1 0) (f := fun i => if i < 3 then some (a i 0) else none) 1 dX1_most_26 rfl (vp_in_nI (show 1 < 3 by decide) (by decide)) rfl ?_
    refine j_astore (lv' := [(5, .ref ((a 1) 0)), (0, .ref (q 0)), (1, .ref (f 0)), (2, .int (nI L)), (3, .int (nI 1)), (4, .int (nI H))]) dX1_most_27 (by decide) rfl ?_
    refine j_iconst (v := (-1)) dX1_most_29 (by decide) ?_
    refine j_istore (lv' := [(6, .int (-1)), (5, .ref ((a 1) 0)), (0, .ref (q 0)), (1, .ref (f 0)), (2, .int (nI L)), (3, .int (nI 1)), (4, .int (nI H))]) dX1_most_30 (by decide) rfl ?_
    refine j_iconst (v := (-1)) dX1_most_32 (by decide) ?_
    refine j_istore (lv' := [(7, .int (-1)), (6, .int (-1)), (5, .ref ((a 1) 0)), (0, .ref (q 0)), (1, .ref (f 0)), (2, .int (nI L)), (3, .int (nI 1)), (4, .int (nI H))]) dX1_most_33 (by decide) rfl ?_
    refine j_lv [3, 4, 5, 6, 7, 2, 1, 0] (lv' := [(0, .ref (q 0)), (1, .ref (f 0)), (2, .int (nI L)), (3, .int (nI 1)), (4, .int (nI H)), (5, .ref ((a 1) 0)), (6, .int (-1)), (7, .int (-1))]) rfl ?_
    have e : mst (H - 1) u L = itr (lvS (fun o => bI (wbU (lec u o) == some L) + (mst (H - 2) (ph (lec u o)) L).1) L) (nN u + 1) 0 (-1, -1) := by rw [show H - 1 = (H - 2) + 1 by omega, mst]
    have hl := lp_most1 (M := M) (k0 := 0) (n0 := 0) l x q a f u hu L hL H hH hib (mst (H - 1) u L).1 (mst (H - 1) u L).2 fh hA (nN u + 2) 0 (-1) (-1) w1 w2 (by omega) (by rw [e]; rfl) hw1 hw2 (by omega)
    exact hl
  · skip
    refine j_iload_n 3 dX1_most_0 rfl rfl ?_
    refine j_if_lt (tgt := 19) dX1_most_1 (by decide) (fun h1 => absurd h1 (show ¬ (nI 1 : Int32) < 0 by decide)) (fun h1 => ?_)
    refine j_iload_n 3 dX1_most_4 rfl rfl ?_
    refine j_iload 4 dX1_most_5 rfl ?_
    refine j_icmpN_ge (a := 1) (b := H) (by omega) (by omega) (tgt := 19) dX1_most_7 (by decide) (fun h7 => ?_) (fun h7 => by omega)
    refine j_iconst (v := 0) dX1_most_19 (by decide) ?_
    exact j_iret _ dX1_most_20 (List.Perm.refl _) ⟨by rw [show H - 1 = 0 by omega]; rfl, w1, hw1, w2, hw2, rfl⟩
set_option maxHeartbeats 4000000 in
set_option maxRecDepth 100000 in
theorem lp_most0 {M : Mx} (l : Launch) (x : Cx) (q : Nat → Nat) (a : Nat → Nat → Nat) (f : Nat → Nat) (u : NS) (hu : nN u ≤ 5) (L : Nat) (hL : L < nN u) (H : Nat) (hH : H ≤ 3) (hib r1 r2 : Int32) (hA : 0 < H) {k0 n0 : Nat}  : ∀ (m : Nat) (c : Nat) (s1 s2 : Int32) (w0 : NS) (w1 : NS) (w2 : NS), c ≤ nN u + 1 → itr (lvS (fun o => bI (wbU (lec u o) == some L) + (mst (H - 1) (ph (lec u o)) L).1) L) (nN u + 1 - c) c (s1, s2) = (r1, r2) → nN w0 ≤ 5 → nN w1 ≤ 5 → nN w2 ≤ 5 → nN u + 1 - c < m → J M l x cX1_most 9 yX1_most 7 (eX r1 (fun ws => ∃ w0' : NS, nN w0' ≤ 5 ∧ ∃ w1' : NS, nN w1' ≤ 5 ∧ ∃ w2' : NS, nN w2' ≤ 5 ∧ ws = fl [lb x q a (hib, r2), nb x f u, nb x (a 0) w0', nb x (a 1) w1', nb x (a 2) w2'])) k0 n0 35 [(0, .ref (q 0)), (1, .ref (f 0)), (2, .int (nI L)), (3, .int (nI 0)), (4, .int (nI H)), (5, .ref ((a 0) 0)), (6, .int s1), (7, .int (oI (oc c)))] [] (fl [lb x q a (hib, s2), nb x f u, nb x (a 0) w0, nb x (a 1) w1, nb x (a 2) w2]) := by
  intro m; induction m with
  | zero => intro c s1 s2 w0 w1 w2 hc0 hc1 hc2 hc3 hc4 hm; exact absurd hm (Nat.not_lt_zero _)
  | succ m ih =>
    intro c s1 s2 w0 w1 w2 hc0 hc1 hc2 hc3 hc4 hm
    have hw0 := hc2
    have hw1 := hc3
    have hw2 := hc4
    refine j_iload 7 dX1_most_35 rfl ?_
    refine j_aload_n 1 dX1_most_37 rfl rfl ?_
    refine j_cVi (As := []) (rest := [.int (oI (oc c))]) (wr := fl [lb x q a (hib, s2), nb x (a 0) w0, nb x (a 1) w1, nb x (a 2) w2]) (ws' := fl [nb x f u, lb x q a (hib, s2), nb x (a 0) w0, nb x (a 1) w1, nb x (a 2) w2]) (uX2_lodgers l x f u ) kX2_lodgers 0 rfl rfl rfl vX1_35 dX1_most_38 (by decide) rfl rfl (Nat.le_of_ble_eq_true rfl) (pm_1 1 [0, 2, 3, 4] rfl rfl rfl) rfl ?_
    refine j_icmp_ge (tgt := 138) dX1_most_41 (by decide) (fun h41 => ?_) (fun h41 => ?_)
    · skip
      have hge := (oc_ge (by omega) (by omega)).mp h41
      refine j_iload 6 dX1_most_138 rfl ?_
      refine j_perm (fl [lb x q a (hib, s2), nb x f u, nb x (a 0) w0, nb x (a 1) w1, nb x (a 2) w2]) (pm_b [1, 0, 2, 3, 4] rfl rfl) ?_
      rw [itr_end (n := nN u + 1) (b := c) (by omega)] at hc1; cases hc1
      exact j_iret _ dX1_most_140 (List.Perm.refl _) ⟨rfl, w0, hc2, w1, hc3, w2, hc4, rfl⟩
    · skip
      have hge := mt (oc_ge (n := nN u) (c := c) (by omega) (by omega)).mpr h41
      refine j_iload 7 dX1_most_44 rfl ?_
      refine j_iload_n 2 dX1_most_46 rfl rfl ?_
      refine j_icmp_ne (tgt := 53) dX1_most_47 (by decide) (fun h47 => ?_) (fun h47 => ?_)
      · skip
        have hcl := mt (oc_eq (c := c) (l := L) (by omega) (by omega)).mpr h47
        refine j_aload 5 dX1_most_53 rfl ?_
        refine j_aload_n 1 dX1_most_55 rfl rfl ?_
        refine j_cVv (As := [.ref (f 0)]) (rest := []) (wr := fl [lb x q a (hib, s2), nb x (a 1) w1, nb x (a 2) w2]) (ws' := fl [nb x (a 0) (cpy u w0), nb x f u, lb x q a (hib, s2), nb x (a 1) w1, nb x (a 2) w2]) (uX2_copyFrom l x (a 0) w0 f u (by (try simp only [nN_ph, nN_lec, nN_cpy, nN_cof, nN_wak, nN_hrs]); omega)) kX2_copyFrom 0 rfl rfl rfl vX1_39 dX1_most_56 (by decide) rfl rfl (Nat.le_of_ble_eq_true rfl) (pm_2 2 0 [1, 3, 4] rfl rfl rfl rfl) (List.append_assoc _ _ _) ?_
        refine j_aload 5 dX1_most_59 rfl ?_
        refine j_iload 7 dX1_most_61 rfl ?_
        refine j_cVv (As := [.int (oI (oc c))]) (rest := []) (wr := fl [nb x f u, lb x q a (hib, s2), nb x (a 1) w1, nb x (a 2) w2]) (ws' := fl [nb x (a 0) (lec (cpy u w0) (oc c)), nb x f u, lb x q a (hib, s2), nb x (a 1) w1, nb x (a 2) w2]) (uX2_giveLecture l x (a 0) (cpy u w0) (by (try simp only [nN_ph, nN_lec, nN_cpy, nN_cof, nN_wak, nN_hrs]); omega) (oc c) (fun j e => by rw [nN_cpy]; exact oc_lt (by omega) e)) kX2_giveLecture 0 rfl rfl rfl vX1_43 dX1_most_63 (by decide) rfl rfl (Nat.le_of_ble_eq_true rfl) (pm_1 0 [1, 2, 3, 4] rfl rfl rfl) rfl ?_
        refine j_aload 5 dX1_most_66 rfl ?_
        refine j_cVi (As := []) (rest := []) (wr := fl [nb x f u, lb x q a (hib, s2), nb x (a 1) w1, nb x (a 2) w2]) (ws' := fl [nb x (a 0) (lec (cpy u w0) (oc c)), nb x f u, lb x q a (hib, s2), nb x (a 1) w1, nb x (a 2) w2]) (uX2_whoseBed l x (a 0) (lec (cpy u w0) (oc c)) (by (try simp only [nN_ph, nN_lec, nN_cpy, nN_cof, nN_wak, nN_hrs]); omega)) kX2_whoseBed 0 rfl rfl rfl vX1_47 dX1_most_68 (by decide) rfl rfl (Nat.le_of_ble_eq_true rfl) (pm_1 0 [1, 2, 3, 4] rfl rfl rfl) rfl ?_
        refine j_iload_n 2 dX1_most_71 rfl rfl ?_
        refine j_icmp_ne (tgt := 79) dX1_most_72 (by decide) (fun h72 => ?_) (fun h72 => ?_)
        · skip
          have hx : nN (lec (cpy u w0) (oc c)) = nN u := by rw [nN_lec, nN_cpy]
          have hb : (wbU (lec (cpy u w0) (oc c)) == some L) = false := by
            have : ¬ wbU (lec (cpy u w0) (oc c)) = some L := fun e => h72 ((oI_eq (by omega) (fun j e => by have := wbU_lt e; omega)).mpr e).symm
            simp [this]
          refine j_iconst (v := bI false) dX1_most_79 (by decide) ?_
          refine j_istore (lv' := [(8, .int (bI false)), (0, .ref (q 0)), (1, .ref (f 0)), (2, .int (nI L)), (3, .int (nI 0)), (4, .int (nI H)), (5, .ref ((a 0) 0)), (6, .int s1), (7, .int (oI (oc c)))]) dX1_most_80 (by decide) rfl ?_
          refine j_aload 6 dX1_most_82 rfl ?_
          refine j_cVv (As := []) (rest := []) (wr := fl [nb x f u, lb x q a (hib, s2), nb x (a 1) w1, nb x (a 2) w2]) (ws' := fl [nb x (a 0) (ph (lec (cpy u w0) (oc c))), nb x f u, lb x q a (hib, s2), nb x (a 1) w1, nb x (a 2) w2]) (uX2_passHour l x (a 0) (lec (cpy u w0) (oc c)) (by (try simp only [nN_ph, nN_lec, nN_cpy, nN_cof, nN_wak, nN_hrs]); omega)) kX2_passHour 0 rfl rfl rfl vX1_50 dX1_most_84 (by decide) rfl rfl (Nat.le_of_ble_eq_true rfl) (pm_1 0 [1, 2, 3, 4] rfl rfl rfl) rfl ?_
          refine j_iload 0 dX1_most_87 rfl ?_
          refine j_aload_n 1 dX1_most_89 rfl rfl ?_
          refine j_aload 6 dX1_most_90 rfl ?_
          refine j_iload_n 3 dX1_most_92 rfl rfl ?_
          refine j_iload_n 4 dX1_most_93 rfl rfl ?_
          refine j_iconst (v := 1) dX1_most_94 (by decide) ?_
          refine j_iadd dX1_most_95 ?_
          refine j_topi (b := nI 1) (by decide) ?_
          refine j_iload 5 dX1_most_96 rfl ?_
          refine j_callV (As := [.ref ((a 0) 0), .int (nI L), .int (nI 1), .int (nI H)]) (rest := [.int (bI false)]) (wr := fl [nb x f u]) (tmost1 l x q a (a 0) (ph (lec (cpy u w0) (oc c))) (by (try simp only [nN_ph, nN_lec, nN_cpy, nN_cof, nN_wak, nN_hrs]); omega) L (by (try simp only [nN_ph, nN_lec, nN_cpy, nN_cof, nN_wak, nN_hrs]); omega) H hH hib s2 w1 w2 hw1 hw2) kX1_most vX1_31 0 rfl rfl rfl dX1_most_98 (by decide) (Nat.le_of_eq (Nat.zero_add _)) (Nat.le_of_eq (Nat.zero_add _)) rfl rfl (Nat.le_of_ble_eq_true rfl) (pm_c [2, 0, 3, 4] [1] rfl rfl rfl) (fun v9 w9 hv9 => ?_)
          obtain ⟨rfl, y1, hy1, y2, hy2, rfl⟩ := hv9
          refine j_eq (lv' := [(8, .int (bI false)), (0, .ref (q 0)), (1, .ref (f 0)), (2, .int (nI L)), (3, .int (nI 0)), (4, .int (nI H)), (5, .ref ((a 0) 0)), (6, .int s1), (7, .int (oI (oc c)))]) (st' := [.int ((mst (H - 1) (ph (lec (cpy u w0) (oc c))) L).1), .int (bI false)]) (ws' := fl [lb x q a (hib, s2), nb x (a 0) (ph (lec (cpy u w0) (oc c))), nb x (a 1) y1, nb x (a 2) y2, nb x f u]) rfl rfl (fl_app _ _) ?_
          refine j_iadd dX1_most_101 ?_
          refine j_topi (b := (fun o => bI (wbU (lec u o) == some L) + (mst (H - 1) (ph (lec u o)) L).1) (oc c)) (val_eq (H - 1) u w0 (oc c) L (fun j e => oc_lt (by omega) e) hb) ?_
          refine j_istore (lv' := [(8, .int ((fun o => bI (wbU (lec u o) == some L) + (mst (H - 1) (ph (lec u o)) L).1) (oc c))), (0, .ref (q 0)), (1, .ref (f 0)), (2, .int (nI L)), (3, .int (nI 0)), (4, .int (nI H)), (5, .ref ((a 0) 0)), (6, .int s1), (7, .int (oI (oc c)))]) dX1_most_102 (by decide) rfl ?_
          refine j_iload 0 dX1_most_104 rfl ?_
          refine j_iload 7 dX1_most_106 rfl ?_
          refine j_icmp_le (tgt := 132) dX1_most_108 (by decide) (fun h108 => ?_) (fun h108 => ?_)
          · skip
            refine j_iinc (v := oI (oc (c + 1))) (lv' := [(7, .int (oI (oc (c + 1)))), (8, .int ((fun o => bI (wbU (lec u o) == some L) + (mst (H - 1) (ph (lec u o)) L).1) (oc c))), (0, .ref (q 0)), (1, .ref (f 0)), (2, .int (nI L)), (3, .int (nI 0)), (4, .int (nI H)), (5, .ref ((a 0) 0)), (6, .int s1)]) 8 dX1_most_132 rfl (oc_inc c) (by decide) rfl ?_
            refine j_goto (tgt := 35) dX1_most_135 (by decide) ?_
            refine j_lv [2, 3, 4, 5, 6, 7, 8, 0] (lv' := [(0, .ref (q 0)), (1, .ref (f 0)), (2, .int (nI L)), (3, .int (nI 0)), (4, .int (nI H)), (5, .ref ((a 0) 0)), (6, .int s1), (7, .int (oI (oc (c + 1))))]) rfl ?_
            refine j_perm (fl [lb x q a (hib, s2), nb x f u, nb x (a 0) (ph (lec (cpy u w0) (oc c))), nb x (a 1) y1, nb x (a 2) y2]) (pm_b [0, 4, 1, 2, 3] rfl rfl) ?_
            refine ih (c + 1) _ s2 _ _ _ (by omega) ?_ (by (try simp only [nN_ph, nN_lec, nN_cpy, nN_cof, nN_wak, nN_hrs]); omega) hy1 hy2 (by omega)
            rw [← hc1, itr_go (n := nN u + 1) (b := c) (by omega)]; exact congrArg (itr (lvS (fun o => bI (wbU (lec u o) == some L) + (mst (H - 1) (ph (lec u o)) L).1) L) (nN u + 1 - (c + 1)) (c + 1)) (by first | (rw [lvS, if_pos hcl]; done) | (rw [lvS, if_neg hcl, if_pos h108]; done) | (rw [lvS, if_neg hcl, if_neg h108]; done))
          · skip
            refine j_iload 0 dX1_most_111 rfl ?_
            refine j_istore (lv' := [(6, .int ((fun o => bI (wbU (lec u o) == some L) + (mst (H - 1) (ph (lec u o)) L).1) (oc c))), (8, .int ((fun o => bI (wbU (lec u o) == some L) + (mst (H - 1) (ph (lec u o)) L).1) (oc c))), (0, .ref (q 0)), (1, .ref (f 0)), (2, .int (nI L)), (3, .int (nI 0)), (4, .int (nI H)), (5, .ref ((a 0) 0)), (7, .int (oI (oc c)))]) dX1_most_113 (by decide) rfl ?_
            refine j_aload_n 2 dX1_most_115 rfl rfl ?_
            refine j_iload_n 5 dX1_most_116 rfl rfl ?_
            refine j_if_ne (tgt := 125) dX1_most_117 (by decide) (fun h117 => absurd (show (nI 0 : Int32) = 0 by decide) h117) (fun h117 => ?_)
            refine j_iload 8 dX1_most_120 rfl ?_
            refine j_goto (tgt := 129) dX1_most_122 (by decide) ?_
            refine j_put (v := .int (oI (oc c))) (ws' := fl [lb x q a (hib, oI (oc c)), nb x (a 0) (ph (lec (cpy u w0) (oc c))), nb x (a 1) y1, nb x (a 2) y2, nb x f u]) 0 dX1_most_129 fX1_22 rfl rfl rfl (Nat.le_of_ble_eq_true rfl) rfl ?_
            refine j_iinc (v := oI (oc (c + 1))) (lv' := [(7, .int (oI (oc (c + 1)))), (6, .int ((fun o => bI (wbU (lec u o) == some L) + (mst (H - 1) (ph (lec u o)) L).1) (oc c))), (8, .int ((fun o => bI (wbU (lec u o) == some L) + (mst (H - 1) (ph (lec u o)) L).1) (oc c))), (0, .ref (q 0)), (1, .ref (f 0)), (2, .int (nI L)), (3, .int (nI 0)), (4, .int (nI H)), (5, .ref ((a 0) 0))]) 8 dX1_most_132 rfl (oc_inc c) (by decide) rfl ?_
            refine j_goto (tgt := 35) dX1_most_135 (by decide) ?_
            refine j_lv [3, 4, 5, 6, 7, 8, 1, 0] (lv' := [(0, .ref (q 0)), (1, .ref (f 0)), (2, .int (nI L)), (3, .int (nI 0)), (4, .int (nI H)), (5, .ref ((a 0) 0)), (6, .int ((fun o => bI (wbU (lec u o) == some L) + (mst (H - 1) (ph (lec u o)) L).1) (oc c))), (7, .int (oI (oc (c + 1))))]) rfl ?_
            refine j_perm (fl [lb x q a (hib, oI (oc c)), nb x f u, nb x (a 0) (ph (lec (cpy u w0) (oc c))), nb x (a 1) y1, nb x (a 2) y2]) (pm_b [0, 4, 1, 2, 3] rfl rfl) ?_
            refine ih (c + 1) _ (oI (oc c)) _ _ _ (by omega) ?_ (by (try simp only [nN_ph, nN_lec, nN_cpy, nN_cof, nN_wak, nN_hrs]); omega) hy1 hy2 (by omega)
            rw [← hc1, itr_go (n := nN u + 1) (b := c) (by omega)]; exact congrArg (itr (lvS (fun o => bI (wbU (lec u o) == some L) + (mst (H - 1) (ph (lec u o)) L).1) L) (nN u + 1 - (c + 1)) (c + 1)) (by first | (rw [lvS, if_pos hcl]; done) | (rw [lvS, if_neg hcl, if_pos h108]; done) | (rw [lvS, if_neg hcl, if_neg h108]; done))
        · skip
          have hx : nN (lec (cpy u w0) (oc c)) = nN u := by rw [nN_lec, nN_cpy]
          have hb : (wbU (lec (cpy u w0) (oc c)) == some L) = true := by
            have : wbU (lec (cpy u w0) (oc c)) = some L := (oI_eq (by omega) (fun j e => by have := wbU_lt e; omega)).mp h72.symm
            simp [this]
          refine j_iconst (v := bI true) dX1_most_75 (by decide) ?_
          refine j_goto (tgt := 80) dX1_most_76 (by decide) ?_
          refine j_istore (lv' := [(8, .int (bI true)), (0, .ref (q 0)), (1, .ref (f 0)), (2, .int (nI L)), (3, .int (nI 0)), (4, .int (nI H)), (5, .ref ((a 0) 0)), (6, .int s1), (7, .int (oI (oc c)))]) dX1_most_80 (by decide) rfl ?_
          refine j_aload 6 dX1_most_82 rfl ?_
          refine j_cVv (As := []) (rest := []) (wr := fl [nb x f u, lb x q a (hib, s2), nb x (a 1) w1, nb x (a 2) w2]) (ws' := fl [nb x (a 0) (ph (lec (cpy u w0) (oc c))), nb x f u, lb x q a (hib, s2), nb x (a 1) w1, nb x (a 2) w2]) (uX2_passHour l x (a 0) (lec (cpy u w0) (oc c)) (by (try simp only [nN_ph, nN_lec, nN_cpy, nN_cof, nN_wak, nN_hrs]); omega)) kX2_passHour 0 rfl rfl rfl vX1_50 dX1_most_84 (by decide) rfl rfl (Nat.le_of_ble_eq_true rfl) (pm_1 0 [1, 2, 3, 4] rfl rfl rfl) rfl ?_
          refine j_iload 0 dX1_most_87 rfl ?_
          refine j_aload_n 1 dX1_most_89 rfl rfl ?_
          refine j_aload 6 dX1_most_90 rfl ?_
          refine j_iload_n 3 dX1_most_92 rfl rfl ?_
          refine j_iload_n 4 dX1_most_93 rfl rfl ?_
          refine j_iconst (v := 1) dX1_most_94 (by decide) ?_
          refine j_iadd dX1_most_95 ?_
          refine j_topi (b := nI 1) (by decide) ?_
          refine j_iload 5 dX1_most_96 rfl ?_
          refine j_callV (As := [.ref ((a 0) 0), .int (nI L), .int (nI 1), .int (nI H)]) (rest := [.int (bI true)]) (wr := fl [nb x f u]) (tmost1 l x q a (a 0) (ph (lec (cpy u w0) (oc c))) (by (try simp only [nN_ph, nN_lec, nN_cpy, nN_cof, nN_wak, nN_hrs]); omega) L (by (try simp only [nN_ph, nN_lec, nN_cpy, nN_cof, nN_wak, nN_hrs]); omega) H hH hib s2 w1 w2 hw1 hw2) kX1_most vX1_31 0 rfl rfl rfl dX1_most_98 (by decide) (Nat.le_of_eq (Nat.zero_add _)) (Nat.le_of_eq (Nat.zero_add _)) rfl rfl (Nat.le_of_ble_eq_true rfl) (pm_c [2, 0, 3, 4] [1] rfl rfl rfl) (fun v9 w9 hv9 => ?_)
          obtain ⟨rfl, y1, hy1, y2, hy2, rfl⟩ := hv9
          refine j_eq (lv' := [(8, .int (bI true)), (0, .ref (q 0)), (1, .ref (f 0)), (2, .int (nI L)), (3, .int (nI 0)), (4, .int (nI H)), (5, .ref ((a 0) 0)), (6, .int s1), (7, .int (oI (oc c)))]) (st' := [.int ((mst (H - 1) (ph (lec (cpy u w0) (oc c))) L).1), .int (bI true)]) (ws' := fl [lb x q a (hib, s2), nb x (a 0) (ph (lec (cpy u w0) (oc c))), nb x (a 1) y1, nb x (a 2) y2, nb x f u]) rfl rfl (fl_app _ _) ?_
          refine j_iadd dX1_most_101 ?_
          refine j_topi (b := (fun o => bI (wbU (lec u o) == some L) + (mst (H - 1) (ph (lec u o)) L).1) (oc c)) (val_eq (H - 1) u w0 (oc c) L (fun j e => oc_lt (by omega) e) hb) ?_
          refine j_istore (lv' := [(8, .int ((fun o => bI (wbU (lec u o) == some L) + (mst (H - 1) (ph (lec u o)) L).1) (oc c))), (0, .ref (q 0)), (1, .ref (f 0)), (2, .int (nI L)), (3, .int (nI 0)), (4, .int (nI H)), (5, .ref ((a 0) 0)), (6, .int s1), (7, .int (oI (oc c)))]) dX1_most_102 (by decide) rfl ?_
          refine j_iload 0 dX1_most_104 rfl ?_
          refine j_iload 7 dX1_most_106 rfl ?_
          refine j_icmp_le (tgt := 132) dX1_most_108 (by decide) (fun h108 => ?_) (fun h108 => ?_)
          · skip
            refine j_iinc (v := oI (oc (c + 1))) (lv' := [(7, .int (oI (oc (c + 1)))), (8, .int ((fun o => bI (wbU (lec u o) == some L) + (mst (H - 1) (ph (lec u o)) L).1) (oc c))), (0, .ref (q 0)), (1, .ref (f 0)), (2, .int (nI L)), (3, .int (nI 0)), (4, .int (nI H)), (5, .ref ((a 0) 0)), (6, .int s1)]) 8 dX1_most_132 rfl (oc_inc c) (by decide) rfl ?_
            refine j_goto (tgt := 35) dX1_most_135 (by decide) ?_
            refine j_lv [2, 3, 4, 5, 6, 7, 8, 0] (lv' := [(0, .ref (q 0)), (1, .ref (f 0)), (2, .int (nI L)), (3, .int (nI 0)), (4, .int (nI H)), (5, .ref ((a 0) 0)), (6, .int s1), (7, .int (oI (oc (c + 1))))]) rfl ?_
            refine j_perm (fl [lb x q a (hib, s2), nb x f u, nb x (a 0) (ph (lec (cpy u w0) (oc c))), nb x (a 1) y1, nb x (a 2) y2]) (pm_b [0, 4, 1, 2, 3] rfl rfl) ?_
            refine ih (c + 1) _ s2 _ _ _ (by omega) ?_ (by (try simp only [nN_ph, nN_lec, nN_cpy, nN_cof, nN_wak, nN_hrs]); omega) hy1 hy2 (by omega)
            rw [← hc1, itr_go (n := nN u + 1) (b := c) (by omega)]; exact congrArg (itr (lvS (fun o => bI (wbU (lec u o) == some L) + (mst (H - 1) (ph (lec u o)) L).1) L) (nN u + 1 - (c + 1)) (c + 1)) (by first | (rw [lvS, if_pos hcl]; done) | (rw [lvS, if_neg hcl, if_pos h108]; done) | (rw [lvS, if_neg hcl, if_neg h108]; done))
          · skip
            refine j_iload 0 dX1_most_111 rfl ?_
            refine j_istore (lv' := [(6, .int ((fun o => bI (wbU (lec u o) == some L) + (mst (H - 1) (ph (lec u o)) L).1) (oc c))), (8, .int ((fun o => bI (wbU (lec u o) == some L) + (mst (H - 1) (ph (lec u o)) L).1) (oc c))), (0, .ref (q 0)), (1, .ref (f 0)), (2, .int (nI L)), (3, .int (nI 0)), (4, .int (nI H)), (5, .ref ((a 0) 0)), (7, .int (oI (oc c)))]) dX1_most_113 (by decide) rfl ?_
            refine j_aload_n 2 dX1_most_115 rfl rfl ?_
            refine j_iload_n 5 dX1_most_116 rfl rfl ?_
            refine j_if_ne (tgt := 125) dX1_most_117 (by decide) (fun h117 => absurd (show (nI 0 : Int32) = 0 by decide) h117) (fun h117 => ?_)
            refine j_iload 8 dX1_most_120 rfl ?_
            refine j_goto (tgt := 129) dX1_most_122 (by decide) ?_
            refine j_put (v := .int (oI (oc c))) (ws' := fl [lb x q a (hib, oI (oc c)), nb x (a 0) (ph (lec (cpy u w0) (oc c))), nb x (a 1) y1, nb x (a 2) y2, nb x f u]) 0 dX1_most_129 fX1_22 rfl rfl rfl (Nat.le_of_ble_eq_true rfl) rfl ?_
            refine j_iinc (v := oI (oc (c + 1))) (lv' := [(7, .int (oI (oc (c + 1)))), (6, .int ((fun o => bI (wbU (lec u o) == some L) + (mst (H - 1) (ph (lec u o)) L).1) (oc c))), (8, .int ((fun o => bI (wbU (lec u o) == some L) + (mst (H - 1) (ph (lec u o)) L).1) (oc c))), (0, .ref (q 0)), (1, .ref (f 0)), (2, .int (nI L)), (3, .int (nI 0)), (4, .int (nI H)), (5, .ref ((a 0) 0))]) 8 dX1_most_132 rfl (oc_inc c) (by decide) rfl ?_
            refine j_goto (tgt := 35) dX1_most_135 (by decide) ?_
            refine j_lv [3, 4, 5, 6, 7, 8, 1, 0] (lv' := [(0, .ref (q 0)), (1, .ref (f 0)), (2, .int (nI L)), (3, .int (nI 0)), (4, .int (nI H)), (5, .ref ((a 0) 0)), (6, .int ((fun o => bI (wbU (lec u o) == some L) + (mst (H - 1) (ph (lec u o)) L).1) (oc c))), (7, .int (oI (oc (c + 1))))]) rfl ?_
            refine j_perm (fl [lb x q a (hib, oI (oc c)), nb x f u, nb x (a 0) (ph (lec (cpy u w0) (oc c))), nb x (a 1) y1, nb x (a 2) y2]) (pm_b [0, 4, 1, 2, 3] rfl rfl) ?_
            refine ih (c + 1) _ (oI (oc c)) _ _ _ (by omega) ?_ (by (try simp only [nN_ph, nN_lec, nN_cpy, nN_cof, nN_wak, nN_hrs]); omega) hy1 hy2 (by omega)
            rw [← hc1, itr_go (n := nN u + 1) (b := c) (by omega)]; exact congrArg (itr (lvS (fun o => bI (wbU (lec u o) == some L) + (mst (H - 1) (ph (lec u o)) L).1) L) (nN u + 1 - (c + 1)) (c + 1)) (by first | (rw [lvS, if_pos hcl]; done) | (rw [lvS, if_neg hcl, if_pos h108]; done) | (rw [lvS, if_neg hcl, if_neg h108]; done))
      · skip
        have hcl := (oc_eq (c := c) (l := L) (by omega) (by omega)).mp h47
        refine j_goto (tgt := 132) dX1_most_50 (by decide) ?_
        refine j_iinc (v := oI (oc (c + 1))) (lv' := [(7, .int (oI (oc (c + 1)))), (0, .ref (q 0)), (1, .ref (f 0)), (2, .int (nI L)), (3, .int (nI 0)), (4, .int (nI H)), (5, .ref ((a 0) 0)), (6, .int s1)]) 7 dX1_most_132 rfl (oc_inc c) (by decide) rfl ?_
        refine j_goto (tgt := 35) dX1_most_135 (by decide) ?_
        refine j_lv [1, 2, 3, 4, 5, 6, 7, 0] (lv' := [(0, .ref (q 0)), (1, .ref (f 0)), (2, .int (nI L)), (3, .int (nI 0)), (4, .int (nI H)), (5, .ref ((a 0) 0)), (6, .int s1), (7, .int (oI (oc (c + 1))))]) rfl ?_
        refine j_perm (fl [lb x q a (hib, s2), nb x f u, nb x (a 0) w0, nb x (a 1) w1, nb x (a 2) w2]) (pm_b [1, 0, 2, 3, 4] rfl rfl) ?_
        refine ih (c + 1) _ s2 _ _ _ (by omega) ?_ hc2 hc3 hc4 (by omega)
        rw [← hc1, itr_go (n := nN u + 1) (b := c) (by omega)]; exact congrArg (itr (lvS (fun o => bI (wbU (lec u o) == some L) + (mst (H - 1) (ph (lec u o)) L).1) L) (nN u + 1 - (c + 1)) (c + 1)) (by first | (rw [lvS, if_pos hcl]; done) | (rw [lvS, if_neg hcl, if_pos h108]; done) | (rw [lvS, if_neg hcl, if_neg h108]; done))
set_option maxHeartbeats 4000000 in
set_option maxRecDepth 100000 in
theorem tmost0 (l : Launch) (x : Cx) (q : Nat → Nat) (a : Nat → Nat → Nat) (f : Nat → Nat) (u : NS) (hu : nN u ≤ 5) (L : Nat) (hL : L < nN u) (H : Nat) (hH : H ≤ 3) (hib : Int32) (w0 : NS) (w1 : NS) (w2 : NS) (hw0 : nN w0 ≤ 5) (hw1 : nN w1 ≤ 5) (hw2 : nN w2 ≤ 5) : MC l x 7 0 0 yX1_most cX1_most 9 (some .int) [.ref (q 0), .ref (f 0), .int (nI L), .int (nI 0), .int (nI H)] (fl [lb x q a (hib, (-1)), nb x f u, nb x (a 0) w0, nb x (a 1) w1, nb x (a 2) w2]) (eX (mst H u L).1 (fun ws => ∃ w0' : NS, nN w0' ≤ 5 ∧ ∃ w1' : NS, nN w1' ≤ 5 ∧ ∃ w2' : NS, nN w2' ≤ 5 ∧ ws = fl [lb x q a (hib, (mst H u L).2), nb x f u, nb x (a 0) w0', nb x (a 1) w1', nb x (a 2) w2'])) := by
  refine MC.of (by decide) (Nat.le_of_ble_eq_true rfl) eXI_fit (fun M => ?_)
  show J M l x cX1_most 9 yX1_most 7 (eX (mst H u L).1 (fun ws => ∃ w0' : NS, nN w0' ≤ 5 ∧ ∃ w1' : NS, nN w1' ≤ 5 ∧ ∃ w2' : NS, nN w2' ≤ 5 ∧ ws = fl [lb x q a (hib, (mst H u L).2), nb x f u, nb x (a 0) w0', nb x (a 1) w1', nb x (a 2) w2'])) 0 0 0 [(0, .ref (q 0)), (1, .ref (f 0)), (2, .int (nI L)), (3, .int (nI 0)), (4, .int (nI H))] [] (fl [lb x q a (hib, (-1)), nb x f u, nb x (a 0) w0, nb x (a 1) w1, nb x (a 2) w2])
  by_cases hA : 0 < H
  · skip
    refine j_iload_n 3 dX1_most_0 rfl rfl ?_
    refine j_if_lt (tgt := 19) dX1_most_1 (by decide) (fun h1 => absurd h1 (show ¬ (nI 0 : Int32) < 0 by decide)) (fun h1 => ?_)
    refine j_iload_n 3 dX1_most_4 rfl rfl ?_
    refine j_iload 4 dX1_most_5 rfl ?_
    refine j_icmpN_ge (a := 0) (b := H) (by omega) (by omega) (tgt := 19) dX1_most_7 (by decide) (fun h7 => by omega) (fun h7 => ?_)
    refine j_iload_n 3 dX1_most_10 rfl rfl ?_
    refine j_aload_n 0 dX1_most_11 rfl rfl ?_
    refine j_get (v := .ref (q 1)) 0 dX1_most_12 fX1_11 rfl rfl ?_
    refine j_alen (v := nI 3) 1 3 dX1_most_15 rfl rfl rfl ?_
    refine j_icmpN_lt (a := 0) (b := 3) (by omega) (by omega) (tgt := 21) dX1_most_16 (by decide) (fun h16 => ?_) (fun h16 => by omega)
    refine j_aload_n 0 dX1_most_21 rfl rfl ?_
    refine j_get (v := .ref (q 1)) 0 dX1_most_22 fX1_11 rfl rfl ?_
    refine j_iload_n 3 dX1_most_25 rfl rfl ?_
    refine j_aald (b := a 0 0) (f := fun i => if i < 3 then some (a i 0) else none) 1 dX1_most_26 rfl (vp_in_nI (show 0 < 3 by decide) (by decide)) rfl ?_
    refine j_astore (lv' := [(5, .ref ((a 0) 0)), (0, .ref (q 0)), (1, .ref (f 0)), (2, .int (nI L)), (3, .int (nI 0)), (4, .int (nI H))]) dX1_most_27 (by decide) rfl ?_
    refine j_iconst (v := (-1)) dX1_most_29 (by decide) ?_
    refine j_istore (lv' := [(6, .int (-1)), (5, .ref ((a 0) 0)), (0, .ref (q 0)), (1, .ref (f 0)), (2, .int (nI L)), (3, .int (nI 0)), (4, .int (nI H))]) dX1_most_30 (by decide) rfl ?_
    refine j_iconst (v := (-1)) dX1_most_32 (by decide) ?_
    refine j_istore (lv' := [(7, .int (-1)), (6, .int (-1)), (5, .ref ((a 0) 0)), (0, .ref (q 0)), (1, .ref (f 0)), (2, .int (nI L)), (3, .int (nI 0)), (4, .int (nI H))]) dX1_most_33 (by decide) rfl ?_
    refine j_lv [3, 4, 5, 6, 7, 2, 1, 0] (lv' := [(0, .ref (q 0)), (1, .ref (f 0)), (2, .int (nI L)), (3, .int (nI 0)), (4, .int (nI H)), (5, .ref ((a 0) 0)), (6, .int (-1)), (7, .int (-1))]) rfl ?_
    have e : mst (H - 0) u L = itr (lvS (fun o => bI (wbU (lec u o) == some L) + (mst (H - 1) (ph (lec u o)) L).1) L) (nN u + 1) 0 (-1, -1) := by rw [show H - 0 = (H - 1) + 1 by omega, mst]
    have hl := lp_most0 (M := M) (k0 := 0) (n0 := 0) l x q a f u hu L hL H hH hib (mst (H - 0) u L).1 (mst (H - 0) u L).2 hA (nN u + 2) 0 (-1) (-1) w0 w1 w2 (by omega) (by rw [e]; rfl) hw0 hw1 hw2 (by omega)
    exact hl
  · skip
    refine j_iload_n 3 dX1_most_0 rfl rfl ?_
    refine j_if_lt (tgt := 19) dX1_most_1 (by decide) (fun h1 => absurd h1 (show ¬ (nI 0 : Int32) < 0 by decide)) (fun h1 => ?_)
    refine j_iload_n 3 dX1_most_4 rfl rfl ?_
    refine j_iload 4 dX1_most_5 rfl ?_
    refine j_icmpN_ge (a := 0) (b := H) (by omega) (by omega) (tgt := 19) dX1_most_7 (by decide) (fun h7 => ?_) (fun h7 => by omega)
    refine j_iconst (v := 0) dX1_most_19 (by decide) ?_
    exact j_iret _ dX1_most_20 (List.Perm.refl _) ⟨by rw [show H = 0 by omega]; rfl, w0, hw0, w1, hw1, w2, hw2, by rw [show H = 0 by omega]; rfl⟩
set_option maxHeartbeats 4000000 in
set_option maxRecDepth 100000 in
theorem tX1_make (l : Launch) (x : Cx) (q : Nat → Nat) (a : Nat → Nat → Nat) (f : Nat → Nat) (u : NS) (hu : nN u ≤ 5) (L : Nat) (hL : L < nN u) (H : Nat) (hH : H ≤ 3) (hib fh : Int32) (w0 : NS) (w1 : NS) (w2 : NS) (hw0 : nN w0 ≤ 5) (hw1 : nN w1 ≤ 5) (hw2 : nN w2 ≤ 5) : MC l x 8 0 0 yX1_make cX1_make 4 none [.ref (q 0), .ref (f 0), .int (nI L), .int (nI H)] (fl [lb x q a (hib, fh), nb x f u, nb x (a 0) w0, nb x (a 1) w1, nb x (a 2) w2]) (fun v9 ws => v9 = none ∧ ∃ w0' : NS, nN w0' ≤ 5 ∧ ∃ w1' : NS, nN w1' ≤ 5 ∧ ∃ w2' : NS, nN w2' ≤ 5 ∧ ws = fl [lb x q a ((mst H u L).1, (mst H u L).2), nb x f u, nb x (a 0) w0', nb x (a 1) w1', nb x (a 2) w2']) := by
  refine MC.of (by decide) (Nat.le_of_ble_eq_true rfl) (fun v ws h => Or.inl ⟨rfl, h.1⟩) (fun M => ?_)
  show J M l x cX1_make 4 yX1_make 8 (fun v9 ws => v9 = none ∧ ∃ w0' : NS, nN w0' ≤ 5 ∧ ∃ w1' : NS, nN w1' ≤ 5 ∧ ∃ w2' : NS, nN w2' ≤ 5 ∧ ws = fl [lb x q a ((mst H u L).1, (mst H u L).2), nb x f u, nb x (a 0) w0', nb x (a 1) w1', nb x (a 2) w2']) 0 0 0 [(0, .ref (q 0)), (1, .ref (f 0)), (2, .int (nI L)), (3, .int (nI H))] [] (fl [lb x q a (hib, fh), nb x f u, nb x (a 0) w0, nb x (a 1) w1, nb x (a 2) w2])
  refine j_aload_n 0 dX1_make_0 rfl rfl ?_
  refine j_iconst (v := (-1)) dX1_make_1 (by decide) ?_
  refine j_put (v := .int (-1)) (ws' := fl [lb x q a (hib, (-1)), nb x f u, nb x (a 0) w0, nb x (a 1) w1, nb x (a 2) w2]) 0 dX1_make_2 fX1_22 rfl rfl rfl (Nat.le_of_ble_eq_true rfl) rfl ?_
  refine j_aload_n 0 dX1_make_5 rfl rfl ?_
  refine j_aload_n 0 dX1_make_6 rfl rfl ?_
  refine j_aload_n 1 dX1_make_7 rfl rfl ?_
  refine j_iload_n 2 dX1_make_8 rfl rfl ?_
  refine j_iconst (v := nI 0) dX1_make_9 (by decide) ?_
  refine j_iload_n 3 dX1_make_10 rfl rfl ?_
  refine j_iconst (v := 3) dX1_make_11 (by decide) ?_
  refine j_mmin dX1_make_12 mX1_25 (by decide) (Nat.le_of_ble_eq_true rfl) ?_
  refine j_topi (b := nI H) (by rw [show (3 : Int32) = nI 3 from rfl, mmin_nI (by omega) (by omega), Nat.min_eq_left hH]) ?_
  refine j_callV (As := [.ref (f 0), .int (nI L), .int (nI 0), .int (nI H)]) (rest := [.ref (q 0)]) (wr := fl []) (tmost0 l x q a f u hu L hL H hH hib w0 w1 w2 hw0 hw1 hw2) kX1_most vX1_31 0 rfl rfl rfl dX1_make_15 (by decide) (Nat.le_of_eq (Nat.zero_add _)) (Nat.le_of_eq (Nat.zero_add _)) rfl rfl (Nat.le_of_ble_eq_true rfl) (pm_c [0, 1, 2, 3, 4] [] rfl rfl rfl) (fun v9 w9 hv9 => ?_)
  obtain ⟨rfl, y0, hy0, y1, hy1, y2, hy2, rfl⟩ := hv9
  refine j_eq (lv' := [(0, .ref (q 0)), (1, .ref (f 0)), (2, .int (nI L)), (3, .int (nI H))]) (st' := [.int ((mst H u L).1), .ref (q 0)]) (ws' := fl [lb x q a (hib, (mst H u L).2), nb x f u, nb x (a 0) y0, nb x (a 1) y1, nb x (a 2) y2]) rfl rfl (fl_app _ _) ?_
  refine j_put (v := .int ((mst H u L).1)) (ws' := fl [lb x q a ((mst H u L).1, (mst H u L).2), nb x f u, nb x (a 0) y0, nb x (a 1) y1, nb x (a 2) y2]) 0 dX1_make_18 fX1_18 rfl rfl rfl (Nat.le_of_ble_eq_true rfl) rfl ?_
  exact j_vret _ dX1_make_21 (List.Perm.refl _) ⟨rfl, y0, hy0, y1, hy1, y2, hy2, rfl⟩
