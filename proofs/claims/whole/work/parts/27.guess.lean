set_option maxHeartbeats 4000000 in
set_option maxRecDepth 100000 in
theorem lp_isAsSeen {M : Mx} (l : Launch) (x : Cx) (q w r s : Nat → Nat) (n : Nat) (bits : Int32) (B : Nat → Nat → Int32) (u : NS) (hu : nN u ≤ 5) (v : SS) (hv : v.2.2 ≤ 6) (t : Nat) (ht : t < 10) (bd : Nat → Int32) (hbd : ∀ i, oI (wbU (hrs i u)) = bd i) {k0 n0 : Nat}  : ∀ (m : Nat) (k : Nat), k ≤ 13 → 13 - k < m → J M l x cX0_isAsSeen 5 yX0_isAsSeen 3 (eX (bI (soB v bd 13)) (fun ws => ∃ u' : NS, nN u' ≤ 5 ∧ ws = fl [gb x q w r (n, bits), rowsB x r (up2 B t (mix 13 bd (B t))), nb x w u', sb x s v])) k0 n0 5 [(0, .ref (q 0)), (1, .ref (s 0)), (2, .ref (r t)), (3, .int (bI (soB v bd k))), (4, .int (nI k))] [] (fl [gb x q w r (n, bits), rowsB x r (up2 B t (mix k bd (B t))), nb x w (hrs (k - 1) u), sb x s v]) := by
  intro m; induction m with
  | zero => intro k hc0 hm; exact absurd hm (Nat.not_lt_zero _)
  | succ m ih =>
    intro k hc0 hm
    refine j_iload 4 dX0_isAsSeen_5 rfl ?_
    refine j_aload_n 2 dX0_isAsSeen_7 rfl rfl ?_
    refine j_alen (v := nI 13) (t + 2) 0 dX0_isAsSeen_8 (fr_get ht) rfl rfl ?_
    refine j_icmpN_ge (a := k) (b := 13) (by omega) (by omega) (tgt := 64) dX0_isAsSeen_9 (by decide) (fun h9 => ?_) (fun h9 => ?_)
    · skip
      refine j_iload_n 3 dX0_isAsSeen_64 rfl rfl ?_
      exact j_iret _ dX0_isAsSeen_65 (List.Perm.refl _) ⟨by rw [show k = 13 by omega], hrs (k - 1) u, by rw [nN_hrs]; exact hu, by rw [show k = 13 by omega]⟩
    · skip
      refine j_iload 4 dX0_isAsSeen_12 rfl ?_
      refine j_if_le (tgt := 24) dX0_isAsSeen_14 (by decide) (fun h14 => ?_) (fun h14 => ?_)
      · skip
        have hk0 := nI_le0 (by omega) h14
        refine j_ws (ws' := fl [gb x q w r (n, bits), rowsB x r (up2 B t (mix k bd (B t))), nb x w (hrs k u), sb x s v]) (by rw [show k - 1 = k by omega]) ?_
        refine j_aload_n 2 dX0_isAsSeen_24 rfl rfl ?_
        refine j_iload 4 dX0_isAsSeen_25 rfl ?_
        refine j_aload_n 0 dX0_isAsSeen_27 rfl rfl ?_
        refine j_get (v := .ref (w 0)) 0 dX0_isAsSeen_28 fX0_12 rfl rfl ?_
        refine j_cVi (As := []) (rest := [.int (nI k), .ref (r t)]) (wr := fl [gb x q w r (n, bits), rowsB x r (up2 B t (mix k bd (B t))), sb x s v]) (ws' := fl [nb x w (hrs k u), gb x q w r (n, bits), rowsB x r (up2 B t (mix k bd (B t))), sb x s v]) (uX2_whoseBed l x w (hrs k u) (by (try simp only [nN_ph, nN_lec, nN_cpy, nN_cof, nN_wak, nN_hrs]); omega)) kX2_whoseBed 0 rfl rfl rfl vX0_52 dX0_isAsSeen_31 (by decide) rfl rfl (Nat.le_of_ble_eq_true rfl) (pm_1 2 [0, 1, 3] rfl rfl rfl) rfl ?_
        refine j_topi (b := bd k) (hbd k) ?_
        refine j_perm (fl [gb x q w r (n, bits), rowsB x r (up2 B t (mix k bd (B t))), nb x w (hrs k u), sb x s v]) (pm_b [1, 2, 0, 3] rfl rfl) ?_
        refine j_iastN (i := k) (f := (up2 B t (mix k bd (B t))) t) (ws' := fl [gb x q w r (n, bits), rowsB x r (up2 (up2 B t (mix k bd (B t))) t (upd ((up2 B t (mix k bd (B t))) t) k (bd k))), nb x w (hrs k u), sb x s v]) (t + 2) dX0_isAsSeen_34 (fr_get ht) (by omega) (by decide) (fr_set ht) ?_
        refine j_ws (ws' := fl [gb x q w r (n, bits), rowsB x r (up2 B t (mix (k + 1) bd (B t))), nb x w (hrs k u), sb x s v]) (by rw [up2_s, up2_up2, mix_upd _ _ _ rfl]) ?_
        refine j_iload_n 3 dX0_isAsSeen_35 rfl rfl ?_
        refine j_ifb_eq (b := soB v bd k) (tgt := 56) dX0_isAsSeen_36 (by decide) (fun h36 => ?_) (fun h36 => ?_)
        · skip
          refine j_iconst (v := bI false) dX0_isAsSeen_56 (by decide) ?_
          refine j_istore_n (lv' := [(3, .int (bI false)), (0, .ref (q 0)), (1, .ref (s 0)), (2, .ref (r t)), (4, .int (nI k))]) dX0_isAsSeen_57 rfl (by decide) rfl ?_
          refine j_iinc (v := nI (k + 1)) (lv' := [(4, .int (nI (k + 1))), (3, .int (bI false)), (0, .ref (q 0)), (1, .ref (s 0)), (2, .ref (r t))]) 4 dX0_isAsSeen_58 rfl (nI_1 k) (by decide) rfl ?_
          refine j_goto (tgt := 5) dX0_isAsSeen_61 (by decide) ?_
          refine j_lv [2, 3, 4, 1, 0] (lv' := [(0, .ref (q 0)), (1, .ref (s 0)), (2, .ref (r t)), (3, .int (bI false)), (4, .int (nI (k + 1)))]) rfl ?_
          refine j_lve (lv' := [(0, .ref (q 0)), (1, .ref (s 0)), (2, .ref (r t)), (3, .int (bI (soB v bd (k + 1)))), (4, .int (nI (k + 1)))]) (by first | (simp [soB, h36, h49]; done) | (simp [soB, h36]; done)) ?_
          exact ih (k + 1) (by omega) (by omega)
        · skip
          refine j_aload_n 1 dX0_isAsSeen_39 rfl rfl ?_
          refine j_iload 4 dX0_isAsSeen_40 rfl ?_
          refine j_aload_n 2 dX0_isAsSeen_42 rfl rfl ?_
          refine j_iload 4 dX0_isAsSeen_43 rfl ?_
          refine j_ialdN (i := k) (f := (up2 B t (mix (k + 1) bd (B t))) t) (t + 2) dX0_isAsSeen_45 (fr_get ht) (by omega) (by decide) ?_
          refine j_topi (b := bd k) (by rw [up2_s, mix_in (by omega)]) ?_
          refine j_cVi (As := [.int (nI k), .int (bd k)]) (rest := []) (wr := fl [gb x q w r (n, bits), rowsB x r (up2 B t (mix (k + 1) bd (B t))), nb x w (hrs k u)]) (ws' := fl [sb x s v, gb x q w r (n, bits), rowsB x r (up2 B t (mix (k + 1) bd (B t))), nb x w (hrs k u)]) (uX4_allows l x s v (by omega) (nI k) (bd k)) kX4_allows 0 rfl rfl rfl vX0_55 dX0_isAsSeen_46 (by decide) rfl rfl (Nat.le_of_ble_eq_true rfl) (pm_1 3 [0, 1, 2] rfl rfl rfl) rfl ?_
          refine j_ifb_eq (b := alr v.1 v.2.1 (nI k) (bd k) v.2.2 0) (tgt := 56) dX0_isAsSeen_49 (by decide) (fun h49 => ?_) (fun h49 => ?_)
          · skip
            refine j_iconst (v := bI false) dX0_isAsSeen_56 (by decide) ?_
            refine j_istore_n (lv' := [(3, .int (bI false)), (0, .ref (q 0)), (1, .ref (s 0)), (2, .ref (r t)), (4, .int (nI k))]) dX0_isAsSeen_57 rfl (by decide) rfl ?_
            refine j_iinc (v := nI (k + 1)) (lv' := [(4, .int (nI (k + 1))), (3, .int (bI false)), (0, .ref (q 0)), (1, .ref (s 0)), (2, .ref (r t))]) 4 dX0_isAsSeen_58 rfl (nI_1 k) (by decide) rfl ?_
            refine j_goto (tgt := 5) dX0_isAsSeen_61 (by decide) ?_
            refine j_lv [2, 3, 4, 1, 0] (lv' := [(0, .ref (q 0)), (1, .ref (s 0)), (2, .ref (r t)), (3, .int (bI false)), (4, .int (nI (k + 1)))]) rfl ?_
            refine j_perm (fl [gb x q w r (n, bits), rowsB x r (up2 B t (mix (k + 1) bd (B t))), nb x w (hrs k u), sb x s v]) (pm_b [1, 2, 3, 0] rfl rfl) ?_
            refine j_lve (lv' := [(0, .ref (q 0)), (1, .ref (s 0)), (2, .ref (r t)), (3, .int (bI (soB v bd (k + 1)))), (4, .int (nI (k + 1)))]) (by first | (simp [soB, h36, h49]; done) | (simp [soB, h36]; done)) ?_
            exact ih (k + 1) (by omega) (by omega)
          · skip
            refine j_iconst (v := bI true) dX0_isAsSeen_52 (by decide) ?_
            refine j_goto (tgt := 57) dX0_isAsSeen_53 (by decide) ?_
            refine j_istore_n (lv' := [(3, .int (bI true)), (0, .ref (q 0)), (1, .ref (s 0)), (2, .ref (r t)), (4, .int (nI k))]) dX0_isAsSeen_57 rfl (by decide) rfl ?_
            refine j_iinc (v := nI (k + 1)) (lv' := [(4, .int (nI (k + 1))), (3, .int (bI true)), (0, .ref (q 0)), (1, .ref (s 0)), (2, .ref (r t))]) 4 dX0_isAsSeen_58 rfl (nI_1 k) (by decide) rfl ?_
            refine j_goto (tgt := 5) dX0_isAsSeen_61 (by decide) ?_
            refine j_lv [2, 3, 4, 1, 0] (lv' := [(0, .ref (q 0)), (1, .ref (s 0)), (2, .ref (r t)), (3, .int (bI true)), (4, .int (nI (k + 1)))]) rfl ?_
            refine j_perm (fl [gb x q w r (n, bits), rowsB x r (up2 B t (mix (k + 1) bd (B t))), nb x w (hrs k u), sb x s v]) (pm_b [1, 2, 3, 0] rfl rfl) ?_
            refine j_lve (lv' := [(0, .ref (q 0)), (1, .ref (s 0)), (2, .ref (r t)), (3, .int (bI (soB v bd (k + 1)))), (4, .int (nI (k + 1)))]) (by first | (simp [soB, h36, h49]; done) | (simp [soB, h36]; done)) ?_
            exact ih (k + 1) (by omega) (by omega)
      · skip
        have hk0 := nI_gt0 h14
        refine j_aload_n 0 dX0_isAsSeen_17 rfl rfl ?_
        refine j_get (v := .ref (w 0)) 0 dX0_isAsSeen_18 fX0_12 rfl rfl ?_
        refine j_cVv (As := []) (rest := []) (wr := fl [gb x q w r (n, bits), rowsB x r (up2 B t (mix k bd (B t))), sb x s v]) (ws' := fl [nb x w (ph (hrs (k - 1) u)), gb x q w r (n, bits), rowsB x r (up2 B t (mix k bd (B t))), sb x s v]) (uX2_passHour l x w (hrs (k - 1) u) (by (try simp only [nN_ph, nN_lec, nN_cpy, nN_cof, nN_wak, nN_hrs]); omega)) kX2_passHour 0 rfl rfl rfl vX0_49 dX0_isAsSeen_21 (by decide) rfl rfl (Nat.le_of_ble_eq_true rfl) (pm_1 2 [0, 1, 3] rfl rfl rfl) rfl ?_
        refine j_ws (ws' := fl [nb x w (hrs k u), gb x q w r (n, bits), rowsB x r (up2 B t (mix k bd (B t))), sb x s v]) (by rw [hrs_s hk0]) ?_
        refine j_aload_n 2 dX0_isAsSeen_24 rfl rfl ?_
        refine j_iload 4 dX0_isAsSeen_25 rfl ?_
        refine j_aload_n 0 dX0_isAsSeen_27 rfl rfl ?_
        refine j_get (v := .ref (w 0)) 5 dX0_isAsSeen_28 fX0_12 rfl rfl ?_
        refine j_cVi (As := []) (rest := [.int (nI k), .ref (r t)]) (wr := fl [gb x q w r (n, bits), rowsB x r (up2 B t (mix k bd (B t))), sb x s v]) (ws' := fl [nb x w (hrs k u), gb x q w r (n, bits), rowsB x r (up2 B t (mix k bd (B t))), sb x s v]) (uX2_whoseBed l x w (hrs k u) (by (try simp only [nN_ph, nN_lec, nN_cpy, nN_cof, nN_wak, nN_hrs]); omega)) kX2_whoseBed 0 rfl rfl rfl vX0_52 dX0_isAsSeen_31 (by decide) rfl rfl (Nat.le_of_ble_eq_true rfl) (pm_1 0 [1, 2, 3] rfl rfl rfl) rfl ?_
        refine j_topi (b := bd k) (hbd k) ?_
        refine j_perm (fl [gb x q w r (n, bits), rowsB x r (up2 B t (mix k bd (B t))), nb x w (hrs k u), sb x s v]) (pm_b [1, 2, 0, 3] rfl rfl) ?_
        refine j_iastN (i := k) (f := (up2 B t (mix k bd (B t))) t) (ws' := fl [gb x q w r (n, bits), rowsB x r (up2 (up2 B t (mix k bd (B t))) t (upd ((up2 B t (mix k bd (B t))) t) k (bd k))), nb x w (hrs k u), sb x s v]) (t + 2) dX0_isAsSeen_34 (fr_get ht) (by omega) (by decide) (fr_set ht) ?_
        refine j_ws (ws' := fl [gb x q w r (n, bits), rowsB x r (up2 B t (mix (k + 1) bd (B t))), nb x w (hrs k u), sb x s v]) (by rw [up2_s, up2_up2, mix_upd _ _ _ rfl]) ?_
        refine j_iload_n 3 dX0_isAsSeen_35 rfl rfl ?_
        refine j_ifb_eq (b := soB v bd k) (tgt := 56) dX0_isAsSeen_36 (by decide) (fun h36 => ?_) (fun h36 => ?_)
        · skip
          refine j_iconst (v := bI false) dX0_isAsSeen_56 (by decide) ?_
          refine j_istore_n (lv' := [(3, .int (bI false)), (0, .ref (q 0)), (1, .ref (s 0)), (2, .ref (r t)), (4, .int (nI k))]) dX0_isAsSeen_57 rfl (by decide) rfl ?_
          refine j_iinc (v := nI (k + 1)) (lv' := [(4, .int (nI (k + 1))), (3, .int (bI false)), (0, .ref (q 0)), (1, .ref (s 0)), (2, .ref (r t))]) 4 dX0_isAsSeen_58 rfl (nI_1 k) (by decide) rfl ?_
          refine j_goto (tgt := 5) dX0_isAsSeen_61 (by decide) ?_
          refine j_lv [2, 3, 4, 1, 0] (lv' := [(0, .ref (q 0)), (1, .ref (s 0)), (2, .ref (r t)), (3, .int (bI false)), (4, .int (nI (k + 1)))]) rfl ?_
          refine j_lve (lv' := [(0, .ref (q 0)), (1, .ref (s 0)), (2, .ref (r t)), (3, .int (bI (soB v bd (k + 1)))), (4, .int (nI (k + 1)))]) (by first | (simp [soB, h36, h49]; done) | (simp [soB, h36]; done)) ?_
          exact ih (k + 1) (by omega) (by omega)
        · skip
          refine j_aload_n 1 dX0_isAsSeen_39 rfl rfl ?_
          refine j_iload 4 dX0_isAsSeen_40 rfl ?_
          refine j_aload_n 2 dX0_isAsSeen_42 rfl rfl ?_
          refine j_iload 4 dX0_isAsSeen_43 rfl ?_
          refine j_ialdN (i := k) (f := (up2 B t (mix (k + 1) bd (B t))) t) (t + 2) dX0_isAsSeen_45 (fr_get ht) (by omega) (by decide) ?_
          refine j_topi (b := bd k) (by rw [up2_s, mix_in (by omega)]) ?_
          refine j_cVi (As := [.int (nI k), .int (bd k)]) (rest := []) (wr := fl [gb x q w r (n, bits), rowsB x r (up2 B t (mix (k + 1) bd (B t))), nb x w (hrs k u)]) (ws' := fl [sb x s v, gb x q w r (n, bits), rowsB x r (up2 B t (mix (k + 1) bd (B t))), nb x w (hrs k u)]) (uX4_allows l x s v (by omega) (nI k) (bd k)) kX4_allows 0 rfl rfl rfl vX0_55 dX0_isAsSeen_46 (by decide) rfl rfl (Nat.le_of_ble_eq_true rfl) (pm_1 3 [0, 1, 2] rfl rfl rfl) rfl ?_
          refine j_ifb_eq (b := alr v.1 v.2.1 (nI k) (bd k) v.2.2 0) (tgt := 56) dX0_isAsSeen_49 (by decide) (fun h49 => ?_) (fun h49 => ?_)
          · skip
            refine j_iconst (v := bI false) dX0_isAsSeen_56 (by decide) ?_
            refine j_istore_n (lv' := [(3, .int (bI false)), (0, .ref (q 0)), (1, .ref (s 0)), (2, .ref (r t)), (4, .int (nI k))]) dX0_isAsSeen_57 rfl (by decide) rfl ?_
            refine j_iinc (v := nI (k + 1)) (lv' := [(4, .int (nI (k + 1))), (3, .int (bI false)), (0, .ref (q 0)), (1, .ref (s 0)), (2, .ref (r t))]) 4 dX0_isAsSeen_58 rfl (nI_1 k) (by decide) rfl ?_
            refine j_goto (tgt := 5) dX0_isAsSeen_61 (by decide) ?_
            refine j_lv [2, 3, 4, 1, 0] (lv' := [(0, .ref (q 0)), (1, .ref (s 0)), (2, .ref (r t)), (3, .int (bI false)), (4, .int (nI (k + 1)))]) rfl ?_
            refine j_perm (fl [gb x q w r (n, bits), rowsB x r (up2 B t (mix (k + 1) bd (B t))), nb x w (hrs k u), sb x s v]) (pm_b [1, 2, 3, 0] rfl rfl) ?_
            refine j_lve (lv' := [(0, .ref (q 0)), (1, .ref (s 0)), (2, .ref (r t)), (3, .int (bI (soB v bd (k + 1)))), (4, .int (nI (k + 1)))]) (by first | (simp [soB, h36, h49]; done) | (simp [soB, h36]; done)) ?_
            exact ih (k + 1) (by omega) (by omega)
          · skip
            refine j_iconst (v := bI true) dX0_isAsSeen_52 (by decide) ?_
            refine j_goto (tgt := 57) dX0_isAsSeen_53 (by decide) ?_
            refine j_istore_n (lv' := [(3, .int (bI true)), (0, .ref (q 0)), (1, .ref (s 0)), (2, .ref (r t)), (4, .int (nI k))]) dX0_isAsSeen_57 rfl (by decide) rfl ?_
            refine j_iinc (v := nI (k + 1)) (lv' := [(4, .int (nI (k + 1))), (3, .int (bI true)), (0, .ref (q 0)), (1, .ref (s 0)), (2, .ref (r t))]) 4 dX0_isAsSeen_58 rfl (nI_1 k) (by decide) rfl ?_
            refine j_goto (tgt := 5) dX0_isAsSeen_61 (by decide) ?_
            refine j_lv [2, 3, 4, 1, 0] (lv' := [(0, .ref (q 0)), (1, .ref (s 0)), (2, .ref (r t)), (3, .int (bI true)), (4, .int (nI (k + 1)))]) rfl ?_
            refine j_perm (fl [gb x q w r (n, bits), rowsB x r (up2 B t (mix (k + 1) bd (B t))), nb x w (hrs k u), sb x s v]) (pm_b [1, 2, 3, 0] rfl rfl) ?_
            refine j_lve (lv' := [(0, .ref (q 0)), (1, .ref (s 0)), (2, .ref (r t)), (3, .int (bI (soB v bd (k + 1)))), (4, .int (nI (k + 1)))]) (by first | (simp [soB, h36, h49]; done) | (simp [soB, h36]; done)) ?_
            exact ih (k + 1) (by omega) (by omega)
set_option maxHeartbeats 4000000 in
set_option maxRecDepth 100000 in
theorem tX0_isAsSeen (l : Launch) (x : Cx) (q w r s : Nat → Nat) (n : Nat) (bits : Int32) (B : Nat → Nat → Int32) (u : NS) (hu : nN u ≤ 5) (v : SS) (hv : v.2.2 ≤ 6) (t : Nat) (ht : t < 10) (bd : Nat → Int32) (hbd : ∀ i, oI (wbU (hrs i u)) = bd i) : MC l x 3 0 0 yX0_isAsSeen cX0_isAsSeen 5 (some .boolean) [.ref (q 0), .ref (s 0), .ref (r t)] (fl [gb x q w r (n, bits), rowsB x r B, nb x w u, sb x s v]) (eX (bI (soB v bd 13)) (fun ws => ∃ u' : NS, nN u' ≤ 5 ∧ ws = fl [gb x q w r (n, bits), rowsB x r (up2 B t (mix 13 bd (B t))), nb x w u', sb x s v])) := by
  refine MC.of (by decide) (Nat.le_of_ble_eq_true rfl) eXB_fit (fun M => ?_)
  show J M l x cX0_isAsSeen 5 yX0_isAsSeen 3 (eX (bI (soB v bd 13)) (fun ws => ∃ u' : NS, nN u' ≤ 5 ∧ ws = fl [gb x q w r (n, bits), rowsB x r (up2 B t (mix 13 bd (B t))), nb x w u', sb x s v])) 0 0 0 [(0, .ref (q 0)), (1, .ref (s 0)), (2, .ref (r t))] [] (fl [gb x q w r (n, bits), rowsB x r B, nb x w u, sb x s v])
  refine j_iconst (v := bI true) dX0_isAsSeen_0 (by decide) ?_
  refine j_istore_n (lv' := [(3, .int (bI true)), (0, .ref (q 0)), (1, .ref (s 0)), (2, .ref (r t))]) dX0_isAsSeen_1 rfl (by decide) rfl ?_
  refine j_iconst (v := nI 0) dX0_isAsSeen_2 (by decide) ?_
  refine j_istore (lv' := [(4, .int (nI 0)), (3, .int (bI true)), (0, .ref (q 0)), (1, .ref (s 0)), (2, .ref (r t))]) dX0_isAsSeen_3 (by decide) rfl ?_
  refine j_lv [2, 3, 4, 1, 0] (lv' := [(0, .ref (q 0)), (1, .ref (s 0)), (2, .ref (r t)), (3, .int (bI true)), (4, .int (nI 0))]) rfl ?_
  have hl := lp_isAsSeen (M := M) (k0 := 0) (n0 := 0) l x q w r s n bits B u hu v hv t ht bd hbd 14 0 (by omega) (by omega)
  rw [mix_0, up2_same] at hl
  exact hl
set_option maxHeartbeats 4000000 in
set_option maxRecDepth 100000 in
theorem lp_make {M : Mx} (l : Launch) (x : Cx) (q w r s o : Nat → Nat) (u : NS) (hu : nN u ≤ 5) (v : SS) (hv : v.2.2 ≤ 6) (L : Nat) (hL : L < nN u) {k0 n0 : Nat}  : ∀ (m : Nat) (t : Nat) (B : Nat → Nat → Int32) (wu : NS), t ≤ 10 → (∀ i, i < t → ∀ k, k < 13 → B i k = bed u L i k) → nN wu ≤ 5 → 10 - t < m → J M l x cX0_make 5 yX0_make 4 (fun v9 ws => v9 = none ∧ ∃ (B : Nat → Nat → Int32) (w' : NS), (∀ t, t < 10 → ∀ k, k < 13 → B t k = bed u L t k) ∧ nN w' ≤ 5 ∧ ws = fl [gb x q w r (nN u, bitsU u v L), rowsB x r B, nb x w w', nb x o u, sb x s v]) k0 n0 16 [(0, .ref (q 0)), (1, .ref (o 0)), (2, .ref (s 0)), (3, .int (nI L)), (4, .int (nI t))] [] (fl [gb x q w r (nN u, btF (fun t => soB v (bed u L t) 13) t), rowsB x r B, nb x w wu, nb x o u, sb x s v]) := by
  intro m; induction m with
  | zero => intro t B wu hc0 hc1 hc2 hm; exact absurd hm (Nat.not_lt_zero _)
  | succ m ih =>
    intro t B wu hc0 hc1 hc2 hm
    refine j_iload 4 dX0_make_16 rfl ?_
    refine j_bipush (v := 10) dX0_make_18 (by decide) ?_
    refine j_icmpN_ge (a := t) (b := 10) (by omega) (by omega) (tgt := 75) dX0_make_20 (by decide) (fun h20 => ?_) (fun h20 => ?_)
    · skip
      exact j_vret _ dX0_make_75 (List.Perm.refl _) ⟨rfl, B, wu, fun t' ht' k hk => hc1 t' (by omega) k hk, hc2, by rw [show t = 10 by omega]; rfl⟩
    · skip
      refine j_aload_n 0 dX0_make_23 rfl rfl ?_
      refine j_get (v := .ref (w 0)) 0 dX0_make_24 fX0_12 rfl rfl ?_
      refine j_aload_n 1 dX0_make_27 rfl rfl ?_
      refine j_cVv (As := [.ref (o 0)]) (rest := []) (wr := fl [gb x q w r (nN u, btF (fun t => soB v (bed u L t) 13) t), rowsB x r B, sb x s v]) (ws' := fl [nb x w (cpy u wu), nb x o u, gb x q w r (nN u, btF (fun t => soB v (bed u L t) 13) t), rowsB x r B, sb x s v]) (uX2_copyFrom l x w wu o u (by (try simp only [nN_ph, nN_lec, nN_cpy, nN_cof, nN_wak, nN_hrs]); omega)) kX2_copyFrom 0 rfl rfl rfl vX0_33 dX0_make_28 (by decide) rfl rfl (Nat.le_of_ble_eq_true rfl) (pm_2 2 3 [0, 1, 4] rfl rfl rfl rfl) (List.append_assoc _ _ _) ?_
      refine j_aload_n 0 dX0_make_31 rfl rfl ?_
      refine j_get (v := .ref (w 0)) 10 dX0_make_32 fX0_12 rfl rfl ?_
      refine j_iload_n 3 dX0_make_35 rfl rfl ?_
      refine j_iload 4 dX0_make_36 rfl ?_
      refine j_cVv (As := [.int (nI L), .int (nI t)]) (rest := []) (wr := fl [nb x o u, gb x q w r (nN u, btF (fun t => soB v (bed u L t) 13) t), rowsB x r B, sb x s v]) (ws' := fl [nb x w (wak (cpy u wu) L (nI t)), nb x o u, gb x q w r (nN u, btF (fun t => soB v (bed u L t) 13) t), rowsB x r B, sb x s v]) (uX2_wakeAs l x w (cpy u wu) (by (try simp only [nN_ph, nN_lec, nN_cpy, nN_cof, nN_wak, nN_hrs]); omega) L (by (try simp only [nN_ph, nN_lec, nN_cpy, nN_cof, nN_wak, nN_hrs]); omega) (nI t)) kX2_wakeAs 0 rfl rfl rfl vX0_37 dX0_make_38 (by decide) rfl rfl (Nat.le_of_ble_eq_true rfl) (pm_1 0 [1, 2, 3, 4] rfl rfl rfl) rfl ?_
      refine j_aload_n 0 dX0_make_41 rfl rfl ?_
      refine j_aload_n 2 dX0_make_42 rfl rfl ?_
      refine j_aload_n 0 dX0_make_43 rfl rfl ?_
      refine j_get (v := .ref (q 1)) 10 dX0_make_44 fX0_20 rfl rfl ?_
      refine j_iload 4 dX0_make_47 rfl ?_
      refine j_mald (b := r t) (f := fun i => if i < 10 then some (r i) else none) 11 dX0_make_49 rfl (vp_in_nI (show t < 10 by omega) (by decide)) (by rw [nI_clamp (by omega)]; exact if_pos (show t < 10 by omega)) ?_
      refine j_callV (As := [.ref (s 0), .ref (r t)]) (rest := []) (wr := fl [nb x o u]) (tX0_isAsSeen l x q w r s (nN u) (btF (fun t => soB v (bed u L t) 13) t) B (wak (cpy u wu) L (nI t)) (by (try simp only [nN_ph, nN_lec, nN_cpy, nN_cof, nN_wak, nN_hrs]); omega) v hv t (by omega) (bed u L t) (fun i => (eqN_cpy u wu).dE L t i)) kX0_isAsSeen vX0_41 0 rfl rfl rfl dX0_make_50 (by decide) (Nat.le_of_eq (Nat.zero_add _)) (Nat.le_of_eq (Nat.zero_add _)) rfl rfl (Nat.le_of_ble_eq_true rfl) (pm_c [2, 3, 0, 4] [1] rfl rfl rfl) (fun v9 w9 hv9 => ?_)
      obtain ⟨rfl, w8, hw8, rfl⟩ := hv9
      refine j_eq (lv' := [(0, .ref (q 0)), (1, .ref (o 0)), (2, .ref (s 0)), (3, .int (nI L)), (4, .int (nI t))]) (st' := [.int (bI (soB v (bed u L t) 13))]) (ws' := fl [gb x q w r (nN u, btF (fun t => soB v (bed u L t) 13) t), rowsB x r (up2 B t (mix 13 (bed u L t) (B t))), nb x w w8, sb x s v, nb x o u]) rfl rfl (fl_app _ _) ?_
      refine j_ifb_eq (b := soB v (bed u L t) 13) (tgt := 69) dX0_make_53 (by decide) (fun h53 => ?_) (fun h53 => ?_)
      · skip
        refine j_iinc (v := nI (t + 1)) (lv' := [(4, .int (nI (t + 1))), (0, .ref (q 0)), (1, .ref (o 0)), (2, .ref (s 0)), (3, .int (nI L))]) 4 dX0_make_69 rfl (nI_1 t) (by decide) rfl ?_
        refine j_goto (tgt := 16) dX0_make_72 (by decide) ?_
        refine j_lv [1, 2, 3, 4, 0] (lv' := [(0, .ref (q 0)), (1, .ref (o 0)), (2, .ref (s 0)), (3, .int (nI L)), (4, .int (nI (t + 1)))]) rfl ?_
        refine j_perm (fl [gb x q w r (nN u, btF (fun t => soB v (bed u L t) 13) t), rowsB x r (up2 B t (mix 13 (bed u L t) (B t))), nb x w w8, nb x o u, sb x s v]) (pm_b [0, 1, 2, 4, 3] rfl rfl) ?_
        refine j_ws (ws' := fl [gb x q w r (nN u, btF (fun t => soB v (bed u L t) 13) (t + 1)), rowsB x r (up2 B t (mix 13 (bed u L t) (B t))), nb x w w8, nb x o u, sb x s v]) (by first | (rw [show btF (fun t => soB v (bed u L t) 13) (t + 1) = _ from if_pos h53]; done) | (rw [show btF (fun t => soB v (bed u L t) 13) (t + 1) = _ from if_neg (show ¬ soB v (bed u L t) 13 = true by rw [h53]; decide)]; done)) ?_
        refine ih (t + 1) _ _ (by omega) (fun i hi k hk => ?_) hw8 (by omega)
        by_cases e : i = t
        · subst e; rw [up2_s, mix_in hk]
        · rw [up2_n e]; exact hc1 i (by omega) k hk
      · skip
        refine j_aload_n 0 dX0_make_56 rfl rfl ?_
        refine j_dup dX0_make_57 rfl ?_
        refine j_get (v := .int (btF (fun t => soB v (bed u L t) 13) t)) 0 dX0_make_58 fX0_27 rfl rfl ?_
        refine j_iconst (v := 1) dX0_make_61 (by decide) ?_
        refine j_iload 4 dX0_make_62 rfl ?_
        refine j_ishl dX0_make_64 ?_
        refine j_ior dX0_make_65 ?_
        refine j_put (v := .int ((btF (fun t => soB v (bed u L t) 13) t) ||| (1 <<< ((nI t) &&& 31)))) (ws' := fl [gb x q w r (nN u, (btF (fun t => soB v (bed u L t) 13) t) ||| (1 <<< ((nI t) &&& 31))), rowsB x r (up2 B t (mix 13 (bed u L t) (B t))), nb x w w8, sb x s v, nb x o u]) 0 dX0_make_66 fX0_27 rfl rfl rfl (Nat.le_of_ble_eq_true rfl) rfl ?_
        refine j_iinc (v := nI (t + 1)) (lv' := [(4, .int (nI (t + 1))), (0, .ref (q 0)), (1, .ref (o 0)), (2, .ref (s 0)), (3, .int (nI L))]) 4 dX0_make_69 rfl (nI_1 t) (by decide) rfl ?_
        refine j_goto (tgt := 16) dX0_make_72 (by decide) ?_
        refine j_lv [1, 2, 3, 4, 0] (lv' := [(0, .ref (q 0)), (1, .ref (o 0)), (2, .ref (s 0)), (3, .int (nI L)), (4, .int (nI (t + 1)))]) rfl ?_
        refine j_perm (fl [gb x q w r (nN u, (btF (fun t => soB v (bed u L t) 13) t) ||| (1 <<< ((nI t) &&& 31))), rowsB x r (up2 B t (mix 13 (bed u L t) (B t))), nb x w w8, nb x o u, sb x s v]) (pm_b [0, 1, 2, 4, 3] rfl rfl) ?_
        refine j_ws (ws' := fl [gb x q w r (nN u, btF (fun t => soB v (bed u L t) 13) (t + 1)), rowsB x r (up2 B t (mix 13 (bed u L t) (B t))), nb x w w8, nb x o u, sb x s v]) (by first | (rw [show btF (fun t => soB v (bed u L t) 13) (t + 1) = _ from if_pos h53]; done) | (rw [show btF (fun t => soB v (bed u L t) 13) (t + 1) = _ from if_neg (show ¬ soB v (bed u L t) 13 = true by rw [h53]; decide)]; done)) ?_
        refine ih (t + 1) _ _ (by omega) (fun i hi k hk => ?_) hw8 (by omega)
        by_cases e : i = t
        · subst e; rw [up2_s, mix_in hk]
        · rw [up2_n e]; exact hc1 i (by omega) k hk
set_option maxHeartbeats 4000000 in
set_option maxRecDepth 100000 in
theorem tX0_make (l : Launch) (x : Cx) (q w r s o : Nat → Nat) (u : NS) (hu : nN u ≤ 5) (v : SS) (hv : v.2.2 ≤ 6) (L : Nat) (hL : L < nN u) (n : Nat) (bits : Int32) (B : Nat → Nat → Int32) (wu : NS) (hw : nN wu ≤ 5) : MC l x 4 0 0 yX0_make cX0_make 5 none [.ref (q 0), .ref (o 0), .ref (s 0), .int (nI L)] (fl [gb x q w r (n, bits), rowsB x r B, nb x w wu, nb x o u, sb x s v]) (fun v9 ws => v9 = none ∧ ∃ (B : Nat → Nat → Int32) (w' : NS), (∀ t, t < 10 → ∀ k, k < 13 → B t k = bed u L t k) ∧ nN w' ≤ 5 ∧ ws = fl [gb x q w r (nN u, bitsU u v L), rowsB x r B, nb x w w', nb x o u, sb x s v]) := by
  refine MC.of (by decide) (Nat.le_of_ble_eq_true rfl) (fun v ws h => Or.inl ⟨rfl, h.1⟩) (fun M => ?_)
  show J M l x cX0_make 5 yX0_make 4 (fun v9 ws => v9 = none ∧ ∃ (B : Nat → Nat → Int32) (w' : NS), (∀ t, t < 10 → ∀ k, k < 13 → B t k = bed u L t k) ∧ nN w' ≤ 5 ∧ ws = fl [gb x q w r (nN u, bitsU u v L), rowsB x r B, nb x w w', nb x o u, sb x s v]) 0 0 0 [(0, .ref (q 0)), (1, .ref (o 0)), (2, .ref (s 0)), (3, .int (nI L))] [] (fl [gb x q w r (n, bits), rowsB x r B, nb x w wu, nb x o u, sb x s v])
  refine j_aload_n 0 dX0_make_0 rfl rfl ?_
  refine j_aload_n 1 dX0_make_1 rfl rfl ?_
  refine j_cVi (As := []) (rest := [.ref (q 0)]) (wr := fl [gb x q w r (n, bits), rowsB x r B, nb x w wu, sb x s v]) (ws' := fl [nb x o u, gb x q w r (n, bits), rowsB x r B, nb x w wu, sb x s v]) (uX2_lodgers l x o u ) kX2_lodgers 0 rfl rfl rfl vX0_30 dX0_make_2 (by decide) rfl rfl (Nat.le_of_ble_eq_true rfl) (pm_1 3 [0, 1, 2, 4] rfl rfl rfl) rfl ?_
  refine j_put (v := .int (nI (nN u))) (ws' := fl [nb x o u, gb x q w r (nN u, bits), rowsB x r B, nb x w wu, sb x s v]) 5 dX0_make_5 fX0_23 rfl rfl rfl (Nat.le_of_ble_eq_true rfl) rfl ?_
  refine j_aload_n 0 dX0_make_8 rfl rfl ?_
  refine j_iconst (v := 0) dX0_make_9 (by decide) ?_
  refine j_put (v := .int 0) (ws' := fl [nb x o u, gb x q w r (nN u, 0), rowsB x r B, nb x w wu, sb x s v]) 5 dX0_make_10 fX0_27 rfl rfl rfl (Nat.le_of_ble_eq_true rfl) rfl ?_
  refine j_iconst (v := nI 0) dX0_make_13 (by decide) ?_
  refine j_istore (lv' := [(4, .int (nI 0)), (0, .ref (q 0)), (1, .ref (o 0)), (2, .ref (s 0)), (3, .int (nI L))]) dX0_make_14 (by decide) rfl ?_
  refine j_lv [1, 2, 3, 4, 0] (lv' := [(0, .ref (q 0)), (1, .ref (o 0)), (2, .ref (s 0)), (3, .int (nI L)), (4, .int (nI 0))]) rfl ?_
  refine j_perm (fl [gb x q w r (nN u, 0), rowsB x r B, nb x w wu, nb x o u, sb x s v]) (pm_b [1, 2, 3, 0, 4] rfl rfl) ?_
  exact lp_make l x q w r s o u hu v hv L hL 11 0 B wu (by omega) (fun i hi => absurd hi (Nat.not_lt_zero i)) hw (by omega)
set_option maxHeartbeats 4000000 in
set_option maxRecDepth 100000 in
theorem tX0_possible (l : Launch) (x : Cx) (q w r : Nat → Nat) (n : Nat) (bits : Int32) : MC l x 0 0 0 yX0_possible cX0_possible 1 (some .int) [.ref (q 0)] (gb x q w r (n, bits)) (eI bits (gb x q w r (n, bits))) := by
  refine MC.of (by decide) (Nat.le_of_ble_eq_true rfl) eI_fit (fun M => ?_)
  show J M l x cX0_possible 1 yX0_possible 0 (eI bits (gb x q w r (n, bits))) 0 0 0 [(0, .ref (q 0))] [] (gb x q w r (n, bits))
  refine j_aload_n 0 dX0_possible_0 rfl rfl ?_
  refine j_get (v := .int bits) 0 dX0_possible_1 fX0_27 rfl rfl ?_
  exact j_iret _ dX0_possible_4 (List.Perm.refl _) ⟨by rfl, by rfl⟩
theorem isW_n {k m : Nat} (h : k ≤ m) (hm : m < 2 ^ 31) : isW (nI k) 0 (nI m) = true := by
  rw [isW, decide_eq_true (nI_pos' (show k < 2 ^ 31 by omega)), decide_eq_true ((nI_leI (a := k) (b := m) (by omega) hm).mpr h)]; rfl
set_option maxHeartbeats 4000000 in
set_option maxRecDepth 100000 in
theorem tX0_bedBehind (l : Launch) (x : Cx) (q w r : Nat → Nat) (n : Nat) (hn : n ≤ 5) (bits : Int32) (B : Nat → Nat → Int32) (k : Nat) (hk : k < 13) (t : Nat) (ht : t < 10) : MC l x 1 0 0 yX0_bedBehind cX0_bedBehind 4 (some .int) [.ref (q 0), .int (nI k), .int (nI t)] (fl [gb x q w r (n, bits), rowsB x r B]) (eI (B t k) (fl [gb x q w r (n, bits), rowsB x r B])) := by
  refine MC.of (by decide) (Nat.le_of_ble_eq_true rfl) eI_fit (fun M => ?_)
  show J M l x cX0_bedBehind 4 yX0_bedBehind 1 (eI (B t k) (fl [gb x q w r (n, bits), rowsB x r B])) 0 0 0 [(0, .ref (q 0)), (1, .int (nI k)), (2, .int (nI t))] [] (fl [gb x q w r (n, bits), rowsB x r B])
  refine j_iload_n 1 dX0_bedBehind_0 rfl rfl ?_
  refine j_iconst (v := 0) dX0_bedBehind_1 (by decide) ?_
  refine j_bipush (v := 12) dX0_bedBehind_2 (by decide) ?_
  refine j_cNi (As := [.int (nI k), .int 0, .int 12]) (rest := []) (wr := fl [gb x q w r (n, bits), rowsB x r B]) (ws' := fl [gb x q w r (n, bits), rowsB x r B]) (tX5_isWithin l x (nI k) 0 12) kX5_isWithin nX0_73 dX0_bedBehind_4 (by decide) rfl rfl (Nat.le_of_ble_eq_true rfl) (List.Perm.refl _) rfl ?_
  refine j_ifb_eq (b := isW (nI k) 0 12) (tgt := 24) dX0_bedBehind_7 (by decide) (fun h7 => absurd h7 (by rw [show isW (nI k) 0 12 = true from isW_n (show k ≤ 12 by omega) (by decide)]; decide)) (fun h7 => ?_)
  refine j_iload_n 2 dX0_bedBehind_10 rfl rfl ?_
  refine j_iconst (v := 0) dX0_bedBehind_11 (by decide) ?_
  refine j_bipush (v := 9) dX0_bedBehind_12 (by decide) ?_
  refine j_cNi (As := [.int (nI t), .int 0, .int 9]) (rest := []) (wr := fl [gb x q w r (n, bits), rowsB x r B]) (ws' := fl [gb x q w r (n, bits), rowsB x r B]) (tX5_isWithin l x (nI t) 0 9) kX5_isWithin nX0_73 dX0_bedBehind_14 (by decide) rfl rfl (Nat.le_of_ble_eq_true rfl) (List.Perm.refl _) rfl ?_
  refine j_ifb_eq (b := isW (nI t) 0 9) (tgt := 24) dX0_bedBehind_17 (by decide) (fun h17 => absurd h17 (by rw [show isW (nI t) 0 9 = true from isW_n (show t ≤ 9 by omega) (by decide)]; decide)) (fun h17 => ?_)
  refine j_iconst (v := bI true) dX0_bedBehind_20 (by decide) ?_
  refine j_goto (tgt := 25) dX0_bedBehind_21 (by decide) ?_
  refine j_istore_n (lv' := [(3, .int (bI true)), (0, .ref (q 0)), (1, .int (nI k)), (2, .int (nI t))]) dX0_bedBehind_25 rfl (by decide) rfl ?_
  refine j_iload_n 0 dX0_bedBehind_26 rfl rfl ?_
  refine j_ifb_eq (b := true) (tgt := 41) dX0_bedBehind_27 (by decide) (fun h27 => absurd h27 (by decide)) (fun h27 => ?_)
  refine j_aload_n 1 dX0_bedBehind_30 rfl rfl ?_
  refine j_get (v := .ref (q 1)) 0 dX0_bedBehind_31 fX0_20 rfl rfl ?_
  refine j_iload_n 3 dX0_bedBehind_34 rfl rfl ?_
  refine j_mald (b := r t) (f := fun i => if i < 10 then some (r i) else none) 1 dX0_bedBehind_35 rfl (vp_in_nI ht (by decide)) (by rw [nI_clamp (by omega)]; exact if_pos ht) ?_
  refine j_iload_n 2 dX0_bedBehind_36 rfl rfl ?_
  refine j_ialdN (i := k) (f := B t) (t + 2) dX0_bedBehind_37 (fr_get ht) hk (by decide) ?_
  refine j_goto (tgt := 42) dX0_bedBehind_38 (by decide) ?_
  exact j_iret _ dX0_bedBehind_42 (List.Perm.refl _) ⟨by rfl, by rfl⟩
set_option maxHeartbeats 4000000 in
set_option maxRecDepth 100000 in
theorem lp_leftBy {M : Mx} (l : Launch) (x : Cx) (q w r : Nat → Nat) (n : Nat) (hn : n ≤ 5) (bits : Int32) (B : Nat → Nat → Int32) (k : Nat) (hk : k < 13) (b : Int32) {k0 n0 : Nat}  : ∀ (m : Nat) (t : Nat), t ≤ 10 → 10 - t < m → J M l x cX0_leftBy 6 yX0_leftBy 2 (eI (nI (lefB bits (fun t => B t k) b 10)) (fl [gb x q w r (n, bits), rowsB x r B])) k0 n0 5 [(0, .ref (q 0)), (1, .int (nI k)), (2, .int b), (3, .int (nI (lefB bits (fun t => B t k) b t))), (4, .int (nI t))] [] (fl [gb x q w r (n, bits), rowsB x r B]) := by
  intro m; induction m with
  | zero => intro t hc0 hm; exact absurd hm (Nat.not_lt_zero _)
  | succ m ih =>
    intro t hc0 hm
    refine j_iload 4 dX0_leftBy_5 rfl ?_
    refine j_bipush (v := 10) dX0_leftBy_7 (by decide) ?_
    refine j_icmpN_ge (a := t) (b := 10) (by omega) (by omega) (tgt := 62) dX0_leftBy_9 (by decide) (fun h9 => ?_) (fun h9 => ?_)
    · skip
      refine j_iload_n 3 dX0_leftBy_62 rfl rfl ?_
      exact j_iret _ dX0_leftBy_63 (List.Perm.refl _) ⟨by rw [show t = 10 by omega], rfl⟩
    · skip
      refine j_aload_n 0 dX0_leftBy_12 rfl rfl ?_
      refine j_get (v := .int bits) 0 dX0_leftBy_13 fX0_27 rfl rfl ?_
      refine j_iload 4 dX0_leftBy_16 rfl ?_
      refine j_ishr dX0_leftBy_18 ?_
      refine j_iconst (v := 1) dX0_leftBy_19 (by decide) ?_
      refine j_iand dX0_leftBy_20 ?_
      refine j_iconst (v := 1) dX0_leftBy_21 (by decide) ?_
      refine j_icmp_ne (tgt := 29) dX0_leftBy_22 (by decide) (fun h22 => ?_) (fun h22 => ?_)
      · skip
        refine j_iconst (v := bI false) dX0_leftBy_29 (by decide) ?_
        refine j_istore (lv' := [(5, .int (bI false)), (0, .ref (q 0)), (1, .int (nI k)), (2, .int b), (3, .int (nI (lefB bits (fun t => B t k) b t))), (4, .int (nI t))]) dX0_leftBy_30 (by decide) rfl ?_
        refine j_iload_n 4 dX0_leftBy_32 rfl rfl ?_
        refine j_iload 0 dX0_leftBy_33 rfl ?_
        refine j_ifb_eq (b := false) (tgt := 53) dX0_leftBy_35 (by decide) (fun h35 => ?_) (fun h35 => absurd h35 (by decide))
        refine j_iconst (v := 0) dX0_leftBy_53 (by decide) ?_
        refine j_iadd dX0_leftBy_54 ?_
        refine j_topi (b := nI (lefB bits (fun t => B t k) b (t + 1))) (by first | (rw [lefB, if_pos ⟨h22, h46⟩]; exact nI_add _ 1) | (rw [lefB, if_neg (fun e => h46 e.2)]; exact nI_add _ 0) | (rw [lefB, if_neg (fun e => h22 e.1)]; exact nI_add _ 0)) ?_
        refine j_istore_n (lv' := [(3, .int (nI (lefB bits (fun t => B t k) b (t + 1)))), (5, .int (bI false)), (0, .ref (q 0)), (1, .int (nI k)), (2, .int b), (4, .int (nI t))]) dX0_leftBy_55 rfl (by decide) rfl ?_
        refine j_iinc (v := nI (t + 1)) (lv' := [(4, .int (nI (t + 1))), (3, .int (nI (lefB bits (fun t => B t k) b (t + 1)))), (5, .int (bI false)), (0, .ref (q 0)), (1, .int (nI k)), (2, .int b)]) 5 dX0_leftBy_56 rfl (nI_1 t) (by decide) rfl ?_
        refine j_goto (tgt := 5) dX0_leftBy_59 (by decide) ?_
        refine j_lv [3, 4, 5, 1, 0] (lv' := [(0, .ref (q 0)), (1, .int (nI k)), (2, .int b), (3, .int (nI (lefB bits (fun t => B t k) b (t + 1)))), (4, .int (nI (t + 1)))]) rfl ?_
        exact ih (t + 1) (by omega) (by omega)
      · skip
        refine j_iconst (v := bI true) dX0_leftBy_25 (by decide) ?_
        refine j_goto (tgt := 30) dX0_leftBy_26 (by decide) ?_
        refine j_istore (lv' := [(5, .int (bI true)), (0, .ref (q 0)), (1, .int (nI k)), (2, .int b), (3, .int (nI (lefB bits (fun t => B t k) b t))), (4, .int (nI t))]) dX0_leftBy_30 (by decide) rfl ?_
        refine j_iload_n 4 dX0_leftBy_32 rfl rfl ?_
        refine j_iload 0 dX0_leftBy_33 rfl ?_
        refine j_ifb_eq (b := true) (tgt := 53) dX0_leftBy_35 (by decide) (fun h35 => absurd h35 (by decide)) (fun h35 => ?_)
        refine j_aload_n 1 dX0_leftBy_38 rfl rfl ?_
        refine j_iload_n 2 dX0_leftBy_39 rfl rfl ?_
        refine j_iload 5 dX0_leftBy_40 rfl ?_
        refine j_cVi (As := [.int (nI k), .int (nI t)]) (rest := [.int (nI (lefB bits (fun t => B t k) b t))]) (wr := []) (ws' := fl [gb x q w r (n, bits), rowsB x r B]) (tX0_bedBehind l x q w r n hn bits B k hk t (by omega)) kX0_bedBehind 0 rfl rfl rfl vX0_70 dX0_leftBy_42 (by decide) rfl rfl (Nat.le_of_ble_eq_true rfl) (pm_0 _) (List.append_nil _) ?_
        refine j_iload_n 3 dX0_leftBy_45 rfl rfl ?_
        refine j_icmp_ne (tgt := 53) dX0_leftBy_46 (by decide) (fun h46 => ?_) (fun h46 => ?_)
        · skip
          refine j_iconst (v := 0) dX0_leftBy_53 (by decide) ?_
          refine j_iadd dX0_leftBy_54 ?_
          refine j_topi (b := nI (lefB bits (fun t => B t k) b (t + 1))) (by first | (rw [lefB, if_pos ⟨h22, h46⟩]; exact nI_add _ 1) | (rw [lefB, if_neg (fun e => h46 e.2)]; exact nI_add _ 0) | (rw [lefB, if_neg (fun e => h22 e.1)]; exact nI_add _ 0)) ?_
          refine j_istore_n (lv' := [(3, .int (nI (lefB bits (fun t => B t k) b (t + 1)))), (5, .int (bI true)), (0, .ref (q 0)), (1, .int (nI k)), (2, .int b), (4, .int (nI t))]) dX0_leftBy_55 rfl (by decide) rfl ?_
          refine j_iinc (v := nI (t + 1)) (lv' := [(4, .int (nI (t + 1))), (3, .int (nI (lefB bits (fun t => B t k) b (t + 1)))), (5, .int (bI true)), (0, .ref (q 0)), (1, .int (nI k)), (2, .int b)]) 5 dX0_leftBy_56 rfl (nI_1 t) (by decide) rfl ?_
          refine j_goto (tgt := 5) dX0_leftBy_59 (by decide) ?_
          refine j_lv [3, 4, 5, 1, 0] (lv' := [(0, .ref (q 0)), (1, .int (nI k)), (2, .int b), (3, .int (nI (lefB bits (fun t => B t k) b (t + 1)))), (4, .int (nI (t + 1)))]) rfl ?_
          exact ih (t + 1) (by omega) (by omega)
        · skip
          refine j_iconst (v := 1) dX0_leftBy_49 (by decide) ?_
          refine j_goto (tgt := 54) dX0_leftBy_50 (by decide) ?_
          refine j_iadd dX0_leftBy_54 ?_
          refine j_topi (b := nI (lefB bits (fun t => B t k) b (t + 1))) (by first | (rw [lefB, if_pos ⟨h22, h46⟩]; exact nI_add _ 1) | (rw [lefB, if_neg (fun e => h46 e.2)]; exact nI_add _ 0) | (rw [lefB, if_neg (fun e => h22 e.1)]; exact nI_add _ 0)) ?_
          refine j_istore_n (lv' := [(3, .int (nI (lefB bits (fun t => B t k) b (t + 1)))), (5, .int (bI true)), (0, .ref (q 0)), (1, .int (nI k)), (2, .int b), (4, .int (nI t))]) dX0_leftBy_55 rfl (by decide) rfl ?_
          refine j_iinc (v := nI (t + 1)) (lv' := [(4, .int (nI (t + 1))), (3, .int (nI (lefB bits (fun t => B t k) b (t + 1)))), (5, .int (bI true)), (0, .ref (q 0)), (1, .int (nI k)), (2, .int b)]) 5 dX0_leftBy_56 rfl (nI_1 t) (by decide) rfl ?_
          refine j_goto (tgt := 5) dX0_leftBy_59 (by decide) ?_
          refine j_lv [3, 4, 5, 1, 0] (lv' := [(0, .ref (q 0)), (1, .int (nI k)), (2, .int b), (3, .int (nI (lefB bits (fun t => B t k) b (t + 1)))), (4, .int (nI (t + 1)))]) rfl ?_
          exact ih (t + 1) (by omega) (by omega)
set_option maxHeartbeats 4000000 in
set_option maxRecDepth 100000 in
theorem tX0_leftBy (l : Launch) (x : Cx) (q w r : Nat → Nat) (n : Nat) (hn : n ≤ 5) (bits : Int32) (B : Nat → Nat → Int32) (k : Nat) (hk : k < 13) (b : Int32) : MC l x 2 0 0 yX0_leftBy cX0_leftBy 6 (some .int) [.ref (q 0), .int (nI k), .int b] (fl [gb x q w r (n, bits), rowsB x r B]) (eI (nI (lefB bits (fun t => B t k) b 10)) (fl [gb x q w r (n, bits), rowsB x r B])) := by
  refine MC.of (by decide) (Nat.le_of_ble_eq_true rfl) eI_fit (fun M => ?_)
  show J M l x cX0_leftBy 6 yX0_leftBy 2 (eI (nI (lefB bits (fun t => B t k) b 10)) (fl [gb x q w r (n, bits), rowsB x r B])) 0 0 0 [(0, .ref (q 0)), (1, .int (nI k)), (2, .int b)] [] (fl [gb x q w r (n, bits), rowsB x r B])
  refine j_iconst (v := nI 0) dX0_leftBy_0 (by decide) ?_
  refine j_istore_n (lv' := [(3, .int (nI 0)), (0, .ref (q 0)), (1, .int (nI k)), (2, .int b)]) dX0_leftBy_1 rfl (by decide) rfl ?_
  refine j_iconst (v := nI 0) dX0_leftBy_2 (by decide) ?_
  refine j_istore (lv' := [(4, .int (nI 0)), (3, .int (nI 0)), (0, .ref (q 0)), (1, .int (nI k)), (2, .int b)]) dX0_leftBy_3 (by decide) rfl ?_
  refine j_lv [2, 3, 4, 1, 0] (lv' := [(0, .ref (q 0)), (1, .int (nI k)), (2, .int b), (3, .int (nI 0)), (4, .int (nI 0))]) rfl ?_
  exact lp_leftBy l x q w r n hn bits B k hk b 11 0 (by omega) (by omega)
set_option maxHeartbeats 4000000 in
set_option maxRecDepth 100000 in
theorem lp_leftAtWorst {M : Mx} (l : Launch) (x : Cx) (q w r : Nat → Nat) (n : Nat) (hn : n ≤ 5) (bits : Int32) (B : Nat → Nat → Int32) (k : Nat) (hk : k < 13) {k0 n0 : Nat}  : ∀ (m : Nat) (c : Nat), c ≤ n + 1 → n + 1 - c < m → J M l x cX0_leftAtWorst 4 yX0_leftAtWorst 3 (eI (nI (worB bits (fun t => B t k) (n + 1))) (fl [gb x q w r (n, bits), rowsB x r B])) k0 n0 4 [(0, .ref (q 0)), (1, .int (nI k)), (2, .int (nI (worB bits (fun t => B t k) c))), (3, .int (oI (oc c)))] [] (fl [gb x q w r (n, bits), rowsB x r B]) := by
  intro m; induction m with
  | zero => intro c hc0 hm; exact absurd hm (Nat.not_lt_zero _)
  | succ m ih =>
    intro c hc0 hm
    refine j_iload_n 3 dX0_leftAtWorst_4 rfl rfl ?_
    refine j_aload_n 0 dX0_leftAtWorst_5 rfl rfl ?_
    refine j_get (v := .int (nI n)) 0 dX0_leftAtWorst_6 fX0_23 rfl rfl ?_
    refine j_icmp_ge (tgt := 29) dX0_leftAtWorst_9 (by decide) (fun h9 => ?_) (fun h9 => ?_)
    · skip
      have hge := (oc_ge (by omega) (by omega)).mp h9
      refine j_iload_n 2 dX0_leftAtWorst_29 rfl rfl ?_
      exact j_iret _ dX0_leftAtWorst_30 (List.Perm.refl _) ⟨by rw [show c = n + 1 by omega], by rfl⟩
    · skip
      have hge := mt (oc_ge (n := n) (c := c) (by omega) (by omega)).mpr h9
      refine j_iload_n 2 dX0_leftAtWorst_12 rfl rfl ?_
      refine j_aload_n 0 dX0_leftAtWorst_13 rfl rfl ?_
      refine j_iload_n 1 dX0_leftAtWorst_14 rfl rfl ?_
      refine j_iload_n 3 dX0_leftAtWorst_15 rfl rfl ?_
      refine j_cVi (As := [.int (nI k), .int (oI (oc c))]) (rest := [.int (nI (worB bits (fun t => B t k) c))]) (wr := []) (ws' := fl [gb x q w r (n, bits), rowsB x r B]) (tX0_leftBy l x q w r n hn bits B k (by omega) (oI (oc c))) kX0_leftBy 0 rfl rfl rfl vX0_61 dX0_leftAtWorst_16 (by decide) rfl rfl (Nat.le_of_ble_eq_true rfl) (pm_0 _) (List.append_nil _) ?_
      refine j_mmax dX0_leftAtWorst_19 mX0_65 (by decide) (Nat.le_of_ble_eq_true rfl) ?_
      refine j_topi (b := nI (worB bits (fun t => B t k) (c + 1))) (mmax_nI (by have := worB_le bits (fun t => B t k) c; omega) (by have := lefB_le bits (fun t => B t k) (oI (oc c)) 10; omega)) ?_
      refine j_istore_n (lv' := [(2, .int (nI (worB bits (fun t => B t k) (c + 1)))), (0, .ref (q 0)), (1, .int (nI k)), (3, .int (oI (oc c)))]) dX0_leftAtWorst_22 rfl (by decide) rfl ?_
      refine j_iinc (v := oI (oc (c + 1))) (lv' := [(3, .int (oI (oc (c + 1)))), (2, .int (nI (worB bits (fun t => B t k) (c + 1)))), (0, .ref (q 0)), (1, .int (nI k))]) 3 dX0_leftAtWorst_23 rfl (oc_inc c) (by decide) rfl ?_
      refine j_goto (tgt := 4) dX0_leftAtWorst_26 (by decide) ?_
      refine j_lv [2, 3, 1, 0] (lv' := [(0, .ref (q 0)), (1, .int (nI k)), (2, .int (nI (worB bits (fun t => B t k) (c + 1)))), (3, .int (oI (oc (c + 1))))]) rfl ?_
      exact ih (c + 1) (by omega) (by omega)
set_option maxHeartbeats 4000000 in
set_option maxRecDepth 100000 in
theorem tX0_leftAtWorst (l : Launch) (x : Cx) (q w r : Nat → Nat) (n : Nat) (hn : n ≤ 5) (bits : Int32) (B : Nat → Nat → Int32) (k : Nat) (hk : k < 13) : MC l x 3 0 0 yX0_leftAtWorst cX0_leftAtWorst 4 (some .int) [.ref (q 0), .int (nI k)] (fl [gb x q w r (n, bits), rowsB x r B]) (eI (nI (worB bits (fun t => B t k) (n + 1))) (fl [gb x q w r (n, bits), rowsB x r B])) := by
  refine MC.of (by decide) (Nat.le_of_ble_eq_true rfl) eI_fit (fun M => ?_)
  show J M l x cX0_leftAtWorst 4 yX0_leftAtWorst 3 (eI (nI (worB bits (fun t => B t k) (n + 1))) (fl [gb x q w r (n, bits), rowsB x r B])) 0 0 0 [(0, .ref (q 0)), (1, .int (nI k))] [] (fl [gb x q w r (n, bits), rowsB x r B])
  refine j_iconst (v := nI 0) dX0_leftAtWorst_0 (by decide) ?_
  refine j_istore_n (lv' := [(2, .int (nI 0)), (0, .ref (q 0)), (1, .int (nI k))]) dX0_leftAtWorst_1 rfl (by decide) rfl ?_
  refine j_iconst (v := (-1)) dX0_leftAtWorst_2 (by decide) ?_
  refine j_istore_n (lv' := [(3, .int (-1)), (2, .int (nI 0)), (0, .ref (q 0)), (1, .int (nI k))]) dX0_leftAtWorst_3 rfl (by decide) rfl ?_
  refine j_lv [2, 3, 1, 0] (lv' := [(0, .ref (q 0)), (1, .int (nI k)), (2, .int (nI 0)), (3, .int (-1))]) rfl ?_
  exact lp_leftAtWorst l x q w r n hn bits B k hk (n + 2) 0 (by omega) (by omega)
set_option maxHeartbeats 4000000 in
set_option maxRecDepth 100000 in
theorem lp_bestLook {M : Mx} (l : Launch) (x : Cx) (q w r : Nat → Nat) (n : Nat) (hn : n ≤ 5) (bits : Int32) (B : Nat → Nat → Int32) (rr : Int32) {k0 n0 : Nat}  : ∀ (m : Nat) (k : Nat) (s1 : Int32) (s2 : Nat), k ≤ 13 → (itr (lokS bits B n) (13 - k) k (s1, s2)).1 = rr → s2 ≤ 11 → 13 - k < m → J M l x cX0_bestLook 5 yX0_bestLook 4 (eI rr (fl [gb x q w r (n, bits), rowsB x r B])) k0 n0 16 [(0, .ref (q 0)), (1, .int s1), (2, .int (nI s2)), (3, .int (nI k))] [] (fl [gb x q w r (n, bits), rowsB x r B]) := by
  intro m; induction m with
  | zero => intro k s1 s2 hc0 hc1 hc2 hm; exact absurd hm (Nat.not_lt_zero _)
  | succ m ih =>
    intro k s1 s2 hc0 hc1 hc2 hm
    have hwb := worB_le bits (fun t => B t k) (n + 1)
    refine j_iload_n 3 dX0_bestLook_16 rfl rfl ?_
    refine j_bipush (v := 13) dX0_bestLook_17 (by decide) ?_
    refine j_icmpN_ge (a := k) (b := 13) (by omega) (by omega) (tgt := 46) dX0_bestLook_19 (by decide) (fun h19 => ?_) (fun h19 => ?_)
    · skip
      refine j_iload_n 1 dX0_bestLook_46 rfl rfl ?_
      exact j_iret _ dX0_bestLook_47 (List.Perm.refl _) ⟨by rw [← hc1, itr_end (n := 13) (b := k) (by omega)], rfl⟩
    · skip
      refine j_aload_n 0 dX0_bestLook_22 rfl rfl ?_
      refine j_iload_n 3 dX0_bestLook_23 rfl rfl ?_
      refine j_cVi (As := [.int (nI k)]) (rest := []) (wr := []) (ws' := fl [gb x q w r (n, bits), rowsB x r B]) (tX0_leftAtWorst l x q w r n hn bits B k (by omega)) kX0_leftAtWorst 0 rfl rfl rfl vX0_45 dX0_bestLook_24 (by decide) rfl rfl (Nat.le_of_ble_eq_true rfl) (pm_0 _) (List.append_nil _) ?_
      refine j_istore (lv' := [(4, .int (nI (worB bits (fun t => B t k) (n + 1)))), (0, .ref (q 0)), (1, .int s1), (2, .int (nI s2)), (3, .int (nI k))]) dX0_bestLook_27 (by decide) rfl ?_
      refine j_iload 0 dX0_bestLook_29 rfl ?_
      refine j_iload_n 3 dX0_bestLook_31 rfl rfl ?_
      refine j_icmpN_ge (a := worB bits (fun t => B t k) (n + 1)) (b := s2) (by omega) (by omega) (tgt := 40) dX0_bestLook_32 (by decide) (fun h32 => ?_) (fun h32 => ?_)
      · skip
        refine j_iinc (v := nI (k + 1)) (lv' := [(3, .int (nI (k + 1))), (4, .int (nI (worB bits (fun t => B t k) (n + 1)))), (0, .ref (q 0)), (1, .int s1), (2, .int (nI s2))]) 4 dX0_bestLook_40 rfl (nI_1 k) (by decide) rfl ?_
        refine j_goto (tgt := 16) dX0_bestLook_43 (by decide) ?_
        refine j_lv [2, 3, 4, 0] (lv' := [(0, .ref (q 0)), (1, .int s1), (2, .int (nI s2)), (3, .int (nI (k + 1)))]) rfl ?_
        refine ih (k + 1) _ _ (by omega) ?_ (by omega) (by omega)
        rw [← hc1, itr_go (n := 13) (b := k) (by omega)]; exact congrArg (fun z => (itr (lokS bits B n) (13 - (k + 1)) (k + 1) z).1) (by first | (rw [lokS, if_pos h32]; done) | (rw [lokS, if_neg (by show ¬ _ < _; omega)]; done))
      · skip
        refine j_iload_n 4 dX0_bestLook_35 rfl rfl ?_
        refine j_istore_n (lv' := [(1, .int (nI k)), (4, .int (nI (worB bits (fun t => B t k) (n + 1)))), (0, .ref (q 0)), (2, .int (nI s2)), (3, .int (nI k))]) dX0_bestLook_36 rfl (by decide) rfl ?_
        refine j_iload 1 dX0_bestLook_37 rfl ?_
        refine j_istore_n (lv' := [(2, .int (nI (worB bits (fun t => B t k) (n + 1)))), (1, .int (nI k)), (4, .int (nI (worB bits (fun t => B t k) (n + 1)))), (0, .ref (q 0)), (3, .int (nI k))]) dX0_bestLook_39 rfl (by decide) rfl ?_
        refine j_iinc (v := nI (k + 1)) (lv' := [(3, .int (nI (k + 1))), (2, .int (nI (worB bits (fun t => B t k) (n + 1)))), (1, .int (nI k)), (4, .int (nI (worB bits (fun t => B t k) (n + 1)))), (0, .ref (q 0))]) 4 dX0_bestLook_40 rfl (nI_1 k) (by decide) rfl ?_
        refine j_goto (tgt := 16) dX0_bestLook_43 (by decide) ?_
        refine j_lv [4, 2, 1, 0] (lv' := [(0, .ref (q 0)), (1, .int (nI k)), (2, .int (nI (worB bits (fun t => B t k) (n + 1)))), (3, .int (nI (k + 1)))]) rfl ?_
        refine ih (k + 1) _ _ (by omega) ?_ (by omega) (by omega)
        rw [← hc1, itr_go (n := 13) (b := k) (by omega)]; exact congrArg (fun z => (itr (lokS bits B n) (13 - (k + 1)) (k + 1) z).1) (by first | (rw [lokS, if_pos h32]; done) | (rw [lokS, if_neg (by show ¬ _ < _; omega)]; done))
set_option maxHeartbeats 4000000 in
set_option maxRecDepth 100000 in
theorem tX0_bestLook (l : Launch) (x : Cx) (q w r : Nat → Nat) (n : Nat) (hn : n ≤ 5) (bits : Int32) (B : Nat → Nat → Int32) : MC l x 4 0 0 yX0_bestLook cX0_bestLook 5 (some .int) [.ref (q 0)] (fl [gb x q w r (n, bits), rowsB x r B]) (eI (lokB bits B n) (fl [gb x q w r (n, bits), rowsB x r B])) := by
  refine MC.of (by decide) (Nat.le_of_ble_eq_true rfl) eI_fit (fun M => ?_)
  show J M l x cX0_bestLook 5 yX0_bestLook 4 (eI (lokB bits B n) (fl [gb x q w r (n, bits), rowsB x r B])) 0 0 0 [(0, .ref (q 0))] [] (fl [gb x q w r (n, bits), rowsB x r B])
  refine j_aload_n 0 dX0_bestLook_0 rfl rfl ?_
  refine j_get (v := .int bits) 0 dX0_bestLook_1 fX0_27 rfl rfl ?_
  refine j_if_ne (tgt := 9) dX0_bestLook_4 (by decide) (fun h4 => ?_) (fun h4 => ?_)
  · skip
    refine j_iconst (v := (-1)) dX0_bestLook_9 (by decide) ?_
    refine j_istore_n (lv' := [(1, .int (-1)), (0, .ref (q 0))]) dX0_bestLook_10 rfl (by decide) rfl ?_
    refine j_bipush (v := nI 11) dX0_bestLook_11 (by decide) ?_
    refine j_istore_n (lv' := [(2, .int (nI 11)), (1, .int (-1)), (0, .ref (q 0))]) dX0_bestLook_13 rfl (by decide) rfl ?_
    refine j_iconst (v := nI 0) dX0_bestLook_14 (by decide) ?_
    refine j_istore_n (lv' := [(3, .int (nI 0)), (2, .int (nI 11)), (1, .int (-1)), (0, .ref (q 0))]) dX0_bestLook_15 rfl (by decide) rfl ?_
    refine j_lv [3, 2, 1, 0] (lv' := [(0, .ref (q 0)), (1, .int (-1)), (2, .int (nI 11)), (3, .int (nI 0))]) rfl ?_
    exact lp_bestLook l x q w r n hn bits B _ 14 0 (-1) 11 (by omega) (by rw [lokB, if_neg h4]) (by omega) (by omega)
  · skip
    refine j_iconst (v := (-1)) dX0_bestLook_7 (by decide) ?_
    exact j_iret _ dX0_bestLook_8 (List.Perm.refl _) ⟨by rw [lokB, if_pos h4], by rfl⟩
