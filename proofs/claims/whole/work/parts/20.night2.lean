set_option maxHeartbeats 4000000 in
set_option maxRecDepth 100000 in
theorem lp_whoseBed {M : Mx} (l : Launch) (x : Cx) (q : Nat → Nat) (kf tf : Nat → Int32) (sl : Nat → Bool) (bf : Nat → Int32) (n : Nat) (d h : Int32) (hn : n ≤ 5) {k0 n0 : Nat}  : ∀ (m : Nat) (i : Nat), i ≤ n → n - i < m → J M l x cX2_whoseBed 4 yX2_whoseBed 1 (eI (oI (wb kf tf sl n)) (nb x q (kf, tf, sl, bf, n, d, h))) k0 n0 7 [(0, .ref (q 0)), (1, .int (oI (wb kf tf sl i))), (2, .int (wbL tf (wb kf tf sl i))), (3, .int (nI i))] [] (nb x q (kf, tf, sl, bf, n, d, h)) := by
  intro m; induction m with
  | zero => intro i hc0 hm; exact absurd hm (Nat.not_lt_zero _)
  | succ m ih =>
    intro i hc0 hm
    refine j_iload_n 3 dX2_whoseBed_7 rfl rfl ?_
    refine j_aload_n 0 dX2_whoseBed_8 rfl rfl ?_
    refine j_get (v := .int (nI n)) 0 dX2_whoseBed_9 fX2_25 rfl rfl ?_
    refine j_icmpN_ge (a := i) (b := n) (by omega) (by omega) (tgt := 48) dX2_whoseBed_12 (by decide) (fun h12 => ?_) (fun h12 => ?_)
    · skip
      refine j_iload_n 1 dX2_whoseBed_48 rfl rfl ?_
      exact j_iret _ dX2_whoseBed_49 (List.Perm.refl _) ⟨by rw [show i = n by omega], by rfl⟩
    · skip
      refine j_aload_n 0 dX2_whoseBed_15 rfl rfl ?_
      refine j_iload_n 3 dX2_whoseBed_16 rfl rfl ?_
      refine j_cVi (As := [.int (nI i)]) (rest := []) (wr := []) (ws' := nb x q (kf, tf, sl, bf, n, d, h)) (tX2_mayLieIn l x q kf tf sl bf n d h (by omega) i (by omega)) kX2_mayLieIn 0 rfl rfl rfl vX2_59 dX2_whoseBed_17 (by decide) rfl rfl (Nat.le_of_ble_eq_true rfl) (pm_0 _) (List.append_nil _) ?_
      refine j_ifb_eq (b := may kf sl i) (tgt := 42) dX2_whoseBed_20 (by decide) (fun h20 => ?_) (fun h20 => ?_)
      · skip
        refine j_iinc (v := nI (i + 1)) (lv' := [(3, .int (nI (i + 1))), (0, .ref (q 0)), (1, .int (oI (wb kf tf sl i))), (2, .int (wbL tf (wb kf tf sl i)))]) 3 dX2_whoseBed_42 rfl (nI_1 i) (by decide) rfl ?_
        refine j_goto (tgt := 7) dX2_whoseBed_45 (by decide) ?_
        refine j_lv [1, 2, 3, 0] (lv' := [(0, .ref (q 0)), (1, .int (oI (wb kf tf sl i))), (2, .int (wbL tf (wb kf tf sl i))), (3, .int (nI (i + 1)))]) rfl ?_
        refine j_lve (lv' := [(0, .ref (q 0)), (1, .int (oI (wb kf tf sl (i + 1)))), (2, .int (wbL tf (wb kf tf sl (i + 1)))), (3, .int (nI (i + 1)))]) (by first | (rw [wb_f h20]; done) | (rw [wb_z h30]; done) | (rw [wb_y h20 h30]; rfl)) ?_
        exact ih (i + 1) (by omega) (by omega)
      · skip
        refine j_aload_n 0 dX2_whoseBed_23 rfl rfl ?_
        refine j_get (v := .ref (q 2)) 0 dX2_whoseBed_24 fX2_15 rfl rfl ?_
        refine j_iload_n 3 dX2_whoseBed_27 rfl rfl ?_
        refine j_ialdN (i := i) (f := tf) 2 dX2_whoseBed_28 rfl (by omega) (by decide) ?_
        refine j_iload_n 2 dX2_whoseBed_29 rfl rfl ?_
        refine j_icmp_ge (tgt := 42) dX2_whoseBed_30 (by decide) (fun h30 => ?_) (fun h30 => ?_)
        · skip
          refine j_iinc (v := nI (i + 1)) (lv' := [(3, .int (nI (i + 1))), (0, .ref (q 0)), (1, .int (oI (wb kf tf sl i))), (2, .int (wbL tf (wb kf tf sl i)))]) 3 dX2_whoseBed_42 rfl (nI_1 i) (by decide) rfl ?_
          refine j_goto (tgt := 7) dX2_whoseBed_45 (by decide) ?_
          refine j_lv [1, 2, 3, 0] (lv' := [(0, .ref (q 0)), (1, .int (oI (wb kf tf sl i))), (2, .int (wbL tf (wb kf tf sl i))), (3, .int (nI (i + 1)))]) rfl ?_
          refine j_lve (lv' := [(0, .ref (q 0)), (1, .int (oI (wb kf tf sl (i + 1)))), (2, .int (wbL tf (wb kf tf sl (i + 1)))), (3, .int (nI (i + 1)))]) (by first | (rw [wb_f h20]; done) | (rw [wb_z h30]; done) | (rw [wb_y h20 h30]; rfl)) ?_
          exact ih (i + 1) (by omega) (by omega)
        · skip
          refine j_iload_n 3 dX2_whoseBed_33 rfl rfl ?_
          refine j_istore_n (lv' := [(1, .int (nI i)), (0, .ref (q 0)), (2, .int (wbL tf (wb kf tf sl i))), (3, .int (nI i))]) dX2_whoseBed_34 rfl (by decide) rfl ?_
          refine j_aload_n 1 dX2_whoseBed_35 rfl rfl ?_
          refine j_get (v := .ref (q 2)) 0 dX2_whoseBed_36 fX2_15 rfl rfl ?_
          refine j_iload_n 3 dX2_whoseBed_39 rfl rfl ?_
          refine j_ialdN (i := i) (f := tf) 2 dX2_whoseBed_40 rfl (by omega) (by decide) ?_
          refine j_istore_n (lv' := [(2, .int (tf i)), (1, .int (nI i)), (0, .ref (q 0)), (3, .int (nI i))]) dX2_whoseBed_41 rfl (by decide) rfl ?_
          refine j_iinc (v := nI (i + 1)) (lv' := [(3, .int (nI (i + 1))), (2, .int (tf i)), (1, .int (nI i)), (0, .ref (q 0))]) 3 dX2_whoseBed_42 rfl (nI_1 i) (by decide) rfl ?_
          refine j_goto (tgt := 7) dX2_whoseBed_45 (by decide) ?_
          refine j_lv [3, 2, 1, 0] (lv' := [(0, .ref (q 0)), (1, .int (nI i)), (2, .int (tf i)), (3, .int (nI (i + 1)))]) rfl ?_
          refine j_lve (lv' := [(0, .ref (q 0)), (1, .int (oI (wb kf tf sl (i + 1)))), (2, .int (wbL tf (wb kf tf sl (i + 1)))), (3, .int (nI (i + 1)))]) (by first | (rw [wb_f h20]; done) | (rw [wb_z h30]; done) | (rw [wb_y h20 h30]; rfl)) ?_
          exact ih (i + 1) (by omega) (by omega)
set_option maxHeartbeats 4000000 in
set_option maxRecDepth 100000 in
theorem tX2_whoseBed (l : Launch) (x : Cx) (q : Nat → Nat) (kf tf : Nat → Int32) (sl : Nat → Bool) (bf : Nat → Int32) (n : Nat) (d h : Int32) (hn : n ≤ 5) : MC l x 1 0 0 yX2_whoseBed cX2_whoseBed 4 (some .int) [.ref (q 0)] (nb x q (kf, tf, sl, bf, n, d, h)) (eI (oI (wb kf tf sl n)) (nb x q (kf, tf, sl, bf, n, d, h))) := by
  refine MC.of (by decide) (Nat.le_of_ble_eq_true rfl) eI_fit (fun M => ?_)
  show J M l x cX2_whoseBed 4 yX2_whoseBed 1 (eI (oI (wb kf tf sl n)) (nb x q (kf, tf, sl, bf, n, d, h))) 0 0 0 [(0, .ref (q 0))] [] (nb x q (kf, tf, sl, bf, n, d, h))
  refine j_iconst (v := (-1)) dX2_whoseBed_0 (by decide) ?_
  refine j_istore_n (lv' := [(1, .int (-1)), (0, .ref (q 0))]) dX2_whoseBed_1 rfl (by decide) rfl ?_
  refine j_bipush (v := 10) dX2_whoseBed_2 (by decide) ?_
  refine j_istore_n (lv' := [(2, .int 10), (1, .int (-1)), (0, .ref (q 0))]) dX2_whoseBed_4 rfl (by decide) rfl ?_
  refine j_iconst (v := nI 0) dX2_whoseBed_5 (by decide) ?_
  refine j_istore_n (lv' := [(3, .int (nI 0)), (2, .int 10), (1, .int (-1)), (0, .ref (q 0))]) dX2_whoseBed_6 rfl (by decide) rfl ?_
  refine j_lv [3, 2, 1, 0] (lv' := [(0, .ref (q 0)), (1, .int (-1)), (2, .int 10), (3, .int (nI 0))]) rfl ?_
  exact lp_whoseBed l x q kf tf sl bf n d h hn (n + 1) 0 (by omega) (by omega)
set_option maxHeartbeats 4000000 in
set_option maxRecDepth 100000 in
theorem tX2_giveCoffee (l : Launch) (x : Cx) (q : Nat → Nat) (kf tf : Nat → Int32) (sl : Nat → Bool) (bf : Nat → Int32) (n : Nat) (d h : Int32) (hn : n ≤ 5) (j : Nat) (hj : j < n) : MC l x 1 0 0 yX2_giveCoffee cX2_giveCoffee 2 none [.ref (q 0), .int (nI j)] (nb x q (kf, tf, sl, bf, n, d, h)) (eV (nb x q (kf, if sl j = true then tf else upd tf j (cT (tf j)), sl, bf, n, d, h))) := by
  refine MC.of (by decide) (Nat.le_of_ble_eq_true rfl) eV_fit (fun M => ?_)
  show J M l x cX2_giveCoffee 2 yX2_giveCoffee 1 (eV (nb x q (kf, if sl j = true then tf else upd tf j (cT (tf j)), sl, bf, n, d, h))) 0 0 0 [(0, .ref (q 0)), (1, .int (nI j))] [] (nb x q (kf, tf, sl, bf, n, d, h))
  refine j_aload_n 0 dX2_giveCoffee_0 rfl rfl ?_
  refine j_iload_n 1 dX2_giveCoffee_1 rfl rfl ?_
  refine j_cVi (As := [.int (nI j)]) (rest := []) (wr := []) (ws' := nb x q (kf, tf, sl, bf, n, d, h)) (tX2_knows l x q kf tf sl bf n d h (nI j)) kX2_knows 0 rfl rfl rfl vX2_55 dX2_giveCoffee_2 (by decide) rfl rfl (Nat.le_of_ble_eq_true rfl) (pm_0 _) (List.append_nil _) ?_
  refine j_ifb_eq (b := kn n (nI j)) (tgt := 35) dX2_giveCoffee_5 (by decide) (fun h5 => absurd h5 (by rw [kn_t (by omega) (by omega)]; decide)) (fun h5 => ?_)
  refine j_aload_n 0 dX2_giveCoffee_8 rfl rfl ?_
  refine j_get (v := .ref (q 3)) 0 dX2_giveCoffee_9 fX2_18 rfl rfl ?_
  refine j_iload_n 1 dX2_giveCoffee_12 rfl rfl ?_
  refine j_zaldB (i := j) (f := sl) 3 dX2_giveCoffee_13 rfl (by omega) (by decide) ?_
  refine j_ifb_ne (b := sl j) (tgt := 35) dX2_giveCoffee_14 (by decide) (fun h14 => ?_) (fun h14 => ?_)
  · skip
    exact j_vret _ dX2_giveCoffee_35 (List.Perm.refl _) ⟨rfl, by (simp [cT, h14]; try rfl)⟩
  · skip
    refine j_aload_n 0 dX2_giveCoffee_17 rfl rfl ?_
    refine j_get (v := .ref (q 2)) 0 dX2_giveCoffee_18 fX2_15 rfl rfl ?_
    refine j_iload_n 1 dX2_giveCoffee_21 rfl rfl ?_
    refine j_iconst (v := 0) dX2_giveCoffee_22 (by decide) ?_
    refine j_aload_n 0 dX2_giveCoffee_23 rfl rfl ?_
    refine j_get (v := .ref (q 2)) 0 dX2_giveCoffee_24 fX2_15 rfl rfl ?_
    refine j_iload_n 1 dX2_giveCoffee_27 rfl rfl ?_
    refine j_ialdN (i := j) (f := tf) 2 dX2_giveCoffee_28 rfl (by omega) (by decide) ?_
    refine j_iconst (v := 3) dX2_giveCoffee_29 (by decide) ?_
    refine j_isub dX2_giveCoffee_30 ?_
    refine j_mmax dX2_giveCoffee_31 mX2_62 (by decide) (Nat.le_of_ble_eq_true rfl) ?_
    refine j_iastN (i := j) (f := tf) (ws' := nb x q (kf, upd tf j (if 0 < ((tf j) - 3) then ((tf j) - 3) else 0), sl, bf, n, d, h)) 2 dX2_giveCoffee_34 rfl (by omega) (by decide) rfl ?_
    exact j_vret _ dX2_giveCoffee_35 (List.Perm.refl _) ⟨rfl, by (simp [cT, h14]; try rfl)⟩
set_option maxHeartbeats 4000000 in
set_option maxRecDepth 100000 in
theorem tX2_giveLecture (l : Launch) (x : Cx) (q : Nat → Nat) (kf tf : Nat → Int32) (sl : Nat → Bool) (bf : Nat → Int32) (n : Nat) (d h : Int32) (hn : n ≤ 5) (o : Option Nat) (ho : ∀ j, o = some j → j < n) : MC l x 2 0 0 yX2_giveLecture cX2_giveLecture 2 none [.ref (q 0), .int (oI o)] (nb x q (kf, tf, sl, bf, n, d, h)) (eV (nb x q (lec (kf, tf, sl, bf, n, d, h) o))) := by
  refine MC.of (by decide) (Nat.le_of_ble_eq_true rfl) eV_fit (fun M => ?_)
  show J M l x cX2_giveLecture 2 yX2_giveLecture 2 (eV (nb x q (lec (kf, tf, sl, bf, n, d, h) o))) 0 0 0 [(0, .ref (q 0)), (1, .int (oI o))] [] (nb x q (kf, tf, sl, bf, n, d, h))
  cases o with
  | none =>
    show J M l x cX2_giveLecture 2 yX2_giveLecture 2 (eV (nb x q (lec (kf, tf, sl, bf, n, d, h) none))) 0 0 0 [(0, .ref (q 0)), (1, .int (-1))] [] (nb x q (kf, tf, sl, bf, n, d, h))
    refine j_aload_n 0 dX2_giveLecture_0 rfl rfl ?_
    refine j_iload_n 1 dX2_giveLecture_1 rfl rfl ?_
    refine j_cVi (As := [.int (-1)]) (rest := []) (wr := []) (ws' := nb x q (kf, tf, sl, bf, n, d, h)) (tX2_knows l x q kf tf sl bf n d h (-1)) kX2_knows 0 rfl rfl rfl vX2_55 dX2_giveLecture_2 (by decide) rfl rfl (Nat.le_of_ble_eq_true rfl) (pm_0 _) (List.append_nil _) ?_
    refine j_ifb_eq (b := kn n (-1)) (tgt := 32) dX2_giveLecture_5 (by decide) (fun h5 => ?_) (fun h5 => absurd h5 (by rw [kn_m1]; decide))
    exact j_vret _ dX2_giveLecture_32 (List.Perm.refl _) ⟨rfl, by rfl⟩
  | some j =>
    have hj : j < n := ho j rfl
    show J M l x cX2_giveLecture 2 yX2_giveLecture 2 (eV (nb x q (lec (kf, tf, sl, bf, n, d, h) (some j)))) 0 0 0 [(0, .ref (q 0)), (1, .int (nI j))] [] (nb x q (kf, tf, sl, bf, n, d, h))
    refine j_aload_n 0 dX2_giveLecture_0 rfl rfl ?_
    refine j_iload_n 1 dX2_giveLecture_1 rfl rfl ?_
    refine j_cVi (As := [.int (nI j)]) (rest := []) (wr := []) (ws' := nb x q (kf, tf, sl, bf, n, d, h)) (tX2_knows l x q kf tf sl bf n d h (nI j)) kX2_knows 0 rfl rfl rfl vX2_55 dX2_giveLecture_2 (by decide) rfl rfl (Nat.le_of_ble_eq_true rfl) (pm_0 _) (List.append_nil _) ?_
    refine j_ifb_eq (b := kn n (nI j)) (tgt := 32) dX2_giveLecture_5 (by decide) (fun h5 => absurd h5 (by rw [kn_t (by omega) (by omega)]; decide)) (fun h5 => ?_)
    refine j_aload_n 0 dX2_giveLecture_8 rfl rfl ?_
    refine j_get (v := .ref (q 3)) 0 dX2_giveLecture_9 fX2_18 rfl rfl ?_
    refine j_iload_n 1 dX2_giveLecture_12 rfl rfl ?_
    refine j_zaldB (i := j) (f := sl) 3 dX2_giveLecture_13 rfl (by omega) (by decide) ?_
    refine j_ifb_ne (b := sl j) (tgt := 32) dX2_giveLecture_14 (by decide) (fun h14 => ?_) (fun h14 => ?_)
    · skip
      exact j_vret _ dX2_giveLecture_32 (List.Perm.refl _) ⟨rfl, by (simp [lec, h14, upd_upd, upd_self]; try rfl)⟩
    · skip
      refine j_aload_n 0 dX2_giveLecture_17 rfl rfl ?_
      refine j_get (v := .ref (q 2)) 0 dX2_giveLecture_18 fX2_15 rfl rfl ?_
      refine j_iload_n 1 dX2_giveLecture_21 rfl rfl ?_
      refine j_dup2 dX2_giveLecture_22 rfl rfl ?_
      refine j_ialdN (i := j) (f := tf) 2 dX2_giveLecture_23 rfl (by omega) (by decide) ?_
      refine j_iconst (v := 2) dX2_giveLecture_24 (by decide) ?_
      refine j_iadd dX2_giveLecture_25 ?_
      refine j_iastN (i := j) (f := tf) (ws' := nb x q (kf, upd tf j ((tf j) + 2), sl, bf, n, d, h)) 2 dX2_giveLecture_26 rfl (by omega) (by decide) rfl ?_
      refine j_aload_n 0 dX2_giveLecture_27 rfl rfl ?_
      refine j_iload_n 1 dX2_giveLecture_28 rfl rfl ?_
      refine j_cVv (As := [.int (nI j)]) (rest := []) (wr := []) (ws' := nb x q (kf, upd (upd tf j ((tf j) + 2)) j (stT ((upd tf j ((tf j) + 2)) j)), bup sl j (stS ((upd tf j ((tf j) + 2)) j) (sl j)), bf, n, d, h)) (tX2_settle l x q kf (upd tf j ((tf j) + 2)) sl bf n d h (by omega) j (by omega)) kX2_settle 0 rfl rfl rfl vX2_65 dX2_giveLecture_29 (by decide) rfl rfl (Nat.le_of_ble_eq_true rfl) (pm_0 _) (List.append_nil _) ?_
      exact j_vret _ dX2_giveLecture_32 (List.Perm.refl _) ⟨rfl, by (simp [lec, h14, upd_upd, upd_self]; try rfl)⟩
set_option maxHeartbeats 4000000 in
set_option maxRecDepth 100000 in
theorem tX2_wakeAs (l : Launch) (x : Cx) (q : Nat → Nat) (kf tf : Nat → Int32) (sl : Nat → Bool) (bf : Nat → Int32) (n : Nat) (d h : Int32) (hn : n ≤ 5) (j : Nat) (hj : j < n) (v : Int32) : MC l x 1 0 0 yX2_wakeAs cX2_wakeAs 3 none [.ref (q 0), .int (nI j), .int v] (nb x q (kf, tf, sl, bf, n, d, h)) (eV (nb x q (wak (kf, tf, sl, bf, n, d, h) j v))) := by
  refine MC.of (by decide) (Nat.le_of_ble_eq_true rfl) eV_fit (fun M => ?_)
  show J M l x cX2_wakeAs 3 yX2_wakeAs 1 (eV (nb x q (wak (kf, tf, sl, bf, n, d, h) j v))) 0 0 0 [(0, .ref (q 0)), (1, .int (nI j)), (2, .int v)] [] (nb x q (kf, tf, sl, bf, n, d, h))
  refine j_aload_n 0 dX2_wakeAs_0 rfl rfl ?_
  refine j_iload_n 1 dX2_wakeAs_1 rfl rfl ?_
  refine j_cVi (As := [.int (nI j)]) (rest := []) (wr := []) (ws' := nb x q (kf, tf, sl, bf, n, d, h)) (tX2_knows l x q kf tf sl bf n d h (nI j)) kX2_knows 0 rfl rfl rfl vX2_55 dX2_wakeAs_2 (by decide) rfl rfl (Nat.le_of_ble_eq_true rfl) (pm_0 _) (List.append_nil _) ?_
  refine j_ifb_eq (b := kn n (nI j)) (tgt := 22) dX2_wakeAs_5 (by decide) (fun h5 => absurd h5 (by rw [kn_t (by omega) (by omega)]; decide)) (fun h5 => ?_)
  refine j_aload_n 0 dX2_wakeAs_8 rfl rfl ?_
  refine j_get (v := .ref (q 2)) 0 dX2_wakeAs_9 fX2_15 rfl rfl ?_
  refine j_iload_n 1 dX2_wakeAs_12 rfl rfl ?_
  refine j_iload_n 2 dX2_wakeAs_13 rfl rfl ?_
  refine j_iastN (i := j) (f := tf) (ws' := nb x q (kf, upd tf j v, sl, bf, n, d, h)) 2 dX2_wakeAs_14 rfl (by omega) (by decide) rfl ?_
  refine j_aload_n 0 dX2_wakeAs_15 rfl rfl ?_
  refine j_get (v := .ref (q 3)) 0 dX2_wakeAs_16 fX2_18 rfl rfl ?_
  refine j_iload_n 1 dX2_wakeAs_19 rfl rfl ?_
  refine j_iconst (v := 0) dX2_wakeAs_20 (by decide) ?_
  refine j_zastB (i := j) (f := sl) (ws' := nb x q (kf, upd tf j v, bup sl j false, bf, n, d, h)) 3 false dX2_wakeAs_21 rfl (by omega) (by decide) rfl ?_
  exact j_vret _ dX2_wakeAs_22 (List.Perm.refl _) ⟨rfl, by rfl⟩
set_option maxHeartbeats 4000000 in
set_option maxRecDepth 100000 in
theorem lp_passHour {M : Mx} (l : Launch) (x : Cx) (q : Nat → Nat) (kf tf1 : Nat → Int32) (sl : Nat → Bool) (bf : Nat → Int32) (n : Nat) (d h' : Int32) (o : Option Nat) (hn : n ≤ 5) (ho : ∀ j, o = some j → j < n) {k0 n0 : Nat}  : ∀ (m : Nat) (i : Nat), i ≤ n → n - i < m → J M l x cX2_passHour 3 yX2_passHour 2 (eV (nb x q (kf, mix n (pT kf tf1 sl h' o) tf1, mix n (pS kf tf1 sl h' o) sl, bf, n, d, h'))) k0 n0 48 [(0, .ref (q 0)), (1, .int (oI o)), (2, .int (nI i))] [] (nb x q (kf, mix i (pT kf tf1 sl h' o) tf1, mix i (pS kf tf1 sl h' o) sl, bf, n, d, h')) := by
  intro m; induction m with
  | zero => intro i hc0 hm; exact absurd hm (Nat.not_lt_zero _)
  | succ m ih =>
    intro i hc0 hm
    refine j_iload_n 2 dX2_passHour_48 rfl rfl ?_
    refine j_aload_n 0 dX2_passHour_49 rfl rfl ?_
    refine j_get (v := .int (nI n)) 0 dX2_passHour_50 fX2_25 rfl rfl ?_
    refine j_icmpN_ge (a := i) (b := n) (by omega) (by omega) (tgt := 135) dX2_passHour_53 (by decide) (fun h53 => ?_) (fun h53 => ?_)
    · skip
      exact j_vret _ dX2_passHour_135 (List.Perm.refl _) ⟨rfl, by rw [show i = n by omega]⟩
    · skip
      refine j_aload_n 0 dX2_passHour_56 rfl rfl ?_
      refine j_get (v := .ref (q 3)) 0 dX2_passHour_57 fX2_18 rfl rfl ?_
      refine j_iload_n 2 dX2_passHour_60 rfl rfl ?_
      refine j_zaldB (i := i) (f := mix i (pS kf tf1 sl h' o) sl) 3 dX2_passHour_61 rfl (by omega) (by decide) ?_
      refine j_topi (b := bI (sl i)) (congrArg bI mix_self) ?_
      refine j_ifb_eq (b := sl i) (tgt := 86) dX2_passHour_62 (by decide) (fun h62 => ?_) (fun h62 => ?_)
      · skip
        refine j_aload_n 0 dX2_passHour_86 rfl rfl ?_
        refine j_get (v := .ref (q 2)) 0 dX2_passHour_87 fX2_15 rfl rfl ?_
        refine j_iload_n 2 dX2_passHour_90 rfl rfl ?_
        refine j_dup2 dX2_passHour_91 rfl rfl ?_
        refine j_ialdN (i := i) (f := mix i (pT kf tf1 sl h' o) tf1) 2 dX2_passHour_92 rfl (by omega) (by decide) ?_
        refine j_topi (b := tf1 i) mix_self ?_
        refine j_aload_n 0 dX2_passHour_93 rfl rfl ?_
        refine j_get (v := .ref (q 1)) 0 dX2_passHour_94 fX2_9 rfl rfl ?_
        refine j_iload_n 2 dX2_passHour_97 rfl rfl ?_
        refine j_ialdN (i := i) (f := kf) 1 dX2_passHour_98 rfl (by omega) (by decide) ?_
        refine j_aload_n 0 dX2_passHour_99 rfl rfl ?_
        refine j_get (v := .ref (q 2)) 0 dX2_passHour_100 fX2_15 rfl rfl ?_
        refine j_iload_n 2 dX2_passHour_103 rfl rfl ?_
        refine j_ialdN (i := i) (f := mix i (pT kf tf1 sl h' o) tf1) 2 dX2_passHour_104 rfl (by omega) (by decide) ?_
        refine j_topi (b := tf1 i) mix_self ?_
        refine j_aload_n 0 dX2_passHour_105 rfl rfl ?_
        refine j_get (v := .int h') 0 dX2_passHour_106 fX2_32 rfl rfl ?_
        refine j_iload_n 2 dX2_passHour_109 rfl rfl ?_
        refine j_iload_n 1 dX2_passHour_110 rfl rfl ?_
        refine j_icmp_ne (tgt := 118) dX2_passHour_111 (by decide) (fun h111 => ?_) (fun h111 => ?_)
        · skip
          have eo : (o == some i) = false := by
            have : ¬ o = some i := fun e => h111 ((oI_eq (by omega) (fun j e => by have := ho j e; omega)).mpr e)
            simp [this]
          refine j_iconst (v := bI false) dX2_passHour_118 (by decide) ?_
          refine j_cNi (As := [.int (kf i), .int (tf1 i), .int h', .int (bI false)]) (rest := [.int (tf1 i), .int (nI i), .ref (q 2)]) (wr := nb x q (kf, mix i (pT kf tf1 sl h' o) tf1, mix i (pS kf tf1 sl h' o) sl, bf, n, d, h')) (ws' := nb x q (kf, mix i (pT kf tf1 sl h' o) tf1, mix i (pS kf tf1 sl h' o) sl, bf, n, d, h')) (tX5_tiredByHour l x (kf i) (tf1 i) h' false) kX5_tiredByHour nX2_72 dX2_passHour_119 (by decide) rfl rfl (Nat.le_of_ble_eq_true rfl) (List.Perm.refl _) rfl ?_
          refine j_iadd dX2_passHour_122 ?_
          refine j_iastN (i := i) (f := mix i (pT kf tf1 sl h' o) tf1) (ws' := nb x q (kf, upd (mix i (pT kf tf1 sl h' o) tf1) i ((tf1 i) + (tbh (kf i) (tf1 i) h' false)), mix i (pS kf tf1 sl h' o) sl, bf, n, d, h')) 2 dX2_passHour_123 rfl (by omega) (by decide) rfl ?_
          refine j_aload_n 0 dX2_passHour_124 rfl rfl ?_
          refine j_iload_n 2 dX2_passHour_125 rfl rfl ?_
          refine j_cVv (As := [.int (nI i)]) (rest := []) (wr := []) (ws' := nb x q (kf, upd (upd (mix i (pT kf tf1 sl h' o) tf1) i ((tf1 i) + (tbh (kf i) (tf1 i) h' false))) i (stT ((upd (mix i (pT kf tf1 sl h' o) tf1) i ((tf1 i) + (tbh (kf i) (tf1 i) h' false))) i)), bup (mix i (pS kf tf1 sl h' o) sl) i (stS ((upd (mix i (pT kf tf1 sl h' o) tf1) i ((tf1 i) + (tbh (kf i) (tf1 i) h' false))) i) ((mix i (pS kf tf1 sl h' o) sl) i)), bf, n, d, h')) (tX2_settle l x q kf (upd (mix i (pT kf tf1 sl h' o) tf1) i ((tf1 i) + (tbh (kf i) (tf1 i) h' false))) (mix i (pS kf tf1 sl h' o) sl) bf n d h' (by omega) i (by omega)) kX2_settle 0 rfl rfl rfl vX2_65 dX2_passHour_126 (by decide) rfl rfl (Nat.le_of_ble_eq_true rfl) (pm_0 _) (List.append_nil _) ?_
          refine j_iinc (v := nI (i + 1)) (lv' := [(2, .int (nI (i + 1))), (0, .ref (q 0)), (1, .int (oI o))]) 2 dX2_passHour_129 rfl (nI_1 i) (by decide) rfl ?_
          refine j_goto (tgt := 48) dX2_passHour_132 (by decide) ?_
          refine j_lv [1, 2, 0] (lv' := [(0, .ref (q 0)), (1, .int (oI o)), (2, .int (nI (i + 1)))]) rfl ?_
          refine j_ws (ws' := nb x q (kf, mix (i + 1) (pT kf tf1 sl h' o) tf1, mix (i + 1) (pS kf tf1 sl h' o) sl, bf, n, d, h')) (by rw [upd_upd, upd_self, mix_self, mix_upd _ _ _ (show _ = pT kf tf1 sl h' o i by first | (simp [pT, pX, cT, h62]; done) | (simp [pT, pX, h62, eo]; done)), mix_bup _ _ _ (show _ = pS kf tf1 sl h' o i by first | (simp [pS, pX, cT, h62]; done) | (simp [pS, pX, h62, eo]; done))]) ?_
          exact ih (i + 1) (by omega) (by omega)
        · skip
          have eo : (o == some i) = true := by
            rw [(oI_eq (by omega) (fun j e => by have := ho j e; omega)).mp h111]; simp
          refine j_iconst (v := bI true) dX2_passHour_114 (by decide) ?_
          refine j_goto (tgt := 119) dX2_passHour_115 (by decide) ?_
          refine j_cNi (As := [.int (kf i), .int (tf1 i), .int h', .int (bI true)]) (rest := [.int (tf1 i), .int (nI i), .ref (q 2)]) (wr := nb x q (kf, mix i (pT kf tf1 sl h' o) tf1, mix i (pS kf tf1 sl h' o) sl, bf, n, d, h')) (ws' := nb x q (kf, mix i (pT kf tf1 sl h' o) tf1, mix i (pS kf tf1 sl h' o) sl, bf, n, d, h')) (tX5_tiredByHour l x (kf i) (tf1 i) h' true) kX5_tiredByHour nX2_72 dX2_passHour_119 (by decide) rfl rfl (Nat.le_of_ble_eq_true rfl) (List.Perm.refl _) rfl ?_
          refine j_iadd dX2_passHour_122 ?_
          refine j_iastN (i := i) (f := mix i (pT kf tf1 sl h' o) tf1) (ws' := nb x q (kf, upd (mix i (pT kf tf1 sl h' o) tf1) i ((tf1 i) + (tbh (kf i) (tf1 i) h' true)), mix i (pS kf tf1 sl h' o) sl, bf, n, d, h')) 2 dX2_passHour_123 rfl (by omega) (by decide) rfl ?_
          refine j_aload_n 0 dX2_passHour_124 rfl rfl ?_
          refine j_iload_n 2 dX2_passHour_125 rfl rfl ?_
          refine j_cVv (As := [.int (nI i)]) (rest := []) (wr := []) (ws' := nb x q (kf, upd (upd (mix i (pT kf tf1 sl h' o) tf1) i ((tf1 i) + (tbh (kf i) (tf1 i) h' true))) i (stT ((upd (mix i (pT kf tf1 sl h' o) tf1) i ((tf1 i) + (tbh (kf i) (tf1 i) h' true))) i)), bup (mix i (pS kf tf1 sl h' o) sl) i (stS ((upd (mix i (pT kf tf1 sl h' o) tf1) i ((tf1 i) + (tbh (kf i) (tf1 i) h' true))) i) ((mix i (pS kf tf1 sl h' o) sl) i)), bf, n, d, h')) (tX2_settle l x q kf (upd (mix i (pT kf tf1 sl h' o) tf1) i ((tf1 i) + (tbh (kf i) (tf1 i) h' true))) (mix i (pS kf tf1 sl h' o) sl) bf n d h' (by omega) i (by omega)) kX2_settle 0 rfl rfl rfl vX2_65 dX2_passHour_126 (by decide) rfl rfl (Nat.le_of_ble_eq_true rfl) (pm_0 _) (List.append_nil _) ?_
          refine j_iinc (v := nI (i + 1)) (lv' := [(2, .int (nI (i + 1))), (0, .ref (q 0)), (1, .int (oI o))]) 2 dX2_passHour_129 rfl (nI_1 i) (by decide) rfl ?_
          refine j_goto (tgt := 48) dX2_passHour_132 (by decide) ?_
          refine j_lv [1, 2, 0] (lv' := [(0, .ref (q 0)), (1, .int (oI o)), (2, .int (nI (i + 1)))]) rfl ?_
          refine j_ws (ws' := nb x q (kf, mix (i + 1) (pT kf tf1 sl h' o) tf1, mix (i + 1) (pS kf tf1 sl h' o) sl, bf, n, d, h')) (by rw [upd_upd, upd_self, mix_self, mix_upd _ _ _ (show _ = pT kf tf1 sl h' o i by first | (simp [pT, pX, cT, h62]; done) | (simp [pT, pX, h62, eo]; done)), mix_bup _ _ _ (show _ = pS kf tf1 sl h' o i by first | (simp [pS, pX, cT, h62]; done) | (simp [pS, pX, h62, eo]; done))]) ?_
          exact ih (i + 1) (by omega) (by omega)
      · skip
        refine j_aload_n 0 dX2_passHour_65 rfl rfl ?_
        refine j_get (v := .ref (q 2)) 0 dX2_passHour_66 fX2_15 rfl rfl ?_
        refine j_iload_n 2 dX2_passHour_69 rfl rfl ?_
        refine j_iconst (v := 0) dX2_passHour_70 (by decide) ?_
        refine j_aload_n 0 dX2_passHour_71 rfl rfl ?_
        refine j_get (v := .ref (q 2)) 0 dX2_passHour_72 fX2_15 rfl rfl ?_
        refine j_iload_n 2 dX2_passHour_75 rfl rfl ?_
        refine j_ialdN (i := i) (f := mix i (pT kf tf1 sl h' o) tf1) 2 dX2_passHour_76 rfl (by omega) (by decide) ?_
        refine j_topi (b := tf1 i) mix_self ?_
        refine j_iconst (v := 3) dX2_passHour_77 (by decide) ?_
        refine j_isub dX2_passHour_78 ?_
        refine j_mmax dX2_passHour_79 mX2_62 (by decide) (Nat.le_of_ble_eq_true rfl) ?_
        refine j_iastN (i := i) (f := mix i (pT kf tf1 sl h' o) tf1) (ws' := nb x q (kf, upd (mix i (pT kf tf1 sl h' o) tf1) i (if 0 < ((tf1 i) - 3) then ((tf1 i) - 3) else 0), mix i (pS kf tf1 sl h' o) sl, bf, n, d, h')) 2 dX2_passHour_82 rfl (by omega) (by decide) rfl ?_
        refine j_goto (tgt := 124) dX2_passHour_83 (by decide) ?_
        refine j_aload_n 0 dX2_passHour_124 rfl rfl ?_
        refine j_iload_n 2 dX2_passHour_125 rfl rfl ?_
        refine j_cVv (As := [.int (nI i)]) (rest := []) (wr := []) (ws' := nb x q (kf, upd (upd (mix i (pT kf tf1 sl h' o) tf1) i (if 0 < ((tf1 i) - 3) then ((tf1 i) - 3) else 0)) i (stT ((upd (mix i (pT kf tf1 sl h' o) tf1) i (if 0 < ((tf1 i) - 3) then ((tf1 i) - 3) else 0)) i)), bup (mix i (pS kf tf1 sl h' o) sl) i (stS ((upd (mix i (pT kf tf1 sl h' o) tf1) i (if 0 < ((tf1 i) - 3) then ((tf1 i) - 3) else 0)) i) ((mix i (pS kf tf1 sl h' o) sl) i)), bf, n, d, h')) (tX2_settle l x q kf (upd (mix i (pT kf tf1 sl h' o) tf1) i (if 0 < ((tf1 i) - 3) then ((tf1 i) - 3) else 0)) (mix i (pS kf tf1 sl h' o) sl) bf n d h' (by omega) i (by omega)) kX2_settle 0 rfl rfl rfl vX2_65 dX2_passHour_126 (by decide) rfl rfl (Nat.le_of_ble_eq_true rfl) (pm_0 _) (List.append_nil _) ?_
        refine j_iinc (v := nI (i + 1)) (lv' := [(2, .int (nI (i + 1))), (0, .ref (q 0)), (1, .int (oI o))]) 2 dX2_passHour_129 rfl (nI_1 i) (by decide) rfl ?_
        refine j_goto (tgt := 48) dX2_passHour_132 (by decide) ?_
        refine j_lv [1, 2, 0] (lv' := [(0, .ref (q 0)), (1, .int (oI o)), (2, .int (nI (i + 1)))]) rfl ?_
        refine j_ws (ws' := nb x q (kf, mix (i + 1) (pT kf tf1 sl h' o) tf1, mix (i + 1) (pS kf tf1 sl h' o) sl, bf, n, d, h')) (by rw [upd_upd, upd_self, mix_self, mix_upd _ _ _ (show _ = pT kf tf1 sl h' o i by first | (simp [pT, pX, cT, h62]; done) | (simp [pT, pX, h62, eo]; done)), mix_bup _ _ _ (show _ = pS kf tf1 sl h' o i by first | (simp [pS, pX, cT, h62]; done) | (simp [pS, pX, h62, eo]; done))]) ?_
        exact ih (i + 1) (by omega) (by omega)
set_option maxHeartbeats 4000000 in
set_option maxRecDepth 100000 in
theorem tX2_passHour (l : Launch) (x : Cx) (q : Nat → Nat) (kf tf : Nat → Int32) (sl : Nat → Bool) (bf : Nat → Int32) (n : Nat) (d h : Int32) (hn : n ≤ 5) : MC l x 2 0 0 yX2_passHour cX2_passHour 3 none [.ref (q 0)] (nb x q (kf, tf, sl, bf, n, d, h)) (eV (nb x q (ph (kf, tf, sl, bf, n, d, h)))) := by
  refine MC.of (by decide) (Nat.le_of_ble_eq_true rfl) eV_fit (fun M => ?_)
  show J M l x cX2_passHour 3 yX2_passHour 2 (eV (nb x q (ph (kf, tf, sl, bf, n, d, h)))) 0 0 0 [(0, .ref (q 0))] [] (nb x q (kf, tf, sl, bf, n, d, h))
  cases hw : wb kf tf sl n with
  | none =>
    refine j_aload_n 0 dX2_passHour_0 rfl rfl ?_
    refine j_cVi (As := []) (rest := []) (wr := []) (ws' := nb x q (kf, tf, sl, bf, n, d, h)) (tX2_whoseBed l x q kf tf sl bf n d h (by omega)) kX2_whoseBed 0 rfl rfl rfl vX2_69 dX2_passHour_1 (by decide) rfl rfl (Nat.le_of_ble_eq_true rfl) (pm_0 _) (List.append_nil _) ?_
    refine j_topi (b := (-1)) (by rw [hw]; rfl) ?_
    refine j_istore_n (lv' := [(1, .int (-1)), (0, .ref (q 0))]) dX2_passHour_4 rfl (by decide) rfl ?_
    refine j_aload_n 1 dX2_passHour_5 rfl rfl ?_
    refine j_dup dX2_passHour_6 rfl ?_
    refine j_get (v := .int h) 0 dX2_passHour_7 fX2_32 rfl rfl ?_
    refine j_iconst (v := 1) dX2_passHour_10 (by decide) ?_
    refine j_iadd dX2_passHour_11 ?_
    refine j_put (v := .int (h + 1)) (ws' := nb x q (kf, tf, sl, bf, n, d, h + 1)) 0 dX2_passHour_12 fX2_32 rfl rfl rfl (Nat.le_of_ble_eq_true rfl) rfl ?_
    refine j_aload_n 1 dX2_passHour_15 rfl rfl ?_
    refine j_iload_n 0 dX2_passHour_16 rfl rfl ?_
    refine j_cVi (As := [.int (-1)]) (rest := []) (wr := []) (ws' := nb x q (kf, tf, sl, bf, n, d, h + 1)) (tX2_knows l x q kf tf sl bf n d (h + 1) (-1)) kX2_knows 0 rfl rfl rfl vX2_55 dX2_passHour_17 (by decide) rfl rfl (Nat.le_of_ble_eq_true rfl) (pm_0 _) (List.append_nil _) ?_
    refine j_ifb_eq (b := kn n (-1)) (tgt := 46) dX2_passHour_20 (by decide) (fun h20 => ?_) (fun h20 => absurd h20 (by rw [kn_m1]; decide))
    refine j_iconst (v := nI 0) dX2_passHour_46 (by decide) ?_
    refine j_istore_n (lv' := [(2, .int (nI 0)), (1, .int (-1)), (0, .ref (q 0))]) dX2_passHour_47 rfl (by decide) rfl ?_
    refine j_lv [2, 1, 0] (lv' := [(0, .ref (q 0)), (1, .int (-1)), (2, .int (nI 0))]) rfl ?_
    have hl := lp_passHour (M := M) (k0 := 0) (n0 := 0) l x q kf (tf) sl (bf) n d (h + 1) none hn (fun j e => by cases e) (n + 1) 0 (by omega) (by omega)
    rw [mix_0, mix_0] at hl
    have e : ph (kf, tf, sl, bf, n, d, h) = (kf, mix n (pT kf (tf) sl (h + 1) none) (tf), mix n (pS kf (tf) sl (h + 1) none) sl, bf, n, d, h + 1) := by simp only [ph, hw, pT1, pB]
    rw [e]
    exact hl
  | some j =>
    have hj := wb_lt hw
    refine j_aload_n 0 dX2_passHour_0 rfl rfl ?_
    refine j_cVi (As := []) (rest := []) (wr := []) (ws' := nb x q (kf, tf, sl, bf, n, d, h)) (tX2_whoseBed l x q kf tf sl bf n d h (by omega)) kX2_whoseBed 0 rfl rfl rfl vX2_69 dX2_passHour_1 (by decide) rfl rfl (Nat.le_of_ble_eq_true rfl) (pm_0 _) (List.append_nil _) ?_
    refine j_topi (b := nI j) (by rw [hw]; rfl) ?_
    refine j_istore_n (lv' := [(1, .int (nI j)), (0, .ref (q 0))]) dX2_passHour_4 rfl (by decide) rfl ?_
    refine j_aload_n 1 dX2_passHour_5 rfl rfl ?_
    refine j_dup dX2_passHour_6 rfl ?_
    refine j_get (v := .int h) 0 dX2_passHour_7 fX2_32 rfl rfl ?_
    refine j_iconst (v := 1) dX2_passHour_10 (by decide) ?_
    refine j_iadd dX2_passHour_11 ?_
    refine j_put (v := .int (h + 1)) (ws' := nb x q (kf, tf, sl, bf, n, d, h + 1)) 0 dX2_passHour_12 fX2_32 rfl rfl rfl (Nat.le_of_ble_eq_true rfl) rfl ?_
    refine j_aload_n 1 dX2_passHour_15 rfl rfl ?_
    refine j_iload_n 0 dX2_passHour_16 rfl rfl ?_
    refine j_cVi (As := [.int (nI j)]) (rest := []) (wr := []) (ws' := nb x q (kf, tf, sl, bf, n, d, h + 1)) (tX2_knows l x q kf tf sl bf n d (h + 1) (nI j)) kX2_knows 0 rfl rfl rfl vX2_55 dX2_passHour_17 (by decide) rfl rfl (Nat.le_of_ble_eq_true rfl) (pm_0 _) (List.append_nil _) ?_
    refine j_ifb_eq (b := kn n (nI j)) (tgt := 46) dX2_passHour_20 (by decide) (fun h20 => absurd h20 (by rw [kn_t hj (by omega)]; decide)) (fun h20 => ?_)
    refine j_aload_n 1 dX2_passHour_23 rfl rfl ?_
    refine j_get (v := .ref (q 4)) 0 dX2_passHour_24 fX2_22 rfl rfl ?_
    refine j_iload_n 0 dX2_passHour_27 rfl rfl ?_
    refine j_dup2 dX2_passHour_28 rfl rfl ?_
    refine j_ialdN (i := j) (f := bf) 4 dX2_passHour_29 rfl (by omega) (by decide) ?_
    refine j_iconst (v := 1) dX2_passHour_30 (by decide) ?_
    refine j_iadd dX2_passHour_31 ?_
    refine j_iastN (i := j) (f := bf) (ws' := nb x q (kf, tf, sl, upd bf j ((bf j) + 1), n, d, h + 1)) 4 dX2_passHour_32 rfl (by omega) (by decide) rfl ?_
    refine j_aload_n 1 dX2_passHour_33 rfl rfl ?_
    refine j_get (v := .ref (q 2)) 0 dX2_passHour_34 fX2_15 rfl rfl ?_
    refine j_iload_n 0 dX2_passHour_37 rfl rfl ?_
    refine j_dup2 dX2_passHour_38 rfl rfl ?_
    refine j_ialdN (i := j) (f := tf) 2 dX2_passHour_39 rfl (by omega) (by decide) ?_
    refine j_aload_n 1 dX2_passHour_40 rfl rfl ?_
    refine j_get (v := .int d) 0 dX2_passHour_41 fX2_29 rfl rfl ?_
    refine j_iadd dX2_passHour_44 ?_
    refine j_iastN (i := j) (f := tf) (ws' := nb x q (kf, upd tf j ((tf j) + d), sl, upd bf j ((bf j) + 1), n, d, h + 1)) 2 dX2_passHour_45 rfl (by omega) (by decide) rfl ?_
    refine j_iconst (v := nI 0) dX2_passHour_46 (by decide) ?_
    refine j_istore_n (lv' := [(2, .int (nI 0)), (1, .int (nI j)), (0, .ref (q 0))]) dX2_passHour_47 rfl (by decide) rfl ?_
    refine j_lv [2, 1, 0] (lv' := [(0, .ref (q 0)), (1, .int (nI j)), (2, .int (nI 0))]) rfl ?_
    have hl := lp_passHour (M := M) (k0 := 0) (n0 := 0) l x q kf (upd tf j (tf j + d)) sl (upd bf j (bf j + 1)) n d (h + 1) (some j) hn (fun j e => by cases e; exact wb_lt hw) (n + 1) 0 (by omega) (by omega)
    rw [mix_0, mix_0] at hl
    have e : ph (kf, tf, sl, bf, n, d, h) = (kf, mix n (pT kf (upd tf j (tf j + d)) sl (h + 1) (some j)) (upd tf j (tf j + d)), mix n (pS kf (upd tf j (tf j + d)) sl (h + 1) (some j)) sl, upd bf j (bf j + 1), n, d, h + 1) := by simp only [ph, hw, pT1, pB]
    rw [e]
    exact hl
set_option maxHeartbeats 4000000 in
set_option maxRecDepth 100000 in
theorem lp_copyFrom {M : Mx} (l : Launch) (x : Cx) (q q2 : Nat → Nat) (kf tf : Nat → Int32) (sl : Nat → Bool) (bf : Nat → Int32) (n : Nat) (d h : Int32) (kf2 tf2 : Nat → Int32) (sl2 : Nat → Bool) (bf2 : Nat → Int32) (n2 : Nat) (d2 h2 : Int32) (hn : n2 ≤ 5) {k0 n0 : Nat}  : ∀ (m : Nat) (i : Nat), i ≤ n2 → n2 - i < m → J M l x cX2_copyFrom 3 yX2_copyFrom 0 (eV (nb x q (cpy (kf2, tf2, sl2, bf2, n2, d2, h2) (kf, tf, sl, bf, n, d, h)) ++ nb x q2 (kf2, tf2, sl2, bf2, n2, d2, h2))) k0 n0 26 [(0, .ref (q 0)), (1, .ref (q2 0)), (2, .int (nI i))] [] (nb x q (mix i kf2 kf, mix i tf2 tf, mix i sl2 sl, mix i bf2 bf, n2, d2, h2) ++ nb x q2 (kf2, tf2, sl2, bf2, n2, d2, h2)) := by
  intro m; induction m with
  | zero => intro i hc0 hm; exact absurd hm (Nat.not_lt_zero _)
  | succ m ih =>
    intro i hc0 hm
    refine j_iload_n 2 dX2_copyFrom_26 rfl rfl ?_
    refine j_aload_n 0 dX2_copyFrom_27 rfl rfl ?_
    refine j_get (v := .int (nI n2)) 0 dX2_copyFrom_28 fX2_25 rfl rfl ?_
    refine j_icmpN_ge (a := i) (b := n2) (by omega) (by omega) (tgt := 88) dX2_copyFrom_31 (by decide) (fun h31 => ?_) (fun h31 => ?_)
    · skip
      exact j_vret _ dX2_copyFrom_88 (List.Perm.refl _) ⟨rfl, by rw [show i = n2 by omega]; rfl⟩
    · skip
      refine j_aload_n 0 dX2_copyFrom_34 rfl rfl ?_
      refine j_get (v := .ref (q 1)) 0 dX2_copyFrom_35 fX2_9 rfl rfl ?_
      refine j_iload_n 2 dX2_copyFrom_38 rfl rfl ?_
      refine j_aload_n 1 dX2_copyFrom_39 rfl rfl ?_
      refine j_get (v := .ref (q2 1)) 5 dX2_copyFrom_40 fX2_9 rfl rfl ?_
      refine j_iload_n 2 dX2_copyFrom_43 rfl rfl ?_
      refine j_ialdN (i := i) (f := kf2) 6 dX2_copyFrom_44 rfl (by omega) (by decide) ?_
      refine j_iastN (i := i) (f := mix i kf2 kf) (ws' := nb x q (upd (mix i kf2 kf) i (kf2 i), mix i tf2 tf, mix i sl2 sl, mix i bf2 bf, n2, d2, h2) ++ nb x q2 (kf2, tf2, sl2, bf2, n2, d2, h2)) 1 dX2_copyFrom_45 rfl (by omega) (by decide) rfl ?_
      refine j_aload_n 0 dX2_copyFrom_46 rfl rfl ?_
      refine j_get (v := .ref (q 2)) 0 dX2_copyFrom_47 fX2_15 rfl rfl ?_
      refine j_iload_n 2 dX2_copyFrom_50 rfl rfl ?_
      refine j_aload_n 1 dX2_copyFrom_51 rfl rfl ?_
      refine j_get (v := .ref (q2 2)) 5 dX2_copyFrom_52 fX2_15 rfl rfl ?_
      refine j_iload_n 2 dX2_copyFrom_55 rfl rfl ?_
      refine j_ialdN (i := i) (f := tf2) 7 dX2_copyFrom_56 rfl (by omega) (by decide) ?_
      refine j_iastN (i := i) (f := mix i tf2 tf) (ws' := nb x q (upd (mix i kf2 kf) i (kf2 i), upd (mix i tf2 tf) i (tf2 i), mix i sl2 sl, mix i bf2 bf, n2, d2, h2) ++ nb x q2 (kf2, tf2, sl2, bf2, n2, d2, h2)) 2 dX2_copyFrom_57 rfl (by omega) (by decide) rfl ?_
      refine j_aload_n 0 dX2_copyFrom_58 rfl rfl ?_
      refine j_get (v := .ref (q 3)) 0 dX2_copyFrom_59 fX2_18 rfl rfl ?_
      refine j_iload_n 2 dX2_copyFrom_62 rfl rfl ?_
      refine j_aload_n 1 dX2_copyFrom_63 rfl rfl ?_
      refine j_get (v := .ref (q2 3)) 5 dX2_copyFrom_64 fX2_18 rfl rfl ?_
      refine j_iload_n 2 dX2_copyFrom_67 rfl rfl ?_
      refine j_zaldB (i := i) (f := sl2) 8 dX2_copyFrom_68 rfl (by omega) (by decide) ?_
      refine j_zastB (i := i) (f := mix i sl2 sl) (ws' := nb x q (upd (mix i kf2 kf) i (kf2 i), upd (mix i tf2 tf) i (tf2 i), bup (mix i sl2 sl) i (sl2 i), mix i bf2 bf, n2, d2, h2) ++ nb x q2 (kf2, tf2, sl2, bf2, n2, d2, h2)) 3 (sl2 i) dX2_copyFrom_69 rfl (by omega) (by decide) rfl ?_
      refine j_aload_n 0 dX2_copyFrom_70 rfl rfl ?_
      refine j_get (v := .ref (q 4)) 0 dX2_copyFrom_71 fX2_22 rfl rfl ?_
      refine j_iload_n 2 dX2_copyFrom_74 rfl rfl ?_
      refine j_aload_n 1 dX2_copyFrom_75 rfl rfl ?_
      refine j_get (v := .ref (q2 4)) 5 dX2_copyFrom_76 fX2_22 rfl rfl ?_
      refine j_iload_n 2 dX2_copyFrom_79 rfl rfl ?_
      refine j_ialdN (i := i) (f := bf2) 9 dX2_copyFrom_80 rfl (by omega) (by decide) ?_
      refine j_iastN (i := i) (f := mix i bf2 bf) (ws' := nb x q (upd (mix i kf2 kf) i (kf2 i), upd (mix i tf2 tf) i (tf2 i), bup (mix i sl2 sl) i (sl2 i), upd (mix i bf2 bf) i (bf2 i), n2, d2, h2) ++ nb x q2 (kf2, tf2, sl2, bf2, n2, d2, h2)) 4 dX2_copyFrom_81 rfl (by omega) (by decide) rfl ?_
      refine j_iinc (v := nI (i + 1)) (lv' := [(2, .int (nI (i + 1))), (0, .ref (q 0)), (1, .ref (q2 0))]) 2 dX2_copyFrom_82 rfl (nI_1 i) (by decide) rfl ?_
      refine j_goto (tgt := 26) dX2_copyFrom_85 (by decide) ?_
      refine j_lv [1, 2, 0] (lv' := [(0, .ref (q 0)), (1, .ref (q2 0)), (2, .int (nI (i + 1)))]) rfl ?_
      refine j_ws (ws' := nb x q (mix (i + 1) kf2 kf, mix (i + 1) tf2 tf, mix (i + 1) sl2 sl, mix (i + 1) bf2 bf, n2, d2, h2) ++ nb x q2 (kf2, tf2, sl2, bf2, n2, d2, h2)) (by rw [mix_upd _ _ _ rfl, mix_upd _ _ _ rfl, mix_bup _ _ _ rfl, mix_upd _ _ _ rfl]) ?_
      exact ih (i + 1) (by omega) (by omega)
set_option maxHeartbeats 4000000 in
set_option maxRecDepth 100000 in
theorem tX2_copyFrom (l : Launch) (x : Cx) (q q2 : Nat → Nat) (kf tf : Nat → Int32) (sl : Nat → Bool) (bf : Nat → Int32) (n : Nat) (d h : Int32) (kf2 tf2 : Nat → Int32) (sl2 : Nat → Bool) (bf2 : Nat → Int32) (n2 : Nat) (d2 h2 : Int32) (hn : n2 ≤ 5) : MC l x 0 0 0 yX2_copyFrom cX2_copyFrom 3 none [.ref (q 0), .ref (q2 0)] (nb x q (kf, tf, sl, bf, n, d, h) ++ nb x q2 (kf2, tf2, sl2, bf2, n2, d2, h2)) (eV (nb x q (cpy (kf2, tf2, sl2, bf2, n2, d2, h2) (kf, tf, sl, bf, n, d, h)) ++ nb x q2 (kf2, tf2, sl2, bf2, n2, d2, h2))) := by
  refine MC.of (by decide) (Nat.le_of_ble_eq_true rfl) eV_fit (fun M => ?_)
  show J M l x cX2_copyFrom 3 yX2_copyFrom 0 (eV (nb x q (cpy (kf2, tf2, sl2, bf2, n2, d2, h2) (kf, tf, sl, bf, n, d, h)) ++ nb x q2 (kf2, tf2, sl2, bf2, n2, d2, h2))) 0 0 0 [(0, .ref (q 0)), (1, .ref (q2 0))] [] (nb x q (kf, tf, sl, bf, n, d, h) ++ nb x q2 (kf2, tf2, sl2, bf2, n2, d2, h2))
  refine j_aload_n 0 dX2_copyFrom_0 rfl rfl ?_
  refine j_aload_n 1 dX2_copyFrom_1 rfl rfl ?_
  refine j_get (v := .int (nI n2)) 5 dX2_copyFrom_2 fX2_25 rfl rfl ?_
  refine j_put (v := .int (nI n2)) (ws' := nb x q (kf, tf, sl, bf, n2, d, h) ++ nb x q2 (kf2, tf2, sl2, bf2, n2, d2, h2)) 0 dX2_copyFrom_5 fX2_25 rfl rfl rfl (Nat.le_of_ble_eq_true rfl) rfl ?_
  refine j_aload_n 0 dX2_copyFrom_8 rfl rfl ?_
  refine j_aload_n 1 dX2_copyFrom_9 rfl rfl ?_
  refine j_get (v := .int d2) 5 dX2_copyFrom_10 fX2_29 rfl rfl ?_
  refine j_put (v := .int d2) (ws' := nb x q (kf, tf, sl, bf, n2, d2, h) ++ nb x q2 (kf2, tf2, sl2, bf2, n2, d2, h2)) 0 dX2_copyFrom_13 fX2_29 rfl rfl rfl (Nat.le_of_ble_eq_true rfl) rfl ?_
  refine j_aload_n 0 dX2_copyFrom_16 rfl rfl ?_
  refine j_aload_n 1 dX2_copyFrom_17 rfl rfl ?_
  refine j_get (v := .int h2) 5 dX2_copyFrom_18 fX2_32 rfl rfl ?_
  refine j_put (v := .int h2) (ws' := nb x q (kf, tf, sl, bf, n2, d2, h2) ++ nb x q2 (kf2, tf2, sl2, bf2, n2, d2, h2)) 0 dX2_copyFrom_21 fX2_32 rfl rfl rfl (Nat.le_of_ble_eq_true rfl) rfl ?_
  refine j_iconst (v := nI 0) dX2_copyFrom_24 (by decide) ?_
  refine j_istore_n (lv' := [(2, .int (nI 0)), (0, .ref (q 0)), (1, .ref (q2 0))]) dX2_copyFrom_25 rfl (by decide) rfl ?_
  refine j_lv [1, 2, 0] (lv' := [(0, .ref (q 0)), (1, .ref (q2 0)), (2, .int (nI 0))]) rfl ?_
  have hl := lp_copyFrom (M := M) (k0 := 0) (n0 := 0) l x q q2 kf tf sl bf n d h kf2 tf2 sl2 bf2 n2 d2 h2 hn (n2 + 1) 0 (by omega) (by omega)
  rw [mix_0, mix_0, mix_0, mix_0] at hl
  exact hl
