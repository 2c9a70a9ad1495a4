/-! the law's loop, its entry -/
theorem len4 {L i : Nat} (hL : L ≤ 256) (hi : i ≤ 256) (h : ¬ nI L - 4 < nI i) : i + 4 ≤ L := by
  rcases Nat.lt_or_ge L 4 with c | c
  · have h1 : ∀ L, L < 4 → nI L - 4 < 0 := by decide
    have h2 := h1 L c
    exact absurd (by
      rw [Int32.lt_iff_toInt_lt] at h2 ⊢
      rw [nI_toInt (by omega)]
      have : (0 : Int32).toInt = 0 := by decide
      omega) h
  · rw [show (4 : Int32) = nI 4 from rfl, pk_sub c] at h
    have h3 := mt (nI_ltI (a := L - 4) (b := i) (by omega) (by omega)).mpr h
    omega
set_option maxHeartbeats 4000000 in
set_option maxRecDepth 100000 in
theorem law_loop {M : Mx} {l : Launch} {x : Cx} {b L : Nat} {xs : Nat → Int32} (hX : jX M b L xs) {A a : Nat → Nat → Nat} {r q : Nat → Nat} (hL : L ≤ 256) : ∀ (f i : Nat) (ws : va_W), i ≤ L → L < f + i → LI x A a r q i ws → J M l x cL_law 4 yL_law 12 pL1 0 0 18 [(0, .ref b), (1, .ref (A 0 0)), (2, .ref (q 0)), (3, .int (nI i))] [] ws := by
  intro f
  induction f with
  | zero => intro i ws h1 h2 h; omega
  | succ f ih =>
    intro i ws h1 h2 h
    refine j_iload_n 3 dL_law_18 rfl rfl ?_
    refine j_aload_n 0 dL_law_19 rfl rfl ?_
    refine j_slen hX dL_law_20 ?_
    refine j_iconst (v := 4) dL_law_21 (by decide) ?_
    refine j_isub dL_law_22 ?_
    refine j_icmp_gt (tgt := 585) dL_law_23 (by decide) (fun _ => ?_) (fun h23 => ?_)
    · refine j_iconst (v := 1) dL_law_585 (by decide) ?_
      exact j_iret _ dL_law_586 (List.Perm.refl _) rfl
    · have hi : i + 4 ≤ L := len4 hL (by omega) h23
      refine j_aload_n 0 dL_law_26 rfl rfl ?_
      refine j_iload_n 3 dL_law_27 rfl rfl ?_
      refine j_sld hX (by omega) hL dL_law_28 ?_
      refine j_bipush (v := 31) dL_law_29 (by decide) ?_
      refine j_iand dL_law_31 ?_
      obtain ⟨j, hj, ej⟩ := pk_andE (xs i) (m := 31) 5 (by decide)
      have kk : ∀ ws', LI x A a r q (i + 1) ws' → J M l x cL_law 4 yL_law 12 pL1 0 0 579 [(0, .ref b), (1, .ref (A 0 0)), (2, .ref (q 0)), (3, .int (nI i))] [] ws' := fun ws' h' => by
        refine j_iinc (v := nI (i + 4)) (lv' := [(3, .int (nI (i + 4))), (0, .ref b), (1, .ref (A 0 0)), (2, .ref (q 0))]) 3 dL_law_579 rfl (nI_add i 4) (by decide) rfl ?_
        refine j_lv [1, 2, 3, 0] (lv' := [(0, .ref b), (1, .ref (A 0 0)), (2, .ref (q 0)), (3, .int (nI (i + 4)))]) rfl ?_
        refine j_goto (tgt := 18) dL_law_582 (by decide) ?_
        exact ih (i + 4) ws' (by omega) (by omega) (h'.mono (by omega))
      by_cases s0 : xs i &&& 31 = 0
      · refine j_tabC (0) 0 s0 (by decide) dL_law_32 rfl (by decide : (32 : Int) + 96 = ((128 : Nat) : Int)) ?_
        exact lc_letter hX hi hL h kk
      by_cases s1 : xs i &&& 31 = 1
      · refine j_tabC (1) 1 s1 (by decide) dL_law_32 rfl (by decide : (32 : Int) + 119 = ((151 : Nat) : Int)) ?_
        exact lc_blank hX hi hL h kk
      by_cases s2 : xs i &&& 31 = 2
      · refine j_tabC (2) 2 s2 (by decide) dL_law_32 rfl (by decide : (32 : Int) + 132 = ((164 : Nat) : Int)) ?_
        exact lc_fault hX hi hL h kk
      by_cases s3 : xs i &&& 31 = 3
      · refine j_tabC (3) 3 s3 (by decide) dL_law_32 rfl (by decide : (32 : Int) + 145 = ((177 : Nat) : Int)) ?_
        exact lc_house hX hi hL h kk
      by_cases s4 : xs i &&& 31 = 4
      · refine j_tabC (4) 4 s4 (by decide) dL_law_32 rfl (by decide : (32 : Int) + 158 = ((190 : Nat) : Int)) ?_
        exact lc_about hX hi hL h kk
      by_cases s5 : xs i &&& 31 = 5
      · refine j_tabC (5) 5 s5 (by decide) dL_law_32 rfl (by decide : (32 : Int) + 191 = ((223 : Nat) : Int)) ?_
        exact lc_as hX hi hL h kk
      by_cases s6 : xs i &&& 31 = 6
      · refine j_tabC (6) 6 s6 (by decide) dL_law_32 rfl (by decide : (32 : Int) + 224 = ((256 : Nat) : Int)) ?_
        exact lc_bed hX hi hL h kk
      by_cases s7 : xs i &&& 31 = 7
      · refine j_tabC (7) 7 s7 (by decide) dL_law_32 rfl (by decide : (32 : Int) + 237 = ((269 : Nat) : Int)) ?_
        exact lc_coffee hX hi hL h kk
      by_cases s8 : xs i &&& 31 = 8
      · refine j_tabC (8) 8 s8 (by decide) dL_law_32 rfl (by decide : (32 : Int) + 260 = ((292 : Nat) : Int)) ?_
        exact lc_lecture hX hi hL h kk
      by_cases s9 : xs i &&& 31 = 9
      · refine j_tabC (9) 9 s9 (by decide) dL_law_32 rfl (by decide : (32 : Int) + 283 = ((315 : Nat) : Int)) ?_
        exact lc_hour hX hi hL h kk
      by_cases s10 : xs i &&& 31 = 10
      · refine j_tabC (10) 10 s10 (by decide) dL_law_32 rfl (by decide : (32 : Int) + 296 = ((328 : Nat) : Int)) ?_
        exact lc_cups hX hi hL h kk
      by_cases s11 : xs i &&& 31 = 11
      · refine j_tabC (11) 11 s11 (by decide) dL_law_32 rfl (by decide : (32 : Int) + 329 = ((361 : Nat) : Int)) ?_
        exact lc_lectures hX hi hL h kk
      by_cases s12 : xs i &&& 31 = 12
      · refine j_tabC (12) 12 s12 (by decide) dL_law_32 rfl (by decide : (32 : Int) + 372 = ((404 : Nat) : Int)) ?_
        exact lc_sunday hX hi hL h kk
      by_cases s13 : xs i &&& 31 = 13
      · refine j_tabC (13) 13 s13 (by decide) dL_law_32 rfl (by decide : (32 : Int) + 395 = ((427 : Nat) : Int)) ?_
        exact lc_see hX hi hL h kk
      by_cases s14 : xs i &&& 31 = 14
      · refine j_tabC (14) 14 s14 (by decide) dL_law_32 rfl (by decide : (32 : Int) + 428 = ((460 : Nat) : Int)) ?_
        exact lc_forget hX hi hL h kk
      by_cases s15 : xs i &&& 31 = 15
      · refine j_tabC (15) 15 s15 (by decide) dL_law_32 rfl (by decide : (32 : Int) + 441 = ((473 : Nat) : Int)) ?_
        exact lc_nights hX hi hL h kk
      by_cases s16 : xs i &&& 31 = 16
      · refine j_tabC (16) 16 s16 (by decide) dL_law_32 rfl (by decide : (32 : Int) + 484 = ((516 : Nat) : Int)) ?_
        exact lc_image hX hi hL h kk
      by_cases s17 : xs i &&& 31 = 17
      · refine j_tabC (17) 17 s17 (by decide) dL_law_32 rfl (by decide : (32 : Int) + 497 = ((529 : Nat) : Int)) ?_
        exact lc_restore hX hi hL h kk
      by_cases s18 : xs i &&& 31 = 18
      · refine j_tabC (18) 18 s18 (by decide) dL_law_32 rfl (by decide : (32 : Int) + 510 = ((542 : Nat) : Int)) ?_
        exact lc_count hX hi hL h kk
      by_cases s19 : xs i &&& 31 = 19
      · refine j_tabC (19) 19 s19 (by decide) dL_law_32 rfl (by decide : (32 : Int) + 533 = ((565 : Nat) : Int)) ?_
        exact lc_digest hX hi hL h kk
      have hn : ∀ c : Nat, ¬ xs i &&& 31 = nI c → ¬ j = c := fun c hc e => hc (by rw [ej, e])
      have t0 := hn 0 s0
      have t1 := hn 1 s1
      have t2 := hn 2 s2
      have t3 := hn 3 s3
      have t4 := hn 4 s4
      have t5 := hn 5 s5
      have t6 := hn 6 s6
      have t7 := hn 7 s7
      have t8 := hn 8 s8
      have t9 := hn 9 s9
      have t10 := hn 10 s10
      have t11 := hn 11 s11
      have t12 := hn 12 s12
      have t13 := hn 13 s13
      have t14 := hn 14 s14
      have t15 := hn 15 s15
      have t16 := hn 16 s16
      have t17 := hn 17 s17
      have t18 := hn 18 s18
      have t19 := hn 19 s19
      refine j_tabOut dL_law_32 (Or.inr (by rw [ej, nI_toInt (by omega)]; omega)) (by decide : (32 : Int) + 547 = ((579 : Nat) : Int)) ?_
      exact kk _ (h.mono (Nat.le_succ i))
set_option maxHeartbeats 4000000 in
theorem cx_of {s : State} {args : Array Value} (hts : ∀ w ∈ lw_tbl, w.before args s = true) : ∃ cx : Cx, cxK cx s := by
  have hgw : ∀ w ∈ gw, w.before args s = true := fun w hw => hts w (List.mem_filter.mp hw).1
  obtain ⟨c0, i0, hK0⟩ := u_known (C := RX0) (T := TX0) (N := 4) (n := 4) hgw uX0 (hgw (.instantiable RX0 4) (gw_in (by decide +kernel) (by decide +kernel)))
  obtain ⟨c1, i1, hK1⟩ := u_known (C := RX1) (T := TX1) (N := 3) (n := 3) hgw uX1 (hgw (.instantiable RX1 3) (gw_in (by decide +kernel) (by decide +kernel)))
  obtain ⟨c2, i2, hK2⟩ := u_known (C := RX2) (T := TX2) (N := 7) (n := 7) hgw uX2 (hgw (.instantiable RX2 7) (gw_in (by decide +kernel) (by decide +kernel)))
  obtain ⟨c3, i3, hK3⟩ := u_known (C := RX3) (T := TX3) (N := 2) (n := 2) hgw uX3 (hgw (.instantiable RX3 2) (gw_in (by decide +kernel) (by decide +kernel)))
  obtain ⟨c4, i4, hK4⟩ := u_known (C := RX4) (T := TX4) (N := 3) (n := 3) hgw uX4 (hgw (.instantiable RX4 3) (gw_in (by decide +kernel) (by decide +kernel)))
  obtain ⟨c5, i5, hK5⟩ := u_known (C := RX5) (T := TX5) (N := 11) (n := 11) hgw uX5 (hgw (.instantiable RX5 11) (gw_in (by decide +kernel) (by decide +kernel)))
  obtain ⟨c6, i6, hK6⟩ := u_known (C := RX6) (T := TX6) (N := 27) (n := 27) hgw uX6 (hgw (.instantiable RX6 27) (gw_in (by decide +kernel) (by decide +kernel)))
  obtain ⟨a0, k0, m0, f0, g0, h0⟩ := Cond.arrayClass_spec (hts (.arrayClass .int) (by decide +kernel))
  obtain ⟨a1, k1, m1, f1, g1, h1⟩ := Cond.arrayClass_spec (hts (.arrayClass .boolean) (by decide +kernel))
  obtain ⟨a2, k2, m2, f2, g2, h2⟩ := Cond.arrayClass_spec (hts (.arrayClass .byte) (by decide +kernel))
  have hN := hts (.arrayOver (.object "WakefulBed$Night")) (by decide +kernel)
  have hM := hts (.arrayOver (.array .int)) (by decide +kernel)
  obtain ⟨m3, a3, k3, e3, -, g3, h3, f3⟩ := Cond.arrayOver_spec hN
  obtain ⟨m4, a4, k4, e4, -, g4, h4, f4⟩ := arrayOverA_spec hM
  refine ⟨((fun k => match k with | 0 => c0 | 1 => c1 | 2 => c2 | 3 => c3 | 4 => c4 | 5 => c5 | _ => c6, fun k => match k with | 0 => i0 | 1 => i1 | 2 => i2 | 3 => i3 | 4 => i4 | 5 => i5 | _ => i6), a0, a1, a2, a3, a4), ⟨?_, ?_⟩, va_Nw.of rfl (hts nst1 (by decide +kernel)), va_Nw.of rfl (hts nst2 (by decide +kernel)), va_Nw.of rfl (hts nst3 (by decide +kernel)), va_AO.of hN, ⟨k4, g4, h4.trans (by rw [Option.some.inj (e4.symm.trans f0)])⟩, va_Nw.of rfl (hts nst4 (by decide +kernel))⟩
  · intro k q hq
    match k, hq with
    | 0, hq => cases hq; exact hK0
    | 1, hq => cases hq; exact hK1
    | 2, hq => cases hq; exact hK2
    | 3, hq => cases hq; exact hK3
    | 4, hq => cases hq; exact hK4
    | 5, hq => cases hq; exact hK5
    | 6, hq => cases hq; exact hK6
    | k + 7, hq => simp [vwCl] at hq
  · intro k q hq
    match k, hq with
    | 0, hq => cases hq; exact ⟨fun N z => ⟨fun k h => (by cases h), k0, g0, m0, h0⟩, f0⟩
    | 1, hq => cases hq; exact ⟨fun N z => ⟨fun k h => (by cases h), k1, g1, m1, h1⟩, f1⟩
    | 2, hq => cases hq; exact ⟨fun N z => ⟨fun k h => (by cases h), k2, g2, m2, h2⟩, f2⟩
    | 3, hq => cases hq; exact ⟨fun N z => ⟨fun k h => (by cases h), k3, g3, m3, h3⟩, k3, m3, g3, h3, e3, f3⟩
    | 4, hq => cases hq; exact ⟨fun N z => ⟨fun k h => (by cases h), k4, g4, m4, h4⟩, f4⟩
    | k + 5, hq => simp [cxT] at hq
set_option maxHeartbeats 4000000 in
set_option maxRecDepth 100000 in
/-- the law's body from its entry -/
theorem law_body {M : Mx} {l : Launch} {x : Cx} {b L : Nat} {xs : Nat → Int32} (hX : jX M b L xs) (hL : L ≤ 256) : J M l x cL_law 4 yL_law 12 pL1 72 651 0 [(0, .ref b)] [] [] := by
  refine j_new (y := yL_law) (k := 71) (n := 640) (N := 11) dL_law_0 wL_7 (fun a1 => ?_)
  refine j_dup dL_law_3 rfl ?_
  refine j_callI (As := []) (rest := [.ref a1]) (wr := []) (k2 := 14) (n2 := 251) (tX5_init l x a1) kX5_init iL_9 dL_law_4 (by decide) (by decide) (by decide) rfl rfl (Nat.le_of_ble_eq_true rfl) (pm_0 _) (fun v9 w9 hv9 => ?_)
  obtain ⟨rfl, A, a, r, rfl, rfl⟩ := hv9
  refine j_eq (lv' := [(0, .ref b)]) (st' := [.ref (A 0 0)]) (ws' := cw x A a r c0 z0) rfl rfl (List.append_nil _) ?_
  refine j_astore_n (lv' := [(1, .ref (A 0 0)), (0, .ref b)]) dL_law_7 rfl (by decide) rfl ?_
  refine j_new (y := yL_law) (k := 13) (n := 224) (N := 27) dL_law_8 wL_10 (fun a2 => ?_)
  refine j_dup dL_law_11 rfl ?_
  refine j_callI (As := []) (rest := [.ref a2]) (wr := cw x A a r c0 z0) (k2 := 0) (n2 := 0) (tX6_init l x a2) kX6_init iL_12 dL_law_12 (by decide) (by decide) (by decide) rfl rfl (Nat.le_of_ble_eq_true rfl) (List.Perm.refl _) (fun v9 w9 hv9 => ?_)
  obtain ⟨rfl, q, rfl, rfl⟩ := hv9
  refine j_eq (lv' := [(1, .ref (A 0 0)), (0, .ref b)]) (st' := [.ref (q 0)]) (ws' := mb x q n0 s0 g0 (false, 0) k0S o0S ++ cw x A a r c0 z0) rfl rfl rfl ?_
  refine j_perm _ List.perm_append_comm ?_
  refine j_astore_n (lv' := [(2, .ref (q 0)), (1, .ref (A 0 0)), (0, .ref b)]) dL_law_15 rfl (by decide) rfl ?_
  refine j_iconst (v := nI 0) dL_law_16 (by decide) ?_
  refine j_istore_n (lv' := [(3, .int (nI 0)), (2, .ref (q 0)), (1, .ref (A 0 0)), (0, .ref b)]) dL_law_17 rfl (by decide) rfl ?_
  refine j_lv [3, 2, 1, 0] (lv' := [(0, .ref b), (1, .ref (A 0 0)), (2, .ref (q 0)), (3, .int (nI 0))]) rfl ?_
  exact law_loop hX hL (L + 1) 0 _ (Nat.zero_le _) (by omega) ⟨c0, z0, n0, s0, g0, (false, 0), k0S, o0S, rfl, ⟨Nat.zero_le _, Nat.zero_le _, Nat.zero_le _, Nat.zero_le _, Nat.zero_le _⟩, REL_0, Nat.le_refl _⟩
