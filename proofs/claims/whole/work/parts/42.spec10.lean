/-! the drawing, in long numbers; images -/
theorem lg_nn {z : Nat} (h : z < 2147483648) : ((BitVec.ofNat 32 z).signExtend 64).toNat = z := by
  rw [BitVec.toNat_signExtend]
  have h1 : (BitVec.ofNat 32 z).toNat = z := by rw [BitVec.toNat_ofNat]; omega
  have h2 : (BitVec.ofNat 32 z).msb = false := by rw [BitVec.msb_eq_decide, h1]; simp; omega
  rw [h2, BitVec.toNat_setWidth, h1]
  simp only [Bool.false_eq_true, if_false]
  omega
theorem nx_long (s : Int32) : ((1103515245 : Int64) * s.toInt64 + 12345) &&& 2147483647 = (nxS s).toInt64 := by
  apply Int64.toBitVec_inj.mp
  apply BitVec.eq_of_toNat_eq
  have h1 : (((1103515245 : Int64) * s.toInt64 + 12345) &&& 2147483647).toBitVec = (1103515245#64 * s.toBitVec.signExtend 64 + 12345#64) &&& 2147483647#64 := rfl
  have h2 : (nxS s).toInt64.toBitVec = ((1103515245#32 * s.toBitVec + 12345#32) &&& 2147483647#32).signExtend 64 := rfl
  have hm : ∀ z : Nat, z &&& 2147483647 = z % 2147483648 := fun z => Nat.and_two_pow_sub_one_eq_mod z 31
  have e2 : (1103515245#32 * s.toBitVec + 12345#32) &&& 2147483647#32 = BitVec.ofNat 32 ((1103515245 * s.toBitVec.toNat + 12345) % 2147483648) := by
    apply BitVec.eq_of_toNat_eq
    rw [BitVec.toNat_and, BitVec.toNat_add, BitVec.toNat_mul, BitVec.toNat_ofNat, BitVec.toNat_ofNat, BitVec.toNat_ofNat, BitVec.toNat_ofNat]
    rw [show 2147483647 % 2 ^ 32 = 2147483647 from rfl, hm, show 1103515245 % 2 ^ 32 = 1103515245 from rfl, show 12345 % 2 ^ 32 = 12345 from rfl]
    generalize 1103515245 * s.toBitVec.toNat = y
    omega
  rw [h1, h2, e2, lg_nn (Nat.mod_lt _ (by decide)), BitVec.toNat_and, BitVec.toNat_add, BitVec.toNat_mul, BitVec.toNat_ofNat, BitVec.toNat_ofNat, BitVec.toNat_ofNat, BitVec.toNat_signExtend, BitVec.toNat_setWidth]
  rw [show 2147483647 % 2 ^ 64 = 2147483647 from rfl, hm]
  have hb := s.toBitVec.isLt
  split <;> omega
theorem lg_nI {a : Nat} (h : a < 2 ^ 31) : (nI a).toInt64.toInt = a := by
  rw [Int32.toInt_toInt64, nI_toInt h]
theorem lg_div {a d : Nat} (ha : a < 2 ^ 31) (h0 : 0 < d) (hd : d < 2 ^ 31) : (nI a).toInt64 / (nI d).toInt64 = (nI (a / d)).toInt64 := by
  apply Int64.toInt_inj.mp
  rw [lg_ldiv_nonneg (by rw [lg_nI ha]; omega) (by rw [lg_nI hd]; omega), lg_nI ha, lg_nI hd, lg_nI (Nat.lt_of_le_of_lt (Nat.div_le_self a d) ha)]
  exact (Int.natCast_ediv _ _).symm
theorem dr_long {t : Int32} (ht : 0 ≤ t) {n : Nat} (h0 : 0 < n) (hn : n < 2 ^ 31) : (t.toInt64 / 65536 - t.toInt64 / 65536 / (nI n).toInt64 * (nI n).toInt64).toInt32 = nI (drN t n) := by
  obtain ⟨j, hj, rfl⟩ := nI_of (x := t) (nlt_of_le ht)
  rw [show (65536 : Int64) = (nI 65536).toInt64 from rfl, lg_div hj (by decide) (by decide), lg_div (by omega) h0 hn, lg_l2i_sub, lg_l2i_mul, lg_l2i_i2l, lg_l2i_i2l, lg_l2i_i2l, ← pk_div (by omega) h0 hn, pk_rem (by omega) h0 hn, drN, nI_toInt hj]
  rfl
theorem lg_n0 {n : Nat} (h0 : 0 < n) (hn : n < 2 ^ 31) : ¬ (nI n).toInt64 = 0 := fun e => by
  have h := congrArg Int64.toInt e
  rw [lg_nI hn] at h
  have : (0 : Int64).toInt = 0 := by decide
  omega
def setS (o : OS) (z : Int64) : OS := match o with
  | (ho, as, sv, sd, wy, _, hh) => (ho, as, sv, sd, wy, z, hh)
def setH (o : OS) (z : Int64) : OS := match o with
  | (ho, as, sv, sd, wy, se, _) => (ho, as, sv, sd, wy, se, z)
theorem sim_bgS {u w : NS} {o : OS} {z : Int64} (hn : nN u ≤ 5) (f : frm u w) : sim u o (enU w (setS (bgO u o) z)) (setS (bgO u o) z) := by
  obtain ⟨ho, as, sv, sd, wy0, se, hh⟩ := o
  refine ⟨eqN_en (o := (ho, as, sv, sd, wy0, se, hh)) hn f rfl rfl, rfl, rfl, fun i hi => ?_, rfl⟩
  exact svW_o (Or.inr (by omega))
theorem okN_ngS {s c : Int32} {u : NS} (h : okN u) (h0 : 0 < nN u) : okN (ngS (s, u, c)).2.1 := by
  show okN (ph (lec (cof u (drN (nxS s) (nN u))) (some (drN (nxS (nxS s)) (nN u)))))
  exact okN_ph (okN_lec (okN_cof h _ (drN_lt _ h0)) _)
theorem toI32_64 (v : Int32) : v.toInt64.toInt32 = v := lg_l2i_i2l v
/-- an image's parts and what comes back of them -/
def imO (u : NS) (o : OS) : OS := svO 1 u o
def imK (u : NS) (v : SS) (kp : KS) (ho : Nat) : KS := match kp with
  | (_, _, _, kd, khs, kwh) => (true, ho, v.2.2, mix 5 u.2.2.2.1 kd, mix 6 v.1 khs, mix 6 v.2.1 kwh)
def reU (u : NS) (kp : KS) (o : OS) : NS := setB (ldU 1 u o.2.2.1) (mix 5 kp.2.2.2.1 u.2.2.2.1)
def reV (v : SS) (kp : KS) : SS := (mix 6 kp.2.2.2.2.1 v.1, mix 6 kp.2.2.2.2.2 v.2.1, kp.2.2.1)
theorem sim_mix {u u' : NS} {o o' : OS} {z y : Int64} (h : sim u (setH o z) u' o') : sim u (setH o (31 * z + y)) u' (setH o' (31 * o'.2.2.2.2.2.2 + y)) := by
  obtain ⟨ho, as, sv, sd, wy, se, hh⟩ := o
  obtain ⟨ho', as', sv', sd', wy', se', hh'⟩ := o'
  obtain ⟨a, b, c, d, e⟩ := h
  have e : hh' = z := e
  refine ⟨a, b, c, d, ?_⟩
  show 31 * hh' + y = 31 * z + y
  rw [e]
theorem sim.hz {u u' : NS} {o o' : OS} {z : Int64} (h : sim u (setH o z) u' o') : o'.2.2.2.2.2.2 = z := h.2.2.2.2
/-! houses that agree answer alike -/
theorem eqN.btE {u w : NS} (h : eqN u w) (v : SS) (j : Nat) : bitsU u v j = bitsU w v j := by
  have e : ∀ t, bed u j t = bed w j t := fun t => funext (fun k => h.dE j t k)
  rw [bitsU, bitsU]
  exact btF_cong (fun t _ => by rw [e t])
theorem eqN.abE {u w : NS} (h : eqN u w) (v : SS) {j : Nat} (hj : j < nN u) (a : Int32) : abU u v j a = abU w v j a := by
  obtain ⟨h1, h2, h3, h4⟩ := h.2 j hj
  have e : bed u j = bed w j := funext (fun t => funext (fun k => h.dE j t k))
  rw [abU, abU, h1, h2, h3, h4, h.wE, h.btE, e, h.nE]
theorem tog_cong {kf tf kf' tf' : Nat → Int32} {h : Int32} {a b : Nat} (h1 : kf a = kf' a) (h2 : tf a = tf' a) (h3 : kf b = kf' b) (h4 : tf b = tf' b) : tog kf tf h a b = tog kf' tf' h a b := by rw [tog, tog, h1, h2, h3, h4]
theorem eqN.prE {u w : NS} (h : eqN u w) : prU u = prU w := by
  obtain ⟨kf, tf, sl, bf, n, d, hh⟩ := u
  obtain ⟨kf2, tf2, sl2, bf2, n2, d2, hh2⟩ := w
  obtain ⟨h1, h3⟩ := h
  cases h1
  have h3 : ∀ i, i < n → kf i = kf2 i ∧ tf i = tf2 i ∧ sl i = sl2 i ∧ bf i = bf2 i := h3
  refine itr_cong _ _ _ (fun a s _ ha => ?_)
  refine itr_cong _ _ _ (fun b s _ hb => ?_)
  obtain ⟨a1, a2, a3, _⟩ := h3 a (by omega)
  obtain ⟨b1, b2, b3, _⟩ := h3 b (by omega)
  rw [prS, prS, may_cong a1 a3, may_cong b1 b3, tog_cong a1 a2 b1 b2]
theorem sumT_cong {f g : Nat → Int32} : ∀ {n : Nat}, (∀ i, i < n → f i = g i) → sumT f n = sumT g n
  | 0, _ => rfl
  | n + 1, h => by rw [sumT, sumT, sumT_cong (fun i hi => h i (by omega)), h n (by omega)]
theorem eqN.nDE {u w : NS} (h : eqN u w) : nD u = nD w := congrArg (·.2.1) h.1
theorem eqN.nHE {u w : NS} (h : eqN u w) : nH u = nH w := congrArg (·.2.2) h.1
theorem eqN.ctE {u w : NS} (h : eqN u w) (c : Bool × Nat × Nat) (g : PG) (v : SS) (a : Int32) : kCount c g u v a = kCount c g w v a := by
  rw [kCount, kCount, h.sE, h.nE, h.nDE, h.nHE, show sumT u.2.1 (nN w) = sumT w.2.1 (nN w) from sumT_cong (fun i hi => (h.2 i (by rw [h.nE]; exact hi)).2.1)]
theorem eqN.fuE {u w : NS} (h : eqN u w) {j : Nat} (hj : j < nN u) (hh : Nat) : fcU u j hh = fcU w j hh := h.fcE hj hh 5 0
