/-! the judgement J: the machine at a pc with locals lv, stack st, world ws; worlds up to order -/
abbrev Cx : Type := va_G × ClassId × ClassId × ClassId × ClassId × ClassId
def cxT (x : Cx) : List (ClassId × FieldType) := [(x.2.1, .int), (x.2.2.1, .boolean), (x.2.2.2.1, .byte), (x.2.2.2.2.1, .object "WakefulBed$Night"), (x.2.2.2.2.2, .array .int)]
def gw : List Cond := lw_tbl.filter goodWord
theorem gw_in {w : Cond} (h : w ∈ lw_tbl) (g : goodWord w = true) : w ∈ gw := List.mem_filter.mpr ⟨h, g⟩
theorem gw_good : GoodIn gw gw := fun w h => ⟨h, good_of_word (List.mem_filter.mp h).2⟩
def nst1 : Cond := .methodLinkNest RX3 37 yX5_isWithin RX5
def nst2 : Cond := .methodLinkNest RX3 31 yX5_kindByLetter RX5
def nst3 : Cond := .methodLinkNest RX2 72 yX5_tiredByHour RX5
def nst4 : Cond := .methodLinkNest RX0 73 yX5_isWithin RX5
/-- an array of arrays of ints has arrays of ints in it -/
def mx_AO (x : Cx) (U : State) : Prop := ∃ k : Class, U.vm.classes[x.2.2.2.2.2]? = some k ∧ k.kind = .array x.2.1 (.array .int)
theorem mx_AO.moved {x : Cx} {u U : State} (hvm : u.vm.Alike U.vm) (h : mx_AO x u) : mx_AO x U := by
  obtain ⟨k, hk, hkind⟩ := h
  obtain ⟨k', hk', he⟩ := hvm.2.2 _ _ hk
  exact ⟨k', hk', by rw [he]; exact hkind⟩
def cxK (x : Cx) (U : State) : Prop := va_K x.1 vwCl (cxT x) U ∧ va_Nw nst1 U ∧ va_Nw nst2 U ∧ va_Nw nst3 U ∧ va_AO "WakefulBed$Night" U ∧ mx_AO x U ∧ va_Nw nst4 U
theorem cxK.warm {x : Cx} {s U : State} (hW : s.WarmedH U.vm) (h : cxK x s) : cxK x U :=
  ⟨va_K.moved hW.alike h.1, va_Nw.warmM hW h.2.1, va_Nw.warmM hW h.2.2.1, va_Nw.warmM hW h.2.2.2.1, va_AO.moved hW.alike h.2.2.2.2.1, mx_AO.moved hW.alike h.2.2.2.2.2.1, va_Nw.warmM hW h.2.2.2.2.2.2⟩
theorem cxK.same {x : Cx} {s U : State} (hv : s.vm = U.vm) (h : cxK x s) : cxK x U :=
  ⟨va_K.moved (by rw [hv]; exact Vm.Alike.refl _) h.1, va_Nw.same rfl hv h.2.1, va_Nw.same rfl hv h.2.2.1, va_Nw.same rfl hv h.2.2.2.1, va_AO.moved (by rw [hv]; exact Vm.Alike.refl _) h.2.2.2.2.1, mx_AO.moved (by rw [hv]; exact Vm.Alike.refl _) h.2.2.2.2.2.1, va_Nw.same rfl hv h.2.2.2.2.2.2⟩
-- worlds up to order
theorem va_P.perm {D : va_G} {cl : List vw_C} {w w' : va_W} {H : Heap} (h : va_P D cl w H) (hp : w.Perm w') : va_P D cl w' H := by
  intro k q hk
  obtain ⟨i, hi⟩ := List.getElem?_of_mem (hp.mem_iff.mpr (List.mem_of_getElem? hk))
  exact h i q hi
theorem va_D_iff {A : Nat → Prop} {w : va_W} : va_D A w ↔ (w.map (·.1)).Nodup ∧ ∀ q ∈ w, A q.1 := by
  rw [List.nodup_iff_pairwise_ne, List.pairwise_iff_getElem]
  constructor
  · intro h
    refine ⟨fun i j hi hj hij e => ?_, fun q hq => ?_⟩
    · rw [List.length_map] at hi hj
      have := h.1 i j _ _ (List.getElem?_eq_getElem hi) (List.getElem?_eq_getElem hj) (by simpa using e)
      omega
    · obtain ⟨i, hi⟩ := List.getElem?_of_mem hq
      exact h.2 i q hi
  · intro h
    refine ⟨fun i j p q hi hj e => ?_, fun k q hk => h.2 q (List.mem_of_getElem? hk)⟩
    obtain ⟨li, ei⟩ := List.getElem?_eq_some_iff.mp hi
    obtain ⟨lj, ej⟩ := List.getElem?_eq_some_iff.mp hj
    rcases Nat.lt_trichotomy i j with c | c | c
    · exact (h.1 i j (by simpa using li) (by simpa using lj) c (by simp [ei, ej, e])).elim
    · exact c
    · exact (h.1 j i (by simpa using lj) (by simpa using li) c (by simp [ei, ej, e])).elim
theorem va_D.perm {A : Nat → Prop} {w w' : va_W} (h : va_D A w) (hp : w.Perm w') : va_D A w' := by
  rw [va_D_iff] at h ⊢
  exact ⟨(hp.map _).nodup_iff.mp h.1, fun q hq => h.2 q (hp.mem_iff.mpr hq)⟩
theorem pm_rng {α : Type} : ∀ (l : List α), (List.range l.length).filterMap (fun i => l[i]?) = l
  | [] => rfl
  | a :: l => by
    rw [List.length_cons, List.range_succ_eq_map, List.filterMap_cons]
    simp only [List.getElem?_cons_zero, List.filterMap_map]
    refine congrArg (List.cons a) ?_
    exact pm_rng l
theorem pm_idx {α : Type} (l : List α) (is : List Nat) (h : is.isPerm (List.range l.length) = true) : l.Perm (is.filterMap (fun i => l[i]?)) := by
  have h2 : is.Perm (List.range l.length) := List.isPerm_iff.mp h
  have h3 := (h2.filterMap (fun i => l[i]?)).symm
  rw [pm_rng] at h3
  exact h3
/-- cells by their places -/
theorem pm_w {w w' : va_W} (is : List Nat) (h : is.isPerm (List.range w.length) = true) (e : is.filterMap (fun i => w[i]?) = w') : w.Perm w' := e ▸ pm_idx w is h
/-- blocks by their places -/
def fl (bs : List va_W) : va_W := bs.flatten
theorem pm_b {bs bs' : List va_W} (is : List Nat) (h : is.isPerm (List.range bs.length) = true) (e : is.filterMap (fun i => bs[i]?) = bs') : (fl bs).Perm (fl bs') := by
  subst e
  exact (pm_idx bs is h).flatten
theorem pm_c {bs bc br : List va_W} (is js : List Nat) (h : (is ++ js).isPerm (List.range bs.length) = true) (e : is.filterMap (fun i => bs[i]?) = bc) (f : js.filterMap (fun i => bs[i]?) = br) : (fl bs).Perm (fl bc ++ fl br) := by
  subst e; subst f
  have h1 := (pm_idx bs (is ++ js) h).flatten
  rw [List.filterMap_append, List.flatten_append] at h1
  exact h1

-- the machine's constants, in one
abbrev Mx : Type := Program × Env × Room × State × MethodId × Array Value × List Frame × Method × Code × (Nat → Prop) × (State → Prop) × Nat × Nat
def jRet (cc : ByteArray) (pc : Nat) (v : Option Value) : Prop := (∃ i : Int32, v = some (.int i) ∧ decode cc pc = .ok (.ireturn, 1)) ∨ (∃ i : Int64, v = some (.long i) ∧ decode cc pc = .ok (.lreturn, 1)) ∨ (v = none ∧ decode cc pc = .ok (.return_, 1))
def jEnv (M : Mx) (l : Launch) (x : Cx) (cc : ByteArray) (nL : Nat) (y : MethodName) (d : Nat) (P : Option Value → va_W → Prop) : Prop := match M with
  | (p, e, R, s, m, args, below, meth, c, A, Q, mc, ms) =>
    (p.tables.exec = Jvm.exec ∧ c.code = cc ∧ c.maxLocals = nL ∧ s.vm.findClass y.cls = some m.cls ∧ meth.name = y.name ∧ (∀ w ∈ gw, w.before args s = true) ∧ cxK x s ∧ (∀ q, s.heap.size ≤ q → A q)) ∧
    (d ≤ R.frames ∧ 40 * d ≤ R.locals ∧ mc ≤ R.cells ∧ ms ≤ R.slots) ∧
    ∀ (v : Option Value) (ws : va_W) (pc : Nat) (H : Heap) (locs : List Loc) (ls : Array Slot) (cells slots : Nat), P v ws → jRet cc pc v → cells ≤ mc → slots ≤ ms → va_P x.1 vwCl ws H → va_D A ws → va_S A s.heap H locs → W p l e R s m args below meth c H locs cells slots Q (F0 m pc ls v.toList)
def J (M : Mx) (l : Launch) (x : Cx) (cc : ByteArray) (nL : Nat) (y : MethodName) (d : Nat) (P : Option Value → va_W → Prop) (k n pc : Nat) (lv : List (Nat × Value)) (st : List Value) (ws : va_W) : Prop := match M with
  | (p, e, R, s, m, args, below, meth, c, A, Q, mc, ms) =>
    jEnv (p, e, R, s, m, args, below, meth, c, A, Q, mc, ms) l x cc nL y d P → ∀ (cells slots : Nat) (H : Heap) (locs : List Loc) (ls : Array Slot), cells + k ≤ mc → slots + n ≤ ms → va_P x.1 vwCl ws H → va_D A ws → va_S A s.heap H locs → lv_has ls nL lv → W p l e R s m args below meth c H locs cells slots Q (F0 m pc ls st)
