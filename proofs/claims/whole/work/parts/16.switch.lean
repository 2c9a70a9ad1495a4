/-! switches; the functions of WakefulBed that look at no object -/
section
variable {M : Mx} {l : Launch} {x : Cx} {cc : ByteArray} {nL : Nat} {y : MethodName} {d : Nat} {P : Option Value → va_W → Prop} {k n pc : Nat} {lv : List (Nat × Value)} {st : List Value} {ws : va_W}
theorem j_tabC {dflt lo hi : Int} {offs : Array Int} {len : Nat} {a : Int32} {off : Int} {tgt : Nat} (c : Int32) (j : Nat) (e : a = c) (hc : c.toInt = lo + j ∧ c.toInt ≤ hi) (hd : decode cc pc = .ok (.tableswitch dflt lo hi offs, len)) (ho : offs[j]? = some off) (ht : (pc : Int) + off = (tgt : Int)) (kk : J M l x cc nL y d P k n tgt lv st ws) : J M l x cc nL y d P k n pc lv (.int a :: st) ws :=
  j_tabIn hd (by rw [e]; omega) (by rw [e]; omega) (by rw [e, show (c.toInt - lo).toNat = j by omega]; exact ho) ht kk
theorem j_tabD {dflt lo hi : Int} {offs : Array Int} {len : Nat} {a : Int32} {tgt : Nat} (hd : decode cc pc = .ok (.tableswitch dflt lo hi offs, len)) (h : ∀ j : Nat, j < (hi - lo + 1).toNat → offs[j]? = some dflt ∨ ¬ a.toInt = lo + j) (ht : (pc : Int) + dflt = (tgt : Int)) (kk : J M l x cc nL y d P k n tgt lv st ws) : J M l x cc nL y d P k n pc lv (.int a :: st) ws := by
  by_cases h1 : a.toInt < lo
  · exact j_tabOut hd (Or.inl h1) ht kk
  · by_cases h2 : hi < a.toInt
    · exact j_tabOut hd (Or.inr h2) ht kk
    · refine j_tabIn hd h1 h2 ?_ ht kk
      rcases h (a.toInt - lo).toNat (by omega) with e | e
      · exact e
      · exact absurd (by omega) e
theorem j_lookC {dflt : Int} {ps : Array (Int × Int)} {len : Nat} {a : Int32} {off : Int} {tgt : Nat} (c : Int32) (e : a = c) (hd : decode cc pc = .ok (.lookupswitch dflt ps, len)) (hp : (ps.toList.zip (ps.toList.drop 1)).all (fun (a, next) => a.1 < next.1) = true) (ho : Op.lookupswitch.offset ps.toList dflt c.toInt = off) (ht : (pc : Int) + off = (tgt : Int)) (kk : J M l x cc nL y d P k n tgt lv st ws) : J M l x cc nL y d P k n pc lv (.int a :: st) ws :=
  j_lookup hd hp (by rw [e]; exact ho) ht kk
end
def isW (a b c : Int32) : Bool := decide (b ≤ a) && decide (a ≤ c)
def kbl (c : Int32) : Int32 := if c = 108 then 0 else if c = 109 then 3 else if c = 112 then 4 else if c = 118 then 2 else if c = 119 then 1 else -1
def alsoB (a o : Int32) : Bool := decide (o = 0) || decide (o = a) || (decide (o = 2) && decide (a = 4))
def nxS (s : Int32) : Int32 := (1103515245 * s + 12345) &&& 2147483647
def drO (s n : Int32) : Int32 := if n ≤ 0 then 0 else s / 65536 - s / 65536 / n * n
theorem le_of_nlt {a b : Int32} (h : ¬ a < b) : b ≤ a := by rw [Int32.lt_iff_toInt_lt] at h; rw [Int32.le_iff_toInt_le]; omega
theorem nle_of_lt {a b : Int32} (h : a < b) : ¬ b ≤ a := by rw [Int32.lt_iff_toInt_lt] at h; rw [Int32.le_iff_toInt_le]; omega
theorem nlt_of_le {a b : Int32} (h : a ≤ b) : ¬ b < a := by rw [Int32.le_iff_toInt_le] at h; rw [Int32.lt_iff_toInt_lt]; omega
theorem lt_of_nle {a b : Int32} (h : ¬ a ≤ b) : b < a := by rw [Int32.le_iff_toInt_le] at h; rw [Int32.lt_iff_toInt_lt]; omega
