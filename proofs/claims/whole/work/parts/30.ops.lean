/-! the same orders of blocks, their number told: for long lists -/
theorem qm_b {bs bs' : List va_W} (N : Nat) (is : List Nat) (h : is.isPerm (List.range N) = true) (hN : bs.length = N) (e : is.filterMap (fun i => bs[i]?) = bs') : (fl bs).Perm (fl bs') := by subst hN; exact pm_b is h e
theorem qm_c {bs bc br : List va_W} (N : Nat) (is js : List Nat) (h : (is ++ js).isPerm (List.range N) = true) (hN : bs.length = N) (e : is.filterMap (fun i => bs[i]?) = bc) (f : js.filterMap (fun i => bs[i]?) = br) : (fl bs).Perm (fl bc ++ fl br) := by subst hN; exact pm_c is js h e f
theorem qm_1 {bs br : List va_W} {b : va_W} (N i : Nat) (js : List Nat) (h : ([i] ++ js).isPerm (List.range N) = true) (hN : bs.length = N) (e : bs[i]? = some b) (f : js.filterMap (fun i => bs[i]?) = br) : (fl bs).Perm (b ++ fl br) := by subst hN; exact pm_1 i js h e f
theorem qm_2 {bs br : List va_W} {b b2 : va_W} (N i i2 : Nat) (js : List Nat) (h : ([i, i2] ++ js).isPerm (List.range N) = true) (hN : bs.length = N) (e : bs[i]? = some b) (e2 : bs[i2]? = some b2) (f : js.filterMap (fun i => bs[i]?) = br) : (fl bs).Perm ((b ++ b2) ++ fl br) := by subst hN; exact pm_2 i i2 js h e e2 f
/-! what each call of the class answers, and its state behind it -/
section
variable (c : Bool × Nat × Nat) (g : PG) (u : NS) (v : SS) (uk : NS) (vk : SS)
def kLetter (a : Int32) : Int32 × CS := if isW a 32 126 = true then (if g.2 < 18 then (nI (g.2 + 1), (c, (upd g.1 g.2 a, g.2 + 1), u, v, uk, vk)) else (-104, (c, g, u, v, uk, vk))) else (-102, (c, g, u, v, uk, vk))
def kBlank : Int32 × CS := (nI g.2, (c, (g.1, 0), u, v, uk, vk))
def kFault : Int32 × CS := (nI (ffr g.1 g.2 g.2 0), (c, g, u, v, uk, vk))
def kHouse : Int32 × CS := if isHB g.1 g.2 = true then (nI (nN (bgn g u)), ((false, c.2.1 + 1, c.2.2), (g.1, 0), bgn g u, (v.1, v.2.1, 0), uk, vk)) else (-103, (c, g, u, v, uk, vk))
def kAs (l a : Int32) : Int32 := if kn (nN u) l = true then (if isW a 0 4 = true then (if alsoB (u.1 l.toNatClampNeg) a = true then l else -1) else -102) else -101
def kBed : Int32 := if nN u = 0 then -103 else oI (wbU u)
def kCoffee (l : Int32) : Int32 × CS := if kn (nN u) l = true then (if u.2.2.1 l.toNatClampNeg = true then (-103, (c, g, u, v, uk, vk)) else ((cof u l.toNatClampNeg).2.1 l.toNatClampNeg, (c, g, cof u l.toNatClampNeg, v, uk, vk))) else (-101, (c, g, u, v, uk, vk))
def kLecture (l : Int32) : Int32 × CS := if kn (nN u) l = true then (if u.2.2.1 l.toNatClampNeg = true then (-103, (c, g, u, v, uk, vk)) else ((lec u (some l.toNatClampNeg)).2.1 l.toNatClampNeg, (c, g, lec u (some l.toNatClampNeg), v, uk, vk))) else (-101, (c, g, u, v, uk, vk))
def kHour : Int32 × CS := if nN u = 0 then (-103, (c, g, u, v, uk, vk)) else (nI (cntS (ph u).2.2.1 (nN (ph u))), (c, g, ph u, v, uk, vk))
def kCups (l h : Int32) : Int32 := if kn (nN u) l = true then (if isW h 1 6 = true then (if u.2.2.1 l.toNatClampNeg = true then -103 else oI (fcU u l.toNatClampNeg h.toNatClampNeg)) else -102) else -101
def kLectures (l h a : Int32) : Int32 × CS := if kn (nN u) l = true then (if isW h 1 3 = true then (if isW a 0 1 = true then (if c.2.2 < 40 then ((if a = 0 then (mst h.toNatClampNeg u l.toNatClampNeg).1 else (mst h.toNatClampNeg u l.toNatClampNeg).2), ((c.1, c.2.1, c.2.2 + 1), g, u, v, uk, vk)) else (-103, (c, g, u, v, uk, vk))) else (-102, (c, g, u, v, uk, vk))) else (-102, (c, g, u, v, uk, vk))) else (-101, (c, g, u, v, uk, vk))
def kSee (h l : Int32) : Int32 × CS := if isW h 0 12 = true then (if l = -1 ∨ kn (nN u) l = true then (if v.2.2 < 6 then (nI (v.2.2 + 1), (c, g, u, (upd v.1 v.2.2 h, upd v.2.1 v.2.2 l, v.2.2 + 1), uk, vk)) else (-104, (c, g, u, v, uk, vk))) else (-101, (c, g, u, v, uk, vk))) else (-102, (c, g, u, v, uk, vk))
def kForget : Int32 × CS := (nI v.2.2, (c, g, u, (v.1, v.2.1, 0), uk, vk))
def kNightsR (h s a : Int32) : Int32 := if isW h 1 60 = true then (if s < 0 then -102 else if isW a 0 2 = true then (if nN u = 0 then -103 else kNights u h.toNatClampNeg s a) else -102) else -102
def kImage : Int32 × CS := if nN u = 0 then (-103, (c, g, u, v, uk, vk)) else (nH u, ((true, c.2.1, c.2.2), g, u, v, cpy u uk, scp v vk))
def kRestore : Int32 × CS := if c.1 = true then (nH (cpy uk u), (c, g, cpy uk u, scp vk v, uk, vk)) else (-103, (c, g, u, v, uk, vk))
end
