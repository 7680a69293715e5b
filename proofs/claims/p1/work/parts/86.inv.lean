/-! Invariants of a world of the class, and its relation to the row of the reference. Written by gen/inv.py. -/
abbrev WkV : Type := Nat → OneV × RouV × TriV
def sm (a : Nat → Nat) : Nat → Nat → Nat
  | _, 0 => 0
  | k, n + 1 => a k + sm a (k + 1) n
/-- the children of an entry -/
def hcC (V : MemV) (e : Nat) : Nat := cnt (fun k => decide (¬ V 1 k = 0 ∧ V 2 k = nI e)) 0 64
def hcV (V : MemV) (e : Nat) : Nat := cnt (fun v => decide (V 10 v = nI e)) 0 3
def hcH (H : OneV) (e : Nat) : Nat := cnt (fun h => decide (H 0 h = nI e)) 0 6
def hcK (w : OneV × RouV × TriV) (e : Nat) : Nat := if bz (w.1 0 5) = 0 ∨ bz (w.1 0 6) = 0 then 0 else cnt (fun k => decide (w.2.2 0 k = nI e)) 0 (ix (w.1 0 4))
def hcW (W : WkV) (e : Nat) : Nat := sm (fun k => hcK (W k) e) 0 4
/-- how often an entry is held -/
def hc (V : MemV) (H : OneV) (W : WkV) (e : Nat) : Nat := hcC V e + hcV V e + (hcH H e + hcW W e)
/-- the nodes -/
def NodI (U : NodV) (n vol : Nat) : Prop := (U 0 5 = nI n) ∧ (n ≤ 60) ∧ (U 0 6 = nI vol) ∧ (1 ≤ vol ∧ vol ≤ 3) ∧ (∀ k, k < n → ∃ v, v < vol ∧ U 1 k = nI v) ∧ (∀ k, k < n → U 4 k = 0 ∨ U 4 k = 1 ∨ U 4 k = 2) ∧ (∀ k, k < n → U 2 k = -1 → ∃ v, v < vol ∧ U 1 k = nI v ∧ U 5 v = nI k) ∧ (∀ v, v < vol → ∃ r, r < n ∧ U 5 v = nI r ∧ U 4 r = 2 ∧ U 2 r = -1 ∧ U 1 r = nI v) ∧ (∀ k, k < n → ¬ U 4 k = 0 → ¬ U 2 k = -1 → ∃ p, p < n ∧ U 2 k = nI p ∧ U 4 p = 2 ∧ U 1 p = U 1 k) ∧ (∀ k j, k < n → j < n → ¬ U 4 k = 0 → ¬ U 4 j = 0 → ¬ U 2 k = -1 → U 2 k = U 2 j → U 3 k = U 3 j → k = j) ∧ (∃ d : Nat → Nat, ∀ k p, k < n → p < n → ¬ U 4 k = 0 → U 2 k = nI p → d p < d k) ∧ (U 5 0 = nI 0 ∧ ∀ k, k < n → ¬ U 2 k = -1 → ¬ U 3 k = 0)
theorem NodI.ev {U : NodV} {n vol : Nat} (h : NodI U n vol) : U 0 5 = nI n := h.1
theorem NodI.n60 {U : NodV} {n vol : Nat} (h : NodI U n vol) : n ≤ 60 := h.2.1
theorem NodI.vs {U : NodV} {n vol : Nat} (h : NodI U n vol) : U 0 6 = nI vol := h.2.2.1
theorem NodI.v3 {U : NodV} {n vol : Nat} (h : NodI U n vol) : 1 ≤ vol ∧ vol ≤ 3 := h.2.2.2.1
theorem NodI.vol {U : NodV} {n vol : Nat} (h : NodI U n vol) : ∀ k, k < n → ∃ v, v < vol ∧ U 1 k = nI v := h.2.2.2.2.1
theorem NodI.kd {U : NodV} {n vol : Nat} (h : NodI U n vol) : ∀ k, k < n → U 4 k = 0 ∨ U 4 k = 1 ∨ U 4 k = 2 := h.2.2.2.2.2.1
theorem NodI.rt {U : NodV} {n vol : Nat} (h : NodI U n vol) : ∀ k, k < n → U 2 k = -1 → ∃ v, v < vol ∧ U 1 k = nI v ∧ U 5 v = nI k := h.2.2.2.2.2.2.1
theorem NodI.rts {U : NodV} {n vol : Nat} (h : NodI U n vol) : ∀ v, v < vol → ∃ r, r < n ∧ U 5 v = nI r ∧ U 4 r = 2 ∧ U 2 r = -1 ∧ U 1 r = nI v := h.2.2.2.2.2.2.2.1
theorem NodI.par {U : NodV} {n vol : Nat} (h : NodI U n vol) : ∀ k, k < n → ¬ U 4 k = 0 → ¬ U 2 k = -1 → ∃ p, p < n ∧ U 2 k = nI p ∧ U 4 p = 2 ∧ U 1 p = U 1 k := h.2.2.2.2.2.2.2.2.1
theorem NodI.uq {U : NodV} {n vol : Nat} (h : NodI U n vol) : ∀ k j, k < n → j < n → ¬ U 4 k = 0 → ¬ U 4 j = 0 → ¬ U 2 k = -1 → U 2 k = U 2 j → U 3 k = U 3 j → k = j := h.2.2.2.2.2.2.2.2.2.1
theorem NodI.rk {U : NodV} {n vol : Nat} (h : NodI U n vol) : ∃ d : Nat → Nat, ∀ k p, k < n → p < n → ¬ U 4 k = 0 → U 2 k = nI p → d p < d k := h.2.2.2.2.2.2.2.2.2.2.1
theorem NodI.r00 {U : NodV} {n vol : Nat} (h : NodI U n vol) : U 5 0 = nI 0 := h.2.2.2.2.2.2.2.2.2.2.2.1
theorem NodI.nn {U : NodV} {n vol : Nat} (h : NodI U n vol) : ∀ k, k < n → ¬ U 2 k = -1 → ¬ U 3 k = 0 := h.2.2.2.2.2.2.2.2.2.2.2.2
/-- the entries -/
def MemI (U : NodV) (V : MemV) (n vol : Nat) : Prop := (∀ e, e < 64 → V 1 e = 0 ∨ V 1 e = 1 ∨ V 1 e = 2) ∧ (∃ r, r < 64 ∧ V 9 0 = nI r) ∧ (V 10 0 = -1) ∧ (∀ v, v < 3 → V 9 v = -1 ∧ V 10 v = -1 ∨ v < vol ∧ ∃ r, r < 64 ∧ V 9 v = nI r ∧ V 1 r = 1 ∧ V 2 r = -1 ∧ V 4 r = U 5 v) ∧ (∀ v, 1 ≤ v → v < 3 → ¬ V 9 v = -1 → ∃ o, o < 64 ∧ V 10 v = nI o ∧ V 1 o = 1 ∧ ¬ V 2 o = -1 ∧ ¬ q_X2_isFolder U (V 4 o) = 0) ∧ (∀ v w, v < 3 → w < 3 → ¬ V 10 v = -1 → V 10 v = V 10 w → v = w) ∧ (∃ ρ : Nat → Nat, ∀ v o k u, 1 ≤ v → v < 3 → o < 64 → V 10 v = nI o → V 4 o = nI k → k < n → U 1 k = nI u → u < 3 → ρ u < ρ v) ∧ (∀ e, e < 64 → V 1 e = 1 → V 2 e = -1 → ∃ v, v < 3 ∧ V 9 v = nI e) ∧ (∀ e, e < 64 → V 1 e = 1 → ¬ V 2 e = -1 → ∃ p, p < 64 ∧ V 2 e = nI p ∧ V 1 p = 1 ∧ ¬ q_X2_isFolder U (V 4 p) = 0 ∧ V 4 e = q_X2_find U (V 4 p) (V 3 e)) ∧ (∀ e, e < 64 → V 1 e = 2 → V 2 e = -1 ∧ ∃ k, k < n ∧ V 4 e = nI k ∧ U 4 k = 0) ∧ (∀ e f, e < 64 → f < 64 → V 1 e = 1 → V 1 f = 1 → ¬ V 2 e = -1 → V 2 e = V 2 f → V 3 e = V 3 f → e = f) ∧ (∀ e f, e < 64 → f < 64 → ¬ V 1 e = 0 → ¬ V 1 f = 0 → ¬ V 4 e = -1 → V 4 e = V 4 f → e = f)
theorem MemI.st {U : NodV} {V : MemV} {n vol : Nat} (h : MemI U V n vol) : ∀ e, e < 64 → V 1 e = 0 ∨ V 1 e = 1 ∨ V 1 e = 2 := h.1
theorem MemI.r0 {U : NodV} {V : MemV} {n vol : Nat} (h : MemI U V n vol) : ∃ r, r < 64 ∧ V 9 0 = nI r := h.2.1
theorem MemI.o0 {U : NodV} {V : MemV} {n vol : Nat} (h : MemI U V n vol) : V 10 0 = -1 := h.2.2.1
theorem MemI.rt {U : NodV} {V : MemV} {n vol : Nat} (h : MemI U V n vol) : ∀ v, v < 3 → V 9 v = -1 ∧ V 10 v = -1 ∨ v < vol ∧ ∃ r, r < 64 ∧ V 9 v = nI r ∧ V 1 r = 1 ∧ V 2 r = -1 ∧ V 4 r = U 5 v := h.2.2.2.1
theorem MemI.ov {U : NodV} {V : MemV} {n vol : Nat} (h : MemI U V n vol) : ∀ v, 1 ≤ v → v < 3 → ¬ V 9 v = -1 → ∃ o, o < 64 ∧ V 10 v = nI o ∧ V 1 o = 1 ∧ ¬ V 2 o = -1 ∧ ¬ q_X2_isFolder U (V 4 o) = 0 := h.2.2.2.2.1
theorem MemI.oi {U : NodV} {V : MemV} {n vol : Nat} (h : MemI U V n vol) : ∀ v w, v < 3 → w < 3 → ¬ V 10 v = -1 → V 10 v = V 10 w → v = w := h.2.2.2.2.2.1
theorem MemI.vr {U : NodV} {V : MemV} {n vol : Nat} (h : MemI U V n vol) : ∃ ρ : Nat → Nat, ∀ v o k u, 1 ≤ v → v < 3 → o < 64 → V 10 v = nI o → V 4 o = nI k → k < n → U 1 k = nI u → u < 3 → ρ u < ρ v := h.2.2.2.2.2.2.1
theorem MemI.ro {U : NodV} {V : MemV} {n vol : Nat} (h : MemI U V n vol) : ∀ e, e < 64 → V 1 e = 1 → V 2 e = -1 → ∃ v, v < 3 ∧ V 9 v = nI e := h.2.2.2.2.2.2.2.1
theorem MemI.ch {U : NodV} {V : MemV} {n vol : Nat} (h : MemI U V n vol) : ∀ e, e < 64 → V 1 e = 1 → ¬ V 2 e = -1 → ∃ p, p < 64 ∧ V 2 e = nI p ∧ V 1 p = 1 ∧ ¬ q_X2_isFolder U (V 4 p) = 0 ∧ V 4 e = q_X2_find U (V 4 p) (V 3 e) := h.2.2.2.2.2.2.2.2.1
theorem MemI.go {U : NodV} {V : MemV} {n vol : Nat} (h : MemI U V n vol) : ∀ e, e < 64 → V 1 e = 2 → V 2 e = -1 ∧ ∃ k, k < n ∧ V 4 e = nI k ∧ U 4 k = 0 := h.2.2.2.2.2.2.2.2.2.1
theorem MemI.sb {U : NodV} {V : MemV} {n vol : Nat} (h : MemI U V n vol) : ∀ e f, e < 64 → f < 64 → V 1 e = 1 → V 1 f = 1 → ¬ V 2 e = -1 → V 2 e = V 2 f → V 3 e = V 3 f → e = f := h.2.2.2.2.2.2.2.2.2.2.1
theorem MemI.nd {U : NodV} {V : MemV} {n vol : Nat} (h : MemI U V n vol) : ∀ e f, e < 64 → f < 64 → ¬ V 1 e = 0 → ¬ V 1 f = 0 → ¬ V 4 e = -1 → V 4 e = V 4 f → e = f := h.2.2.2.2.2.2.2.2.2.2.2
/-- what was trimmed, and what is there, was come to once each -/
def TrI (V : MemV) (t : Nat) : Prop := ∃ z, V 0 14 = nI z ∧ z + cnt (fun k => decide (¬ V 1 k = 0)) 0 64 ≤ t
def NumI (V : MemV) (t T : Nat) : Prop := (V 0 12 = nI t) ∧ (t ≤ T) ∧ (T ≤ 1000000000) ∧ (∀ e, e < 64 → ¬ V 1 e = 0 → ∃ b, V 8 e = nI b ∧ b < t) ∧ (∀ e, e < 64 → ¬ V 1 e = 0 → ∃ c, V 6 e = nI c ∧ c ≤ T) ∧ (∃ l, V 0 11 = nI l ∧ 4 ≤ l ∧ l ≤ 40) ∧ TrI V t
theorem NumI.tk {V : MemV} {t T : Nat} (h : NumI V t T) : V 0 12 = nI t := h.1
theorem NumI.tT {V : MemV} {t T : Nat} (h : NumI V t T) : t ≤ T := h.2.1
theorem NumI.T30 {V : MemV} {t T : Nat} (h : NumI V t T) : T ≤ 1000000000 := h.2.2.1
theorem NumI.bi {V : MemV} {t T : Nat} (h : NumI V t T) : ∀ e, e < 64 → ¬ V 1 e = 0 → ∃ b, V 8 e = nI b ∧ b < t := h.2.2.2.1
theorem NumI.co {V : MemV} {t T : Nat} (h : NumI V t T) : ∀ e, e < 64 → ¬ V 1 e = 0 → ∃ c, V 6 e = nI c ∧ c ≤ T := h.2.2.2.2.1
theorem NumI.li {V : MemV} {t T : Nat} (h : NumI V t T) : ∃ l, V 0 11 = nI l ∧ 4 ≤ l ∧ l ≤ 40 := h.2.2.2.2.2.1
theorem NumI.tri {V : MemV} {t T : Nat} (h : NumI V t T) : TrI V t := h.2.2.2.2.2.2
def CntI (V : MemV) : Prop := cnt (fun k => decide (¬ V 1 k = 0)) 0 64 ≤ 61 + cnt (fun v => decide (¬ V 9 v = -1)) 1 2
def HelI (V : MemV) (H : OneV) (W : WkV) (x : Nat → Nat) : Prop := ∀ e, e < 64 → (V 1 e = 0 → x e = 0) ∧ x e ≤ 100 ∧ (¬ V 1 e = 0 → V 5 e = nI (hc V H W e + x e) ∧ (V 1 e = 2 → 0 < hc V H W e + x e))
def HanI (V : MemV) (H : OneV) : Prop := ∀ h, h < 6 → H 0 h = -1 ∨ ∃ e, e < 64 ∧ H 0 h = nI e ∧ ¬ V 1 e = 0 ∧ ¬ V 4 e = -1
/-- an item of a way -/
def WayI (V : MemV) (t T : Nat) (hv : Int32) (a b c : Int32) : Prop := (∃ e, e < 64 ∧ a = nI e ∧ (∃ b1 c1, b = nI b1 ∧ b1 < t ∧ c = nI c1 ∧ c1 ≤ T ∧ (¬ V 1 e = 0 → V 8 e = b → ∃ c2, V 6 e = nI c2 ∧ c1 ≤ c2 ∧ c2 ≤ T ∧ (c1 = c2 → V 1 e = 1 ∧ ¬ V 4 e = -1))) ∧ (¬ hv = 0 → ¬ V 1 e = 0 ∧ ¬ V 4 e = -1))
theorem WayI.ex {V : MemV} {t T : Nat} {hv : Int32} {a b c : Int32} (h : WayI V t T hv a b c) : ∃ e, e < 64 ∧ a = nI e ∧ (∃ b1 c1, b = nI b1 ∧ b1 < t ∧ c = nI c1 ∧ c1 ≤ T ∧ (¬ V 1 e = 0 → V 8 e = b → ∃ c2, V 6 e = nI c2 ∧ c1 ≤ c2 ∧ c2 ≤ T ∧ (c1 = c2 → V 1 e = 1 ∧ ¬ V 4 e = -1))) ∧ (¬ hv = 0 → ¬ V 1 e = 0 ∧ ¬ V 4 e = -1) := h
/-- a walker under way -/
def WkI (V : MemV) (t T : Nat) (w : OneV × RouV × TriV) (m d l r : Nat) : Prop := (w.1 0 4 = nI m) ∧ (w.1 0 8 = nI d) ∧ (w.2.1 0 1 = nI l) ∧ (w.1 0 7 = nI r) ∧ (1 ≤ m) ∧ (m ≤ 1 + 2 * d) ∧ (d ≤ l) ∧ (l ≤ 12) ∧ (r ≤ 3) ∧ (∀ k, k < m → WayI V t T (bz (w.1 0 6)) (w.2.2 0 k) (w.2.2 1 k) (w.2.2 2 k))
theorem WkI.m {V : MemV} {t T : Nat} {w : OneV × RouV × TriV} {m d l r : Nat} (h : WkI V t T w m d l r) : w.1 0 4 = nI m := h.1
theorem WkI.d {V : MemV} {t T : Nat} {w : OneV × RouV × TriV} {m d l r : Nat} (h : WkI V t T w m d l r) : w.1 0 8 = nI d := h.2.1
theorem WkI.l {V : MemV} {t T : Nat} {w : OneV × RouV × TriV} {m d l r : Nat} (h : WkI V t T w m d l r) : w.2.1 0 1 = nI l := h.2.2.1
theorem WkI.r {V : MemV} {t T : Nat} {w : OneV × RouV × TriV} {m d l r : Nat} (h : WkI V t T w m d l r) : w.1 0 7 = nI r := h.2.2.2.1
theorem WkI.m1 {V : MemV} {t T : Nat} {w : OneV × RouV × TriV} {m d l r : Nat} (h : WkI V t T w m d l r) : 1 ≤ m := h.2.2.2.2.1
theorem WkI.md {V : MemV} {t T : Nat} {w : OneV × RouV × TriV} {m d l r : Nat} (h : WkI V t T w m d l r) : m ≤ 1 + 2 * d := h.2.2.2.2.2.1
theorem WkI.dl {V : MemV} {t T : Nat} {w : OneV × RouV × TriV} {m d l r : Nat} (h : WkI V t T w m d l r) : d ≤ l := h.2.2.2.2.2.2.1
theorem WkI.l12 {V : MemV} {t T : Nat} {w : OneV × RouV × TriV} {m d l r : Nat} (h : WkI V t T w m d l r) : l ≤ 12 := h.2.2.2.2.2.2.2.1
theorem WkI.r3 {V : MemV} {t T : Nat} {w : OneV × RouV × TriV} {m d l r : Nat} (h : WkI V t T w m d l r) : r ≤ 3 := h.2.2.2.2.2.2.2.2.1
theorem WkI.wy {V : MemV} {t T : Nat} {w : OneV × RouV × TriV} {m d l r : Nat} (h : WkI V t T w m d l r) : ∀ k, k < m → WayI V t T (bz (w.1 0 6)) (w.2.2 0 k) (w.2.2 1 k) (w.2.2 2 k) := h.2.2.2.2.2.2.2.2.2
def WalI (V : MemV) (W : WkV) (t T : Nat) : Prop := ∀ k, k < 4 → ¬ bz ((W k).1 0 5) = 0 → ∃ m d l r, r ≤ 3 ∧ WkI V t T (W k) m d l r
/-- all of a world -/
def Inv (U : NodV) (V : MemV) (H : OneV) (W : WkV) (n vol t T : Nat) (x : Nat → Nat) : Prop := (NodI U n vol) ∧ (MemI U V n vol) ∧ (NumI V t T) ∧ (HelI V H W x) ∧ (HanI V H) ∧ (WalI V W t T)
theorem Inv.N {U : NodV} {V : MemV} {H : OneV} {W : WkV} {n vol t T : Nat} {x : Nat → Nat} (h : Inv U V H W n vol t T x) : NodI U n vol := h.1
theorem Inv.M {U : NodV} {V : MemV} {H : OneV} {W : WkV} {n vol t T : Nat} {x : Nat → Nat} (h : Inv U V H W n vol t T x) : MemI U V n vol := h.2.1
theorem Inv.Z {U : NodV} {V : MemV} {H : OneV} {W : WkV} {n vol t T : Nat} {x : Nat → Nat} (h : Inv U V H W n vol t T x) : NumI V t T := h.2.2.1
theorem Inv.L {U : NodV} {V : MemV} {H : OneV} {W : WkV} {n vol t T : Nat} {x : Nat → Nat} (h : Inv U V H W n vol t T x) : HelI V H W x := h.2.2.2.1
theorem Inv.H {U : NodV} {V : MemV} {H : OneV} {W : WkV} {n vol t T : Nat} {x : Nat → Nat} (h : Inv U V H W n vol t T x) : HanI V H := h.2.2.2.2.1
theorem Inv.W {U : NodV} {V : MemV} {H : OneV} {W : WkV} {n vol t T : Nat} {x : Nat → Nat} (h : Inv U V H W n vol t T x) : WalI V W t T := h.2.2.2.2.2
/-! Names: five bits a letter in the class, to the base 27 in the reference. -/
def NmL (a b c d : Nat) : Prop := 1 ≤ a ∧ a ≤ 26 ∧ b ≤ 26 ∧ c ≤ 26 ∧ d ≤ 26 ∧ (b = 0 → c = 0) ∧ (c = 0 → d = 0)
def pck (a b c d : Nat) : Nat := a + 32 * b + 1024 * c + 32768 * d
def b27 (a b c d : Nat) : Nat := if b = 0 then a else if c = 0 then 27 * a + b else if d = 0 then 729 * a + 27 * b + c else 19683 * a + 729 * b + 27 * c + d
def Nm (x y : Int32) : Prop := ∃ a b c d, NmL a b c d ∧ x = nI (pck a b c d) ∧ y = nI (b27 a b c d)
theorem pck_lt {a b c d : Nat} (h : NmL a b c d) : 1 ≤ pck a b c d ∧ pck a b c d < 2 ^ 20 := by
  obtain ⟨h1, h2, h3, h4, h5, _, _⟩ := h
  unfold pck
  omega
theorem b27_lt {a b c d : Nat} (h : NmL a b c d) : 1 ≤ b27 a b c d ∧ b27 a b c d < 2 ^ 20 := by
  obtain ⟨h1, h2, h3, h4, h5, _, _⟩ := h
  unfold b27
  split
  · omega
  · split
    · omega
    · split <;> omega
theorem pck_inj {a b c d a' b' c' d' : Nat} (h : NmL a b c d) (h' : NmL a' b' c' d') (e : pck a b c d = pck a' b' c' d') : a = a' ∧ b = b' ∧ c = c' ∧ d = d' := by
  obtain ⟨h1, h2, h3, h4, h5, _, _⟩ := h
  obtain ⟨g1, g2, g3, g4, g5, _, _⟩ := h'
  unfold pck at e
  omega
theorem b27_inj {a b c d a' b' c' d' : Nat} (h : NmL a b c d) (h' : NmL a' b' c' d') (e : b27 a b c d = b27 a' b' c' d') : a = a' ∧ b = b' ∧ c = c' ∧ d = d' := by
  obtain ⟨h1, h2, h3, h4, h5, h6, h7⟩ := h
  obtain ⟨g1, g2, g3, g4, g5, g6, g7⟩ := h'
  unfold b27 at e
  by_cases x1 : b = 0
  · have x2 := h6 x1
    have x3 := h7 x2
    rw [if_pos x1] at e
    by_cases y1 : b' = 0
    · have y2 := g6 y1
      have y3 := g7 y2
      rw [if_pos y1] at e
      omega
    · rw [if_neg y1] at e
      split at e
      · omega
      · split at e <;> omega
  · rw [if_neg x1] at e
    by_cases x2 : c = 0
    · have x3 := h7 x2
      rw [if_pos x2] at e
      by_cases y1 : b' = 0
      · rw [if_pos y1] at e
        omega
      · rw [if_neg y1] at e
        by_cases y2 : c' = 0
        · have y3 := g7 y2
          rw [if_pos y2] at e
          omega
        · rw [if_neg y2] at e
          split at e <;> omega
    · rw [if_neg x2] at e
      by_cases x3 : d = 0
      · rw [if_pos x3] at e
        by_cases y1 : b' = 0
        · rw [if_pos y1] at e
          omega
        · rw [if_neg y1] at e
          by_cases y2 : c' = 0
          · rw [if_pos y2] at e
            omega
          · rw [if_neg y2] at e
            by_cases y3 : d' = 0
            · rw [if_pos y3] at e
              omega
            · rw [if_neg y3] at e
              omega
      · rw [if_neg x3] at e
        by_cases y1 : b' = 0
        · rw [if_pos y1] at e
          omega
        · rw [if_neg y1] at e
          by_cases y2 : c' = 0
          · rw [if_pos y2] at e
            omega
          · rw [if_neg y2] at e
            by_cases y3 : d' = 0
            · rw [if_pos y3] at e
              omega
            · rw [if_neg y3] at e
              omega
theorem Nm.pos {x y : Int32} (h : Nm x y) : (∃ a, x = nI a ∧ 1 ≤ a ∧ a < 2 ^ 20) ∧ ∃ b, y = nI b ∧ 1 ≤ b ∧ b < 2 ^ 20 := by
  obtain ⟨a, b, c, d, h1, h2, h3⟩ := h
  exact ⟨⟨_, h2, pck_lt h1⟩, ⟨_, h3, b27_lt h1⟩⟩
theorem Nm.inj {x y x' y' : Int32} (h : Nm x y) (h' : Nm x' y') : x = x' ↔ y = y' := by
  obtain ⟨a, b, c, d, h1, h2, h3⟩ := h
  obtain ⟨a', b', c', d', g1, g2, g3⟩ := h'
  have p1 := pck_lt h1
  have p2 := pck_lt g1
  have q1 := b27_lt h1
  have q2 := b27_lt g1
  constructor
  · intro e
    rw [h2, g2, nI_eq (by omega) (by omega)] at e
    obtain ⟨e1, e2, e3, e4⟩ := pck_inj h1 g1 e
    subst e1 e2 e3 e4
    rw [h3, g3]
  · intro e
    rw [h3, g3, nI_eq (by omega) (by omega)] at e
    obtain ⟨e1, e2, e3, e4⟩ := b27_inj h1 g1 e
    subst e1 e2 e3 e4
    rw [h2, g2]
/-- a name, or that of a root -/
def NmZ (x y : Int32) : Prop := Nm x y ∨ (x = 0 ∧ y = 0)
/-- a step -/
def NmS (x y : Int32) : Prop := Nm x y ∨ (x = -1 ∧ y = -1) ∨ (x = -2 ∧ y = -2)
theorem NmZ.inj {x y x' y' : Int32} (h : NmZ x y) (h' : Nm x' y') : x = x' ↔ y = y' := by
  rcases h with h | ⟨h1, h2⟩
  · exact h.inj h'
  · subst h1 h2
    obtain ⟨⟨a, a1, a2, a3⟩, ⟨b, b1, b2, b3⟩⟩ := h'.pos
    subst a1 b1
    constructor
    · intro q
      exact absurd q.symm (nI_ne0 a2 (by omega))
    · intro q
      exact absurd q.symm (nI_ne0 b2 (by omega))
theorem Nm.gt {x y : Int32} (h : Nm x y) : 0 < x ∧ 0 < y := by
  obtain ⟨⟨a, a1, a2, a3⟩, ⟨b, b1, b2, b3⟩⟩ := h.pos
  subst a1 b1
  exact ⟨by rw [← nI_0]; exact nI_lt a2 (by omega), by rw [← nI_0]; exact nI_lt b2 (by omega)⟩
theorem i32_gt_ne {x : Int32} (h : 0 < x) : ¬ x = -1 ∧ ¬ x = -2 ∧ ¬ x = 0 ∧ ¬ x ≤ 0 := by
  refine ⟨fun q => ?_, fun q => ?_, fun q => ?_, fun q => ?_⟩
  · rw [q] at h; exact absurd h (by decide)
  · rw [q] at h; exact absurd h (by decide)
  · rw [q] at h; exact absurd h (by decide)
  · exact absurd h (Int32.not_lt.mpr q)
/-- whether a step is a name is seen alike on both sides -/
theorem NmS.pos {x y : Int32} (h : NmS x y) : (0 < x ↔ 0 < y) ∧ (x ≤ 0 ↔ y ≤ 0) := by
  rcases h with h | ⟨h1, h2⟩ | ⟨h1, h2⟩
  · have := h.gt
    exact ⟨⟨fun _ => this.2, fun _ => this.1⟩, ⟨fun q => absurd q (i32_gt_ne this.1).2.2.2, fun q => absurd q (i32_gt_ne this.2).2.2.2⟩⟩
  · subst h1 h2
    exact ⟨Iff.rfl, Iff.rfl⟩
  · subst h1 h2
    exact ⟨Iff.rfl, Iff.rfl⟩
theorem NmS.nm {x y : Int32} (h : NmS x y) (hx : 0 < x) : Nm x y := by
  rcases h with h | ⟨h1, h2⟩ | ⟨h1, h2⟩
  · exact h
  · rw [h1] at hx; exact absurd hx (by decide)
  · rw [h1] at hx; exact absurd hx (by decide)
/-! Counts. -/
theorem cnt_one {P P' : Nat → Bool} {e : Nat} : ∀ {n k : Nat}, k ≤ e → e < k + n → (∀ i, k ≤ i → i < k + n → i ≠ e → P' i = P i) → cnt P' k n + (if P e = true then 1 else 0) = cnt P k n + (if P' e = true then 1 else 0)
  | 0, k, h1, h2, _ => by omega
  | n + 1, k, h1, h2, h => by
    unfold cnt
    by_cases q : k = e
    · subst q
      rw [cnt_cong (P := P') (P' := P) (fun i a b => h i (by omega) (by omega) (by omega))]
      omega
    · have ih := cnt_one (P := P) (P' := P') (n := n) (k := k + 1) (by omega) (by omega) (fun i a b c => h i (by omega) (by omega) c)
      rw [h k (Nat.le_refl _) (by omega) q]
      omega
theorem cnt_zero {P : Nat → Bool} : ∀ {n k : Nat}, (∀ i, k ≤ i → i < k + n → P i = false) → cnt P k n = 0
  | 0, k, _ => rfl
  | n + 1, k, h => by
    unfold cnt
    rw [h k (Nat.le_refl _) (by omega), cnt_zero (fun i a b => h i (by omega) (by omega))]
    rfl
theorem cnt_z {P : Nat → Bool} : ∀ {n k : Nat}, cnt P k n = 0 → ∀ i, k ≤ i → i < k + n → P i = false
  | 0, k, _, i, h1, h2 => by omega
  | n + 1, k, h, i, h1, h2 => by
    unfold cnt at h
    by_cases q : i = k
    · subst q
      cases hp : P i with
      | false => rfl
      | true => rw [hp] at h; simp at h
    · exact cnt_z (n := n) (k := k + 1) (by omega) i (by omega) (by omega)
theorem cnt_pos {P : Nat → Bool} {n k i : Nat} (h1 : k ≤ i) (h2 : i < k + n) (h : P i = true) : 0 < cnt P k n := by
  rcases Nat.eq_zero_or_pos (cnt P k n) with q | q
  · have := cnt_z q i h1 h2
    rw [h] at this
    cases this
  · exact q
theorem cnt_add {P : Nat → Bool} : ∀ {n m k : Nat}, cnt P k (n + m) = cnt P k n + cnt P (k + n) m
  | 0, m, k => by simp [cnt]
  | n + 1, m, k => by
    rw [show n + 1 + m = (n + m) + 1 by omega]
    show (if P k = true then 1 else 0) + cnt P (k + 1) (n + m) = (if P k = true then 1 else 0) + cnt P (k + 1) n + cnt P (k + (n + 1)) m
    rw [cnt_add (n := n) (m := m) (k := k + 1), show k + 1 + n = k + (n + 1) by omega]
    omega
theorem cnt_mono {P P' : Nat → Bool} : ∀ {n k : Nat}, (∀ i, k ≤ i → i < k + n → P i = true → P' i = true) → cnt P k n ≤ cnt P' k n
  | 0, k, _ => Nat.le_refl _
  | n + 1, k, h => by
    unfold cnt
    have ih := cnt_mono (P := P) (P' := P') (n := n) (k := k + 1) (fun i a b => h i (by omega) (by omega))
    by_cases q : P k = true
    · rw [if_pos q, if_pos (h k (Nat.le_refl _) (by omega) q)]
      omega
    · rw [if_neg q]
      omega
theorem fst_ext {P : Nat → Bool} {k n m : Nat} (h : ∀ i, k + n ≤ i → i < k + n + m → P i = false) : fst? P k (n + m) = fst? P k n := by
  induction n generalizing k with
  | zero =>
    rw [Nat.zero_add]
    exact fst_no (fun i a b => h i (by omega) (by omega))
  | succ n ih =>
    rw [show n + 1 + m = (n + m) + 1 by omega]
    unfold fst?
    rw [ih (fun i a b => h i (by omega) (by omega))]
theorem sm_cong {a b : Nat → Nat} : ∀ {n k : Nat}, (∀ i, k ≤ i → i < k + n → a i = b i) → sm a k n = sm b k n
  | 0, k, _ => rfl
  | n + 1, k, h => by
    unfold sm
    rw [h k (Nat.le_refl _) (by omega), sm_cong (fun i p q => h i (by omega) (by omega))]
theorem sm_one {a a' : Nat → Nat} {e : Nat} : ∀ {n k : Nat}, k ≤ e → e < k + n → (∀ i, k ≤ i → i < k + n → i ≠ e → a' i = a i) → sm a' k n + a e = sm a k n + a' e
  | 0, k, h1, h2, _ => by omega
  | n + 1, k, h1, h2, h => by
    unfold sm
    by_cases q : k = e
    · subst q
      rw [sm_cong (a := a') (b := a) (fun i p q => h i (by omega) (by omega) (by omega))]
      omega
    · have ih := sm_one (a := a) (a' := a') (n := n) (k := k + 1) (by omega) (by omega) (fun i p q r => h i (by omega) (by omega) r)
      rw [h k (Nat.le_refl _) (by omega) q]
      omega
theorem sm_z {a : Nat → Nat} : ∀ {n k : Nat}, sm a k n = 0 → ∀ i, k ≤ i → i < k + n → a i = 0
  | 0, k, _, i, h1, h2 => by omega
  | n + 1, k, h, i, h1, h2 => by
    unfold sm at h
    by_cases q : i = k
    · subst q
      omega
    · exact sm_z (n := n) (k := k + 1) (by omega) i (by omega) (by omega)
theorem sm_zero {a : Nat → Nat} : ∀ {n k : Nat}, (∀ i, k ≤ i → i < k + n → a i = 0) → sm a k n = 0
  | 0, k, _ => rfl
  | n + 1, k, h => by
    unfold sm
    rw [h k (Nat.le_refl _) (by omega), sm_zero (fun i p q => h i (by omega) (by omega))]
theorem sm_le {a : Nat → Nat} {b : Nat} : ∀ {n k : Nat}, (∀ i, k ≤ i → i < k + n → a i ≤ b) → sm a k n ≤ n * b
  | 0, k, _ => by simp [sm]
  | n + 1, k, h => by
    unfold sm
    have h1 := h k (Nat.le_refl _) (by omega)
    have h2 := sm_le (a := a) (b := b) (n := n) (k := k + 1) (fun i p q => h i (by omega) (by omega))
    rw [Nat.add_mul, Nat.one_mul]
    omega
theorem TrI.le {V V' : MemV} {t t' : Nat} (h : TrI V t) (e : V' 0 14 = V 0 14) (hn : ∀ k, k < 64 → ¬ V' 1 k = 0 → ¬ V 1 k = 0) (ht : t ≤ t') : TrI V' t' := by
  obtain ⟨z, h1, h2⟩ := h
  have := cnt_mono (P := fun k => decide (¬ V' 1 k = 0)) (P' := fun k => decide (¬ V 1 k = 0)) (n := 64) (k := 0) (fun k _ hk q => by
    simp only [decide_eq_true_eq] at q ⊢
    exact hn k (by omega) q)
  exact ⟨z, by rw [e]; exact h1, by omega⟩
theorem TrI.one {V V' : MemV} {t : Nat} (h : TrI V t) (e : V' 0 14 = V 0 14) {f : Nat} (hf : f < 64) (hn : ∀ k, k ≠ f → V' 1 k = V 1 k) : TrI V' (t + 1) := by
  obtain ⟨z, h1, h2⟩ := h
  have c := cnt_one (P := fun k => decide (¬ V 1 k = 0)) (P' := fun k => decide (¬ V' 1 k = 0)) (e := f) (n := 64) (k := 0) (Nat.zero_le _) (by omega) (fun k _ _ q => by
    show decide (¬ V' 1 k = 0) = decide (¬ V 1 k = 0)
    rw [hn k q])
  have b : (if decide (¬ V' 1 f = 0) = true then 1 else 0) ≤ 1 := by split <;> omega
  exact ⟨z, by rw [e]; exact h1, by omega⟩
theorem TrI.trm {V V' : MemV} {t : Nat} (h : TrI V t) (e : V' 0 14 = V 0 14 + 1) {f : Nat} (hf : f < 64) (h0 : ¬ V 1 f = 0) (h0' : V' 1 f = 0) (hn : ∀ k, k ≠ f → V' 1 k = V 1 k) : TrI V' t := by
  obtain ⟨z, h1, h2⟩ := h
  have c := cnt_one (P := fun k => decide (¬ V 1 k = 0)) (P' := fun k => decide (¬ V' 1 k = 0)) (e := f) (n := 64) (k := 0) (Nat.zero_le _) (by omega) (fun k _ _ q => by
    show decide (¬ V' 1 k = 0) = decide (¬ V 1 k = 0)
    rw [hn k q])
  rw [if_pos (by simp [h0]), if_neg (by simp [h0'])] at c
  exact ⟨z + 1, by rw [e, h1, nI_1], by omega⟩
