/-! reading a letter: both sides come to one fold -/
abbrev zQ : Type := Int32 × Bool × Int32 × Int32 × Bool
def isw (w : Int32) : Prop := w = 0 ∨ w = 1 ∨ w = 2 ∨ w = 3 ∨ w = 4 ∨ w = 5
def isk (k : Int32) : Prop := k = 0 ∨ k = 1 ∨ k = 2 ∨ k = 3 ∨ k = 4
def zv (w v : Int32) (t : Bool) : Int32 := if w = 0 then (if t then v + (-1) else v + 1) else if w = 1 then (if t then v + 1 else v + (-1)) else if w = 3 then -v else if w = 4 then v + 1 else v
def zt (w : Int32) (t : Bool) : Bool := if w = 0 then false else if w = 1 then false else if w = 2 then !t else t
def zp (w p : Int32) : Int32 := if w = 5 then p + 1 else p
def zs (k w v p : Int32) : Bool := if k = 2 then false else if k = -1 then false else if (-1) ≤ v then (if w = 4 ∧ (k = 1 ∨ k = 4) then true else if ¬ p < 2 ∧ k = 3 then true else if ¬ v ≤ 1 ∧ k = 4 then true else false) else true
def stp (k w : Int32) (q : zQ) : zQ := (zv w q.1 q.2.1, zt w q.2.1, zp w q.2.2.1, q.2.2.2.1 + 1, zs k w (zv w q.1 q.2.1) (zp w q.2.2.1))
theorem X_shuts (k v p h w : Int32) (t s : Bool) : f_X6_shutsBehind (k, v, t, p, h, s) w = some (zs k w v p) := by
  unfold f_X6_shutsBehind zs
  simp only []
  repeat' split
  all_goals simp_all
theorem X_hear (k w : Int32) (q : zQ) (hw : isw w) : f_X6_hear (k, q) w = some (k, stp k w q) := by
  obtain ⟨v, t, p, h, s⟩ := q
  rcases hw with rfl | rfl | rfl | rfl | rfl | rfl <;> cases t <;> simp (decide := true) [f_X6_hear, X_shuts, stp, zv, zt, zp, bI]
theorem M_word (v p h w : Int32) (t : Bool) (hw : isw w) : f_X10_readWord v t p h w = some (zv w v t, zt w t, zp w p, h + 1) := by
  rcases hw with rfl | rfl | rfl | rfl | rfl | rfl <;> cases t <;> simp (decide := true) [f_X10_readWord, zv, zt, zp, bI]
theorem M_shuts (k w v p : Int32) (hk : isk k) (h3 : k = 3 → (w = 5 ∧ p = 2 ↔ ¬ p < 2)) : f_X10_shutsAt v p k w = some (zs k w v p) := by
  by_cases hv : (-1 : Int32) ≤ v
  · have hv' : ¬ v < -1 := Int32.not_lt.mpr hv
    rcases hk with rfl | rfl | rfl | rfl | rfl
    · simp (decide := true) [f_X10_shutsAt, zs, hv, hv']
    · by_cases h4 : w = 4 <;> simp (decide := true) [f_X10_shutsAt, zs, hv, hv', h4]
    · simp (decide := true) [f_X10_shutsAt, zs, hv, hv']
    · have h5 := h3 rfl
      by_cases h6 : w = 5 <;> by_cases h7 : p = 2 <;> by_cases h8 : p < 2 <;> simp_all (decide := true) [f_X10_shutsAt, zs]
    · by_cases h4 : w = 4 <;> by_cases h1 : v ≤ 1 <;> simp (decide := true) [f_X10_shutsAt, zs, hv, hv', h4, h1]
  · have hv' : v < -1 := Int32.not_le.mp hv
    rcases hk with rfl | rfl | rfl | rfl | rfl <;> simp (decide := true) [f_X10_shutsAt, zs, hv, hv']
