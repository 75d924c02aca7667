/-! ===== a day, on the reference's side ===== -/
section
variable {F : fT} {Z : yT} {k i : Nat} {x y : Int32}
def tkR (M : yT) (i k : Nat) : Int32 := if M 0 k = nI i then (if M 12 k = 1 then (if M 17 k < 0 then 0 else 1) else 0) else 0
def nxR (M : yT) (i : Nat) : Nat → Int32 → Int32 → Int32
  | 0, f, b => if b = -1 then f else b
  | k + 1, f, b => if tkR M i k = 0 then nxR M i k f b else if nI k ≤ M 39 i then nxR M i k (nI k) b else nxR M i k (nI k) (nI k)
def opR (M : yT) (i : Nat) : Int32 := (fun y : Int32 => if M 35 i ≤ y - y / 210 * 210 then 0 else 1) (M 64 0 - M 64 0 / 210 * 210 - M 34 i + 210)
def parR (M : yT) (i j : Nat) (s : Int32) : Int32 := s + if tkR M i j = 0 then 0 else M 13 j + M 15 j
def givR (i : Nat) (th pa : Int32) (k : Nat) (M : yT) : yT := if tkR M i k = 0 then M else s_up2 (s_up2 M 11 k (th * (M 13 k + M 15 k) / pa)) 37 i (M 37 i - th * (M 13 k + M 15 k) / pa)
def divB (F : fT) (i : Nat) (th : Int32) (M : yT) : yT :=
  if nxR M i F.2.1 (-1) (-1) = -1 then s_up2 M 72 0 (M 72 0 + th) else
  if opR M i = 0 then s_up2 M 72 0 (M 72 0 + th) else
  if M 38 i = 1 then s_up2 (s_up2 M 11 (Int32.toNatClampNeg (nxR M i F.2.1 (-1) (-1))) th) 39 i (nxR M i F.2.1 (-1) (-1)) else
  itd (givR i th (itd (parR M i) 0 F.2.1 0)) 0 F.2.1 (s_up2 M 37 i th)
def divR (F : fT) (i : Nat) (M : yT) : yT := divB F i (thF M i) (s_up2 (s_up2 M 70 0 (M 70 0 + sunkF M i)) 37 i 0)
/-! standing -/
def blR (M : yT) (k : Nat) : Nat → Nat → Option Nat
  | _, 0 => none
  | j, d + 1 => if M 0 j = M 0 k then some j else blR M k (j + 1) d
def onI (r : Option Nat) : Int32 := match r with
  | none => -1
  | some j => nI j
def belR (F : fT) (M : yT) (k : Nat) : Option Nat := blR M k (k + 1) (F.2.1 - (k + 1))
theorem blR_lt {M : yT} {k a : Nat} : ∀ (d j : Nat), blR M k j d = some a → a < j + d := by
  intro d
  induction d with
  | zero => intro j h; cases h
  | succ d ih =>
    intro j h
    simp only [blR] at h
    by_cases c : M 0 j = M 0 k
    · rw [if_pos c] at h; cases h; omega
    · rw [if_neg c] at h; have := ih (j + 1) h; omega
def rip2 (M : yT) (k : Nat) : Int32 := 2 + (if M 6 k < 60 + 20 * M 5 k then 0 else 1) + (if M 6 k < 100 + 40 * M 5 k then 0 else 1) + (if M 6 k < (if M 5 k = 2 then 260 else 150 + 50 * M 5 k) then 0 else 1)
def dryG (s : Int32) : Int32 := if s = 0 then 3 else if s = 1 then 6 else 1
def deepG (s : Int32) : Int32 := if s = 0 then 2 else if s = 1 then 4 else 1
def hurtR (M : yT) (k : Nat) : Int32 := M 8 k / 20 + (if 2 ≤ M 1 k then (if M 1 k ≤ 20 then 0 else deepG (M 4 k - 2)) else dryG (M 4 k - 2))
def growR (k : Nat) (M : yT) : yT :=
  (fun N : yT => if 5 ≤ N 4 k then N else s_up2 N 9 k (s_max 0 (N 9 k - 1)))
    ((fun N : yT => s_up2 N 4 k (rip2 N k)) ((fun N : yT => s_up2 N 6 k (N 6 k + N 66 0)) (s_up2 M 7 k (s_max 0 (M 7 k - hurtR M k)))))
theorem ite_app {α β : Type} {c : Prop} [Decidable c] (f : α → β) (a b : α) : (if c then f a else f b) = f (if c then a else b) := by split <;> rfl
theorem vp_4_22 : vp_in (4 : Int32) 22 := by unfold vp_in; decide
theorem vp_3_22 : vp_in (3 : Int32) 22 := by unfold vp_in; decide
theorem cl_4 : Int32.toNatClampNeg (4 : Int32) = 4 := by decide
theorem cl_3 : Int32.toNatClampNeg (3 : Int32) = 3 := by decide
def lvR (M : yT) (k : Nat) : Int32 := (fun z : Int32 => s_max 0 (s_min 99 (if M 16 k = 1 then z + -4 else z))) (if 2 ≤ M 4 k then (if 5 ≤ M 4 k then M 8 k else M 8 k + (1 + M 8 k / 4)) else M 8 k / 2)
end
