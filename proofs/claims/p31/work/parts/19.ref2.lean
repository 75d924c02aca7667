section
variable {F : fT} {Z : yT} {k i : Nat} {x y : Int32}
def sendR (F : fT) (k : Nat) (x : Int32) (M : yT) : yT := match belR F M k with
  | none => s_up2 M 72 0 (M 72 0 + x)
  | some j => s_up2 M 22 j (M 22 j + x)
def sepR (M : yT) (k : Nat) : Int32 := s_min (wa2 (M 67 0) (M 22 k) M k) (1 + M 2 k)
def pR1 (k : Nat) (M : yT) : yT := s_up2 (s_up2 M 1 k (wa2 (M 67 0) (M 22 k) M k - sepR M k)) 70 0 (M 70 0 + (sepR M k - sepR M k / 2))
def pR2 (k : Nat) (B : yT) : yT := (fun d : Int32 => s_up2 (s_up2 B 1 k (B 1 k - d)) 71 0 (B 71 0 + d)) (s_min (B 1 k) (if isw (B 4 k) 2 4 = 0 then 1 else 2))
def dry3 (k : Nat) (M : yT) : yT := (fun N : yT => if N 3 k ≤ 0 then N else if N 3 k - N 3 k / 3 * 3 = 0 then s_up2 N 2 k (s_min 3 (N 2 k + 1)) else N) (s_up2 M 3 k (if M 1 k = 0 then M 3 k + 1 else 0))
def stR2 (k : Nat) (B : yT) : yT := (fun G : yT => s_up2 G 8 k (lvR G k)) (if isw (B 4 k) 2 4 = 0 then dry3 k (pR2 k B) else growR k (dry3 k (pR2 k B)))
def standR (F : fT) (k : Nat) (M : yT) : yT := stR2 k (sendR F k (spl (M 67 0) (M 22 k) M k + sepR M k / 2) (pR1 k M))
theorem bel_lt {M : yT} {a : Nat} (hk : k < F.2.1) (h : belR F M k = some a) : a < F.2.1 := by
  have := blR_lt _ _ h
  omega
theorem onI_ne {a : Nat} (h : a < 2147483648) : ¬ nI a = -1 := by
  rw [ti_eq, ti_nI h]
  have : (-1 : Int32).toInt = -1 := by decide
  omega
/-! flying -/
def mvR (k : Nat) (g : Int32) (o : Option Nat) (M : yT) : yT := match o with
  | none => M
  | some j => (fun N : yT => s_up2 N 23 j (N 23 j + g)) (s_up2 M 23 k (M 23 k - g))
def flS (F : fT) (k : Nat) (M : yT) : yT := (fun g : Int32 => (fun N : yT => mvR k g (upF N (k + 1) (F.2.1 - (k + 1))) N) (mvR k g (dnF M k) M)) (if M 8 k ≤ 20 then 0 else M 8 k / 5)
def set2 (k : Nat) (M : yT) : yT := s_up2 M 8 k (s_min 99 (M 8 k + M 23 k))
def z23 (k : Nat) (M : yT) : yT := s_up2 M 23 k 0
def flyR (F : fT) (M : yT) : yT := itd set2 0 F.2.1 (itd (flS F) 0 F.2.1 (itd z23 0 F.2.1 M))
/-! passing -/
def z22 (k : Nat) (M : yT) : yT := s_up2 M 22 k 0
def z11 (k : Nat) (M : yT) : yT := s_up2 M 11 k 0
def divOK (F : fT) (i : Nat) (M : yT) : Prop := ∀ N : yT, N = s_up2 (s_up2 M 70 0 (M 70 0 + sunkF M i)) 37 i 0 → ¬ nxR N i F.2.1 (-1) (-1) = -1 → ¬ itd (parR N i) 0 F.2.1 0 = 0 ∧ vp_in (nxR N i F.2.1 (-1) (-1)) F.2.1
def hd2 (F : fT) (M : yT) : yT := s_up2 (s_up2 M 69 0 (M 69 0 + (M 65 0 + M 67 0 * nI F.2.1))) 68 0 (M 65 0 + M 68 0)
def headR (F : fT) (M : yT) : yT := (fun N : yT => itd z11 0 F.2.1 (itd (weirS (N 65 0 + N 68 0) (itd (notF N) 0 F.1 0)) 0 F.1 (hd2 F N))) (s_up2 M 64 0 (M 64 0 + 1))
def passR (F : fT) (M : yT) : yT := flyR F (itd (standR F) 0 F.2.1 (itd z22 0 F.2.1 (itd (divR F) 0 F.1 (headR F M))))
end
