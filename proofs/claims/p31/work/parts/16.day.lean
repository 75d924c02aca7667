/-! ===== a day, on the system's side ===== -/
theorem u3_zs (Z : zT) (w c k : Nat) (v : Int32) : u3 Z w c k v = zs Z w (s_up2 (Z w) c k v) := by
  have h := zs_up Z w (Z w) c k v
  rw [zs_self] at h
  exact h
theorem zs_zs (Z : zT) (w : Nat) (M N : yT) : zs (zs Z w M) w N = zs Z w N := by
  funext w'
  unfold zs
  by_cases h : w' = w
  · rw [if_pos h, if_pos h]
  · rw [if_neg h, if_neg h, if_neg h]
theorem nI_lei {a b : Nat} (ha : a < 2147483648) (hb : b < 2147483648) : (nI a ≤ nI b) = (a ≤ b) := by
  rw [ti_le, ti_nI ha, ti_nI hb]; exact propext ⟨fun h => by omega, fun h => by omega⟩
theorem nI_lti {a b : Nat} (ha : a < 2147483648) (hb : b < 2147483648) : (nI a < nI b) = (a < b) := by
  rw [ti_lt, ti_nI ha, ti_nI hb]; exact propext ⟨fun h => by omega, fun h => by omega⟩
theorem nI_eqi {a b : Nat} (ha : a < 2147483648) (hb : b < 2147483648) : (nI a = nI b) = (a = b) := by
  rw [ti_eq, ti_nI ha, ti_nI hb]; exact propext ⟨fun h => by omega, fun h => by omega⟩
theorem nI_cl {a : Nat} (ha : a < 2147483648) : Int32.toNatClampNeg (nI a) = a := by
  rw [ti_clamp, ti_nI ha]; omega
theorem nI_neg {a : Nat} (ha : a < 2147483648) : (nI a < 0) = False := by
  rw [ti_lt, ti_nI ha]; exact propext ⟨fun h => by have h2 : (0 : Int32).toInt = 0 := rfl; omega, fun h => h.elim⟩
theorem nI_vp {a n : Nat} (ha : a < 2147483648) : vp_in (nI a) n = (a < n) := by
  unfold vp_in
  rw [nI_neg ha, nI_cl ha]
  simp only [false_or, Nat.not_le]
theorem nI_z : (0 : Int32) = nI 0 := by decide
/-- f j, f (j + 1) .. d times -/
def itd {α : Type} (f : Nat → α → α) : Nat → Nat → α → α
  | _, 0, M => M
  | j, d + 1, M => itd f (j + 1) d (f j M)
theorem itd_0 {α : Type} (f : Nat → α → α) (j : Nat) (a : α) : itd f j 0 a = a := rfl
theorem itd_s {α : Type} (f : Nat → α → α) (j d : Nat) (a : α) : itd f j (d + 1) a = itd f (j + 1) d (f j a) := rfl
section
variable {E : eT} {Z : zT} {w k i : Nat} {x y t r : Int32}
def sendM (E : eT) (k : Nat) (x : Int32) (M : yT) : yT := match ce_nxt E k with
  | none => s_up2 M 72 0 (M 72 0 + x)
  | some j => s_up2 M 22 j (M 22 j + x)
theorem send_rd {M : yT} {c j : Nat} (h1 : c ≠ 22) (h2 : c ≠ 72) : sendM E k x M c j = M c j := by
  unfold sendM
  cases ce_nxt E k with
  | none => exact if_neg (fun z => h2 z.1)
  | some a => exact if_neg (fun z => h1 z.1)
theorem e_send {Q : zT → Prop} : v_X1_sendBelow E w k x Z Q = Q (zs Z w (sendM E k x (Z w))) := by
  simp only [v_X1_sendBelow, v_X1_sendBelow_b0, v_X1_sendBelow_b33, forall_eq, sendM]
  cases h : ce_nxt E k <;> simp [u3_zs]
def wa1 (r c : Int32) (M : yT) (k : Nat) : Int32 := M 1 k + (M 11 k + r + c)
def spl (r c : Int32) (M : yT) (k : Nat) : Int32 := s_max 0 (wa1 r c M k - M 14 k)
def wa2 (r c : Int32) (M : yT) (k : Nat) : Int32 := wa1 r c M k - spl r c M k
def sep (r c : Int32) (M : yT) (k : Nat) : Int32 := s_min (1 + M 2 k) (wa2 r c M k)
def wa3 (r c : Int32) (M : yT) (k : Nat) : Int32 := wa2 r c M k - sep r c M k
def drk (r c : Int32) (M : yT) (k : Nat) : Int32 := s_min (if isw (M 4 k) 2 4 = 0 then 1 else 2) (wa3 r c M k)
def pW (E : eT) (k : Nat) (r c : Int32) (M : yT) : yT :=
  s_up2 (s_up2 (sendM E k (spl r c M k + sep r c M k / 2) (s_up2 (s_up2 M 1 k (wa3 r c M k)) 70 0 (M 70 0 + (sep r c M k - sep r c M k / 2)))) 1 k (wa3 r c M k - drk r c M k)) 71 0 (M 71 0 + drk r c M k)
theorem e_passWater {Q : zT → Prop} : v_X1_passWater E w k r Z Q = Q (zs Z w (pW E k r (Z w 22 k) (s_up2 (Z w) 22 k 0))) := by
  simp only [v_X1_passWater, v_X1_passWater_b0, forall_eq, e_send, e_thirst, u3_zs, zs_zs, zs_rd, pW, wa1, spl, wa2, sep, wa3, drk, up_rd, up_same, up_sort, Nat.reduceEqDiff, Nat.reduceLT, false_and, true_and, and_true, and_self, if_true, if_false, reduceIte, send_rd, ne_eq, not_false_eq_true]
def growM (k : Nat) (x y t : Int32) (M : yT) : yT :=
  if isw (M 4 k) 2 4 = 0 then M else
    (fun N : yT => if isw (N 4 k) 2 4 = 0 then N else if N 9 k ≤ 0 then N else s_up2 N 9 k (N 9 k - 1))
      ((fun N : yT => s_up2 N 4 k (ripC N k)) (s_up2 (s_up2 M 7 k (s_max 0 (M 7 k - hurtC M k x y))) 6 k (M 6 k + t)))
theorem e_grow {Q : zT → Prop} : v_X0_grow E w k x y t Z Q = Q (zs Z w (growM k x y t (Z w))) := by
  simp only [v_X0_grow, v_X0_grow_b0, v_X0_grow_b58, forall_eq, e_stk, e_suffer, e_ripen, u3_zs, zs_zs, zs_rd, growM]
  generalize isw (Z w 4 k) 2 4 = s
  by_cases h1 : s = 0
  · simp [h1, zs_self]
  · simp only [h1, not_false_eq_true, forall_const, false_implies, and_true, if_false, up_rd, Nat.reduceEqDiff, false_and, if_false, reduceIte, and_self, true_and]
    generalize isw _ 2 4 = u
    by_cases h2 : u = 0
    · simp [h2]
    · by_cases h3 : Z w 9 k ≤ 0 <;> simp [h2, h3]
def standM (E : eT) (r t : Int32) (k : Nat) (M : yT) : yT :=
  (fun N : yT => s_up2 N 8 k (pesC N k)) ((fun N : yT => growM k (N 1 k) (N 8 k) t N) ((fun N : yT => s_up2 (s_up2 N 3 k (dryC N k)) 2 k (crkC N k)) (pW E k r (M 22 k) (s_up2 M 22 k 0))))
theorem l_stand (hF : E.2.1 ≤ 12) {Q : zT → Prop} : ∀ (d j : Nat) (M : yT), j + d = E.2.1 → v_X2_passDay_b104 E w Q (d + 1) t r (nI j) (zs Z w M) = v_X2_flyPests E w (zs Z w (itd (standM E r t) j d M)) Q := by
  intro d
  induction d with
  | zero =>
    intro j M h
    have hj : j = E.2.1 := h
    subst hj
    unfold v_X2_passDay_b104
    simp [itd, nI_lei]
  | succ d ih =>
    intro j M h
    unfold v_X2_passDay_b104
    have h1 : j < 2147483648 := by omega
    have h2 : E.2.1 < 2147483648 := by omega
    have h3 : ¬ E.2.1 ≤ j := by omega
    have h4 : j < E.2.1 := by omega
    simp only [forall_eq, nI_lei h2 h1, h3, h4, false_implies, true_and, nI_vp h1, nI_cl h1, not_false_eq_true, forall_const, ← nI_succ, e_passWater, e_dry, e_grow, e_breed, u3_zs, zs_zs, zs_rd, ih (j + 1) _ (by omega)]
    rfl
end
