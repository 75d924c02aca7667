/-! ===== a new society: what holds after it ===== -/
section
variable {S S' S1 : sT} {a y q k n : Nat} {E : eT} {F : fT} {X X' : Nat → Nat → Nat} {N N' M M' M1 : yT} {Z : zT} {x1 x2 x3 x4 : Int32}
def z0 (N : yT) : yT := fun c k => if c = 80 ∨ c = 22 ∨ c = 23 then 0 else N c k
theorem zS_o {v : Nat → Int32} {c : Nat} (h : ¬ (32 ≤ c ∧ c < 64 ∧ k = n)) {Y : yT} : zS n v Y c k = Y c k := if_neg h
theorem zS_q {v : Nat → Int32} {c : Nat} (h : 32 ≤ c) (h2 : c < 64) {Y : yT} : zS n v Y c n = v (c_g c) := if_pos ⟨h, h2, rfl⟩
theorem z0_o {c : Nat} (h : ¬ (c = 80 ∨ c = 22 ∨ c = 23)) : z0 N c k = N c k := if_neg h
theorem gotI_none {i : Nat} (h : ∀ k, k < E.2.1 → E.2.2 k ≠ i) : gotI E M i = 0 := by
  unfold gotI
  refine itd_inv (R := fun _ s => s = 0) E.2.1 0 0 (fun k s _ hk hs => ?_) rfl
  rw [if_neg (h k (by omega))]; exact hs
theorem LI_soc (h : LI E n Z N) (hn : E.1 < 3) (g1 : isw x1 1 9 = 1) (g2 : isw x2 0 50 = 1) (g3 : isw x3 0 209 = 1) (g4 : isw x4 1 210 = 1) : LI (E.1 + 1, E.2.1, E.2.2) n (fun w => zS E.1 (soc0 (nI E.1) x1 x2 x3 x4) (Z w)) (zS E.1 (soc0 (nI E.1) x1 x2 x3 x4) (z0 N)) := by
  show LJ (E.1 + 1, E.2.1, E.2.2) n (zS E.1 (soc0 (nI E.1) x1 x2 x3 x4) (Z 0)) (zS E.1 (soc0 (nI E.1) x1 x2 x3 x4) (Z 1)) (zS E.1 (soc0 (nI E.1) x1 x2 x3 x4) (z0 N))
  obtain ⟨i1, i2, i3, i4, i5, i6, i7, i8, i9, ⟨i10, i11⟩, i12, i13, i14⟩ := h
  obtain ⟨w1, w2, w3, w4⟩ := i6
  have b1 := isw_b (x1 := x1) (by rw [g1]; decide)
  have b2 := isw_b (x1 := x2) (by rw [g2]; decide)
  have b3 := isw_b (x1 := x3) (by rw [g3]; decide)
  have e1 : (1 : Int32).toInt = 1 := rfl
  have e9 : (9 : Int32).toInt = 9 := rfl
  have e0 : (0 : Int32).toInt = 0 := rfl
  have e50 : (50 : Int32).toInt = 50 := rfl
  have e209 : (209 : Int32).toInt = 209 := rfl
  have lo : ∀ {c k : Nat} {Y : yT}, c < 32 → zS E.1 (soc0 (nI E.1) x1 x2 x3 x4) Y c k = Y c k := fun h => zS_o (by omega)
  have hi : ∀ {c k : Nat} {Y : yT}, 64 ≤ c → zS E.1 (soc0 (nI E.1) x1 x2 x3 x4) Y c k = Y c k := fun h => zS_o (by omega)
  have ne : ∀ {c k : Nat} {Y : yT}, k ≠ E.1 → zS E.1 (soc0 (nI E.1) x1 x2 x3 x4) Y c k = Y c k := fun h => zS_o (fun z => h z.2.2)
  have q : ∀ {c : Nat} {Y : yT}, 32 ≤ c → c < 64 → zS E.1 (soc0 (nI E.1) x1 x2 x3 x4) Y c E.1 = soc0 (nI E.1) x1 x2 x3 x4 (c_g c) := fun h h2 => zS_q h h2
  refine ⟨fun c hc k => ?_, fun k hk h2 => ?_, fun k hk => ?_, fun i hi' => ?_, ?_, ⟨?_, w2, fun k hk => ?_, fun k hk => ?_⟩, fun k hk => ?_, fun k hk => ?_, fun k hk => ?_, ⟨fun k hk => ?_, fun i hi' => ?_⟩, ⟨?_, fun i hi' => ?_, fun k hk => ?_, fun i hi' => ?_, fun i hi' => ?_⟩, ?_, ?_⟩
  · by_cases z : 32 ≤ c ∧ c < 64 ∧ k = E.1
    · obtain ⟨z1, z2, rfl⟩ := z
      rw [q z1 z2, q z1 z2]
    · rw [zS_o z, zS_o z, z0_o (by unfold Ch at hc; omega)]
      exact i1 c hc k
  · rw [lo (by decide)] at h2
    have := i2 k hk h2
    rw [lo (by decide), lo (by decide), lo (by decide), lo (by decide), lo (by decide), lo (by decide), z0_o (by decide), z0_o (by decide), z0_o (by decide)]
    exact this
  · have := i3 k hk
    unfold iF at this ⊢
    simp only [lo (show 1 < 32 by decide), lo (show 2 < 32 by decide), lo (show 3 < 32 by decide), lo (show 4 < 32 by decide), lo (show 5 < 32 by decide), lo (show 6 < 32 by decide), lo (show 7 < 32 by decide), lo (show 8 < 32 by decide), lo (show 9 < 32 by decide), lo (show 12 < 32 by decide), lo (show 13 < 32 by decide), lo (show 15 < 32 by decide), lo (show 16 < 32 by decide)]
    exact this
  · by_cases z : i = E.1
    · subst z
      unfold iS
      rw [q (by decide) (by decide), q (by decide) (by decide), q (by decide) (by decide)]
      rw [show soc0 (nI E.1) x1 x2 x3 x4 (c_g 32) = x1 from rfl, show soc0 (nI E.1) x1 x2 x3 x4 (c_g 34) = x3 from rfl, show soc0 (nI E.1) x1 x2 x3 x4 (c_g 38) = 0 from rfl]
      exact ⟨by omega, by omega, by omega, by omega, Or.inl rfl⟩
    · have hi2 : i < E.1 := by have : i < E.1 + 1 := hi'; omega
      have := i4 i hi2
      unfold iS at this ⊢
      rw [ne z, ne z, ne z]
      exact this
  · rw [hi (by decide)]; exact i5
  · show E.1 + 1 ≤ 3
    omega
  · have : E.2.2 k < E.1 := w3 k hk
    show E.2.2 k < E.1 + 1
    omega
  · rw [lo (by decide), z0_o (by decide)]; exact w4 k hk
  · rw [lo (by decide), lo (by decide), z0_o (by decide)]; exact i7 k hk
  · rw [lo (by decide), lo (by decide), lo (by decide), lo (by decide)]; exact i8 k hk
  · have := i9 k hk
    unfold lowK at this ⊢
    rw [lo (by decide), lo (by decide), lo (by decide), lo (by decide)]
    exact this
  · rw [lo (by decide), lo (by decide), lo (by decide), lo (by decide)]; exact i10 k hk
  · by_cases z : i = E.1
    · subst z
      rw [q (by decide) (by decide), q (by decide) (by decide), q (by decide) (by decide), q (by decide) (by decide)]
      exact ⟨rfl, rfl⟩
    · have hi2 : i < E.1 := by have : i < E.1 + 1 := hi'; omega
      rw [ne z, ne z, ne z, ne z]
      exact i11 i hi2
  · rw [hi (by decide)]; exact i12.1
  · have hp : (0 : Int) ≤ 100 * (n : Int) * ((n : Int) + 1) := Int.mul_nonneg (by omega) (by omega)
    by_cases z : i = E.1
    · subst z
      rw [q (by decide) (by decide), show soc0 (nI E.1) x1 x2 x3 x4 (c_g 37) = 0 from rfl]
      exact ⟨by omega, by rw [e0]; exact hp⟩
    · have hi2 : i < E.1 := by have : i < E.1 + 1 := hi'; omega
      rw [ne z]; exact i12.2.1 i hi2
  · rw [lo (by decide)]; exact i12.2.2.1 k hk
  · have hp : (0 : Int) ≤ 100 * (n : Int) * ((n : Int) + 1) := Int.mul_nonneg (by omega) (by omega)
    have eg : gotI (E.1 + 1, E.2.1, E.2.2) (zS E.1 (soc0 (nI E.1) x1 x2 x3 x4) (Z 0)) i = gotI E (Z 0) i := gotI_c (E := E) (fun k _ => lo (by decide))
    rw [eg]
    by_cases z : i = E.1
    · subst z
      rw [gotI_none (fun k hk e => by have := w3 k hk; omega)]
      exact hp
    · have hi2 : i < E.1 := by have : i < E.1 + 1 := hi'; omega
      exact i12.2.2.2.1 i hi2
  · by_cases z : i = E.1
    · subst z
      rw [q (by decide) (by decide), show soc0 (nI E.1) x1 x2 x3 x4 (c_g 33) = x2 from rfl]
      exact ⟨by omega, by omega⟩
    · have hi2 : i < E.1 := by have : i < E.1 + 1 := hi'; omega
      rw [ne z]; exact i12.2.2.2.2 i hi2
  · rw [hi (by decide)]; exact i13
  · rw [hi (by decide)]; exact i14
end
