/-! ===== a new field: what holds after it ===== -/
section
variable {S S' S1 : sT} {a y q k n i : Nat} {E : eT} {F : fT} {X X' : Nat → Nat → Nat} {N N' M M' M1 : yT} {Z : zT} {x1 x2 x3 : Int32}
/-- a new field's numbers by column, the model's -/
def wv (nF : Nat) (x1 x2 x3 : Int32) (c : Nat) : Int32 := if c = 0 then x1 else if c = 5 then 0 else vF nF x2 x3 c
theorem zF_o {v : Nat → Int32} {c : Nat} (h : ¬ (c < 32 ∧ k = n)) {Y : yT} : zF n v Y c k = Y c k := if_neg h
theorem zF_q {v : Nat → Int32} {c : Nat} (h : c < 32) {Y : yT} : zF n v Y c n = v c := if_pos ⟨h, rfl⟩
theorem LI_fld (h : LI E n Z N) (hn : E.2.1 < 12) (hi : i < E.1) (e1 : x1 = nI i) (g2 : isw x2 1 9 = 1) (g3 : isw x3 5 60 = 1) : LI (gE E i) n (fun w => zF E.2.1 (vF E.2.1 x2 x3) (Z w)) (zF E.2.1 (wv E.2.1 x1 x2 x3) (z0 N)) := by
  show LJ (gE E i) n (zF E.2.1 (vF E.2.1 x2 x3) (Z 0)) (zF E.2.1 (vF E.2.1 x2 x3) (Z 1)) (zF E.2.1 (wv E.2.1 x1 x2 x3) (z0 N))
  obtain ⟨i1, i2, i3, i4, i5, i6, i7, i8, i9, ⟨i10, i11⟩, i12, i13, i14⟩ := h
  obtain ⟨w1, w2, w3, w4⟩ := i6
  have b2 := isw_b (x1 := x2) (by rw [g2]; decide)
  have e1' : (1 : Int32).toInt = 1 := rfl
  have e9 : (9 : Int32).toInt = 9 := rfl
  have e0 : (0 : Int32).toInt = 0 := rfl
  have e20 : (20 : Int32).toInt = 20 := rfl
  have hi' : ∀ {c k : Nat} {v : Nat → Int32} {Y : yT}, 32 ≤ c → zF E.2.1 v Y c k = Y c k := fun h => zF_o (by omega)
  have ne : ∀ {c k : Nat} {v : Nat → Int32} {Y : yT}, k ≠ E.2.1 → zF E.2.1 v Y c k = Y c k := fun h => zF_o (fun z => h z.2)
  have q : ∀ {c : Nat} {v : Nat → Int32} {Y : yT}, c < 32 → zF E.2.1 v Y c E.2.1 = v c := fun h => zF_q h
  have lt : ∀ {k : Nat}, k < (gE E i).2.1 → k ≠ E.2.1 → k < E.2.1 := fun h z => by
    have h : _ < E.2.1 + 1 := h
    omega
  refine ⟨fun c hc k => ?_, fun k hk h2 => ?_, fun k hk => ?_, fun j hj => ?_, ?_, ⟨w1, ?_, fun k hk => ?_, fun k hk => ?_⟩, fun k hk => ?_, fun k hk => ?_, fun k hk => ?_, ⟨fun k hk => ?_, fun j hj => ?_⟩, ⟨?_, fun j hj => ?_, fun k hk => ?_, fun j hj => ?_, fun j hj => ?_⟩, ?_, ?_⟩
  · by_cases z : c < 32 ∧ k = E.2.1
    · obtain ⟨z1, rfl⟩ := z
      rw [q z1, q z1]
      unfold wv
      rw [if_neg (by unfold Ch at hc; omega), if_neg (by unfold Ch at hc; omega)]
    · rw [zF_o z, zF_o z, z0_o (by unfold Ch at hc; omega)]
      exact i1 c hc k
  · by_cases z : k = E.2.1
    · subst z
      rw [q (by decide), show vF E.2.1 x2 x3 4 = 0 from rfl, e0] at h2
      omega
    · rw [ne z] at h2
      have := i2 k (lt hk z) h2
      rw [ne z, ne z, ne z, ne z, ne z, ne z, z0_o (by decide), z0_o (by decide), z0_o (by decide)]
      exact this
  · by_cases z : k = E.2.1
    · subst z
      unfold iF
      rw [q (by decide), q (by decide), q (by decide), q (by decide), q (by decide), q (by decide), q (by decide), q (by decide), q (by decide), q (by decide), q (by decide), q (by decide), q (by decide)]
      rw [show vF E.2.1 x2 x3 1 = 0 from rfl, show vF E.2.1 x2 x3 2 = 0 from rfl, show vF E.2.1 x2 x3 3 = 0 from rfl, show vF E.2.1 x2 x3 4 = 0 from rfl, show vF E.2.1 x2 x3 8 = 0 from rfl, show vF E.2.1 x2 x3 9 = 20 from rfl, show vF E.2.1 x2 x3 12 = 0 from rfl, show vF E.2.1 x2 x3 13 = x2 from rfl, show vF E.2.1 x2 x3 15 = 0 from rfl, show vF E.2.1 x2 x3 16 = 0 from rfl]
      unfold iFv
      rw [e0, e20]
      exact ⟨⟨by omega, by omega, by omega, by omega, by omega⟩, ⟨by omega, by omega, by omega, by omega, by omega, by omega⟩, ⟨Or.inl rfl, by omega, by omega, by omega, by omega, Or.inl rfl⟩, fun z => absurd z (by omega)⟩
    · have := i3 k (lt hk z)
      unfold iF at this ⊢
      simp only [ne z]
      exact this
  · have := i4 j hj
    unfold iS at this ⊢
    rw [hi' (by decide), hi' (by decide), hi' (by decide)]
    exact this
  · rw [hi' (by decide)]; exact i5
  · show E.2.1 + 1 ≤ 12
    omega
  · by_cases z : k = E.2.1
    · rw [z, gE_n]; exact hi
    · rw [gE_lt (lt hk z)]; exact w3 k (lt hk z)
  · by_cases z : k = E.2.1
    · rw [z, gE_n, q (by decide)]; exact e1
    · rw [gE_lt (lt hk z), ne z, z0_o (by decide)]; exact w4 k (lt hk z)
  · by_cases z : k = E.2.1
    · rw [z, q (by decide), q (by decide)]; rfl
    · rw [ne z, ne z, z0_o (by decide)]; exact i7 k (lt hk z)
  · by_cases z : k = E.2.1
    · rw [z, q (by decide), q (by decide), q (by decide), q (by decide)]; exact ⟨⟨rfl, rfl⟩, rfl, rfl⟩
    · rw [ne z, ne z, ne z, ne z]; exact i8 k (lt hk z)
  · by_cases z : k = E.2.1
    · unfold lowK
      rw [z, q (by decide), q (by decide), q (by decide), q (by decide)]; exact fun _ => ⟨rfl, rfl, rfl⟩
    · have := i9 k (lt hk z)
      unfold lowK at this ⊢
      rw [ne z, ne z, ne z, ne z]; exact this
  · by_cases z : k = E.2.1
    · rw [z, q (by decide), q (by decide), q (by decide), q (by decide)]; exact ⟨rfl, rfl⟩
    · rw [ne z, ne z, ne z, ne z]; exact i10 k (lt hk z)
  · rw [hi' (by decide), hi' (by decide), hi' (by decide), hi' (by decide)]; exact i11 j hj
  · rw [hi' (by decide)]; exact i12.1
  · rw [hi' (by decide)]; exact i12.2.1 j hj
  · by_cases z : k = E.2.1
    · rw [z, q (by decide)]; exact Int.le_refl _
    · rw [ne z]; exact i12.2.2.1 k (lt hk z)
  · have eg : gotI (gE E i) (zF E.2.1 (vF E.2.1 x2 x3) (Z 0)) j = gotI E (Z 0) j := by
      have e2 : gotI (gE E i) (zF E.2.1 (vF E.2.1 x2 x3) (Z 0)) j = (fun k s => if (gE E i).2.2 k = j then s + (zF E.2.1 (vF E.2.1 x2 x3) (Z 0) 11 k).toInt else s) (0 + E.2.1) (itd (fun k s => if (gE E i).2.2 k = j then s + (zF E.2.1 (vF E.2.1 x2 x3) (Z 0) 11 k).toInt else s) 0 E.2.1 (0 : Int)) := itd_last _ _ E.2.1 0
      rw [e2]
      dsimp only
      rw [Nat.zero_add, q (by decide), show vF E.2.1 x2 x3 11 = 0 from rfl, e0]
      have e3 : itd (fun k s => if (gE E i).2.2 k = j then s + (zF E.2.1 (vF E.2.1 x2 x3) (Z 0) 11 k).toInt else s) 0 E.2.1 (0 : Int) = gotI E (Z 0) j := by
        unfold gotI
        refine itd_rel (R := fun _ a b => a = b) E.2.1 0 0 0 (fun k a b _ hk e => ?_) rfl
        subst e
        have hk2 : k < E.2.1 := by omega
        rw [gE_lt hk2, ne (by omega)]
      rw [e3]
      by_cases z : (gE E i).2.2 E.2.1 = j
      · rw [if_pos z]; omega
      · rw [if_neg z]
    rw [eg]; exact i12.2.2.2.1 j hj
  · rw [hi' (by decide)]; exact i12.2.2.2.2 j hj
  · rw [hi' (by decide)]; exact i13
  · rw [hi' (by decide)]; exact i14
end
