/-! ===== many, and the helpers of the answers: both sides ===== -/
section
variable {S S' S0 S1 : sT} {a y q k n m i : Nat} {E : eT} {X : Nat → Nat → Nat} {N N' : yT} {Z Z' : zT} {x1 x2 : Int32}
theorem man_eq (h : LI E n Z N) (hx : 0 ≤ x1.toInt ∧ x1.toInt ≤ 11) : manR E N x1 = manC E (Z 0) x1 := by
  have c : ∀ {c k : Nat}, Ch c → Z 0 c k = N c k := fun hc => LI_ch h hc
  have c64 : Z 0 64 0 = N 64 0 := c (by unfold Ch; decide)
  have p64 := h.2.2.2.2.1
  rcases val12 hx with e | e | e | e | e | e | e | e | e | e | e | e <;> subst e
  · rfl
  · rfl
  · exact c64.symm
  · show N 64 0 - N 64 0 / 210 * 210 = fmod (Z 0 64 0) 210
    rw [← c64]
    exact (fm_pos p64.1 (by decide)).symm
  · show (if N 64 0 - N 64 0 / 30 * 30 = 0 then (1 : Int32) else 0) = (if Z 0 64 0 - Z 0 64 0 / 30 * 30 = 0 then 1 else 0)
    rw [c64]
  · show sC N 8 E.2.1 = sumF E (Z 0) 8
    unfold sC sumF
    exact itd_c (fun k s _ => by rw [show fldC E (Z 0) k 8 = Z 0 8 k from rfl, c (by unfold Ch; decide)])
  · show sC N 17 E.2.1 = sumO E (Z 0) 0
    unfold sC sumO
    exact itd_c (fun k s _ => by rw [show ownC (Z 0) k 0 = Z 0 17 k from rfl, c (by unfold Ch; decide)])
  · show sS36 N E.1 = sumS E (Z 0) 2
    unfold sS36 sumS
    exact itd_c (fun k s _ => by rw [show socC E (Z 0) k 2 = Z 0 36 k from rfl, c (by unfold Ch; decide)])
  · show sX N E.2.1 = sumO E (Z 0) 3
    unfold sX sumO
    exact itd_c (fun k s _ => by rw [show ownC (Z 0) k 3 = (if 0 ≤ Z 0 17 k then 0 else 1) from rfl, c (by unfold Ch; decide)])
  · exact (c (by unfold Ch; decide)).symm
  · exact (c (by unfold Ch; decide)).symm
  · show sC N 15 E.2.1 = sumT E (Z 0)
    unfold sC sumT
    exact itd_c (fun k s _ => by rw [c (by unfold Ch; decide)])
theorem m_many {x0 : Nat} (e0 : x0 = X 0 0) (h : LI E n Z N) : RESA x0 E n X Z N (v_X6_many E x1 Z) (vT_X6_many E x1 Z) (wA_X8_many 1 12 x0 x1) [xA] := by
  subst e0
  have hW := LJ_EW h
  by_cases c : isw x1 0 11 = 0
  · refine Or.inr ⟨0, xA, 0, s_up2 (s_up2 N 80 0 0) 80 0 1, rfl, fun Q hq => t_many c hq, fun S2 hC Q hQ => ?_, rfl, LJ_80 (LJ_80 h)⟩
    unfold wA_X8_many wA_X8_many_b0
    refine ⟨rK_Mod hC trivial, fun S3 e3 => ?_⟩
    obtain ⟨r3, f3, a3⟩ := RC_80 hC e3
    rw [w_is8, c]
    exact ⟨fun _ => ⟨rK_Mod r3 trivial, ra_ref hC e3 (fun S4 f4 a4 r4 => hQ S4 f4 a4 r4)⟩, fun z => absurd rfl z⟩
  · have hx := isw_b c
    have hx : 0 ≤ x1.toInt ∧ x1.toInt ≤ 11 := hx
    refine Or.inl ⟨manC E (Z 0) x1, Z, s_up2 N 80 0 0, fun Q hq => c_many hW.2.1 hW.1 hx hq, fun S2 hC Q hQ => ?_, rfl, LJ_80 h⟩
    unfold wA_X8_many wA_X8_many_b0
    refine ⟨rK_Mod hC trivial, fun S3 e3 => ?_⟩
    obtain ⟨r3, f3, a3⟩ := RC_80 hC e3
    rw [w_is8]
    refine ⟨fun z => absurd z c, fun _ => ⟨rK_Mod r3 trivial, 1, 12, by decide, by decide, ra_manyNow r3 hW.1 hW.2.1 hx (fun S4 f4 a4 r4 => ?_)⟩⟩
    unfold wA_X8_many_b28
    rw [man_eq (LJ_80 (v := 0) h : LI E n Z _) hx]
    exact hQ S4 (f3.trans f4 (fun _ _ z => z) (fun _ _ z => z)) (fun h => a4 (a3 h)) r4
end
