/-! ===== water: both sides ===== -/
section
variable {S S' S0 S1 : sT} {a y q k n m i : Nat} {E : eT} {X : Nat → Nat → Nat} {N N' : yT} {Z Z' : zT} {x1 x2 : Int32}
theorem itd_c {f g : Nat → Int32 → Int32} {d : Nat} (h : ∀ k s, k < d → f k s = g k s) : itd f 0 d 0 = itd g 0 d 0 :=
  itd_rel (R := fun _ a b => a = b) d 0 0 0 (fun k a b _ hk e => by subst e; exact h k a (by omega)) rfl
theorem wat_eq (h : LI E n Z N) (hx : 0 ≤ x1.toInt ∧ x1.toInt ≤ 6) : watR E N x1 = watC E (Z 0) x1 := by
  have c : ∀ {c k : Nat}, Ch c → Z 0 c k = N c k := fun hc => LI_ch h hc
  rcases val7 hx with e | e | e | e | e | e | e <;> subst e
  · exact (c (by unfold Ch; decide)).symm
  · show sF1 E N E.2.1 = sumF E (Z 0) 1
    unfold sF1 sumF
    exact itd_c (fun k s _ => by rw [show fldC E (Z 0) k 1 = Z 0 1 k from rfl, c (by unfold Ch; decide)])
  · exact (c (by unfold Ch; decide)).symm
  · show sS37 E N E.1 = sumS E (Z 0) 3
    unfold sS37 sumS
    exact itd_c (fun k s _ => by rw [show socC E (Z 0) k 3 = Z 0 37 k from rfl, c (by unfold Ch; decide)])
  · exact (c (by unfold Ch; decide)).symm
  · exact (c (by unfold Ch; decide)).symm
  · exact (c (by unfold Ch; decide)).symm
theorem m_water {x0 : Nat} (e0 : x0 = X 0 0) (h : LI E n Z N) : RESA x0 E n X Z N (v_X6_water E x1 Z) (vT_X6_water E x1 Z) (wA_X8_water 1 7 x0 x1) [xA] := by
  subst e0
  have hW := LJ_EW h
  by_cases c : isw x1 0 6 = 0
  · refine Or.inr ⟨0, xA, 0, s_up2 (s_up2 N 80 0 0) 80 0 1, rfl, fun Q hq => t_water c hq, fun S2 hC Q hQ => ?_, rfl, LJ_80 (LJ_80 h)⟩
    unfold wA_X8_water wA_X8_water_b0
    refine ⟨rK_Mod hC trivial, fun S3 e3 => ?_⟩
    obtain ⟨r3, f3, a3⟩ := RC_80 hC e3
    rw [w_is8, c]
    exact ⟨fun _ => ⟨rK_Mod r3 trivial, ra_ref hC e3 (fun S4 f4 a4 r4 => hQ S4 f4 a4 r4)⟩, fun z => absurd rfl z⟩
  · have hx := isw_b c
    have hx : 0 ≤ x1.toInt ∧ x1.toInt ≤ 6 := hx
    refine Or.inl ⟨watC E (Z 0) x1, Z, s_up2 N 80 0 0, fun Q hq => c_water hW.2.1 hW.1 hx hq, fun S2 hC Q hQ => ?_, rfl, LJ_80 h⟩
    unfold wA_X8_water wA_X8_water_b0
    refine ⟨rK_Mod hC trivial, fun S3 e3 => ?_⟩
    obtain ⟨r3, f3, a3⟩ := RC_80 hC e3
    rw [w_is8]
    refine ⟨fun z => absurd z c, fun _ => ⟨rK_Mod r3 trivial, 1, 7, by decide, by decide, ra_waterNow r3 hW.1 hW.2.1 hx (fun S4 f4 a4 r4 => ?_)⟩⟩
    unfold wA_X8_water_b28
    rw [wat_eq (LJ_80 (v := 0) h : LI E n Z _) hx]
    exact hQ S4 (f3.trans f4 (fun _ _ z => z) (fun _ _ z => z)) (fun h => a4 (a3 h)) r4
end
