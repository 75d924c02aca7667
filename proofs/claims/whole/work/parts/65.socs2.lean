/-! ===== ofSociety: both sides ===== -/
section
variable {S S' S0 S1 : sT} {a y q k n m i : Nat} {E : eT} {X : Nat → Nat → Nat} {N N' : yT} {Z Z' : zT} {x1 x2 : Int32}
theorem soc_eq (h : LI E n Z N) (hi : i < E.1) (hx : 0 ≤ x2.toInt ∧ x2.toInt ≤ 8) : socR (fF E) N i x2 = socC E (Z 0) i x2 := by
  have hd := LJ_dRel h
  have c34 : Z 0 34 i = N 34 i := LI_ch h (by unfold Ch; decide)
  have c35 : Z 0 35 i = N 35 i := LI_ch h (by unfold Ch; decide)
  have c36 : Z 0 36 i = N 36 i := LI_ch h (by unfold Ch; decide)
  have c37 : Z 0 37 i = N 37 i := LI_ch h (by unfold Ch; decide)
  have c40 : Z 0 40 i = N 40 i := LI_ch h (by unfold Ch; decide)
  have c41 : Z 0 41 i = N 41 i := LI_ch h (by unfold Ch; decide)
  rcases val9 hx with e | e | e | e | e | e | e | e | e <;> subst e
  · exact c34.symm
  · exact c35.symm
  · exact c36.symm
  · exact c37.symm
  · have := op_eq CD_Ch hd hi
    show (if opR N i = 0 then (0 : Int32) else 1) = (if Z 0 35 i ≤ fmod (fmod (Z 0 64 0) 210 - Z 0 34 i) 210 then 0 else 1)
    by_cases w : opR N i = 0
    · rw [if_pos w, if_pos (this.mpr w)]
    · rw [if_neg w, if_neg (fun z => w (this.mp z))]
  · exact c40.symm
  · exact sz_eq h rfl hi
  · exact c41.symm
  · exact nx_eq CD_Ch (LJ_EW h) hd hi
theorem m_ofSociety {x0 : Nat} (e0 : x0 = X 0 0) (h : LI E n Z N) : RESA x0 E n X Z N (v_X6_ofSociety E x1 x2 Z) (vT_X6_ofSociety E x1 x2 Z) (wA_X8_ofSociety 1 9 x0 x1 x2) [xI, xA] := by
  subst e0
  have hW := LJ_EW h
  have h12 := hW.2.1
  have h3 := hW.1
  have n1 : ¬ (1 : Int32) = 0 := by decide
  have hs := isw_n (x1 := x1) (m := E.1) (by omega)
  by_cases hv : vp_in x1 E.1
  · have g1 := hs.1 hv
    by_cases c : isw x2 0 8 = 0
    · refine Or.inr ⟨1, xA, 0, s_up2 (s_up2 N 80 0 0) 80 0 2, rfl, fun Q hq => t_ofSociety h3 hv c hq, fun S2 hC Q hQ => ?_, rfl, LJ_80 (LJ_80 h)⟩
      unfold wA_X8_ofSociety wA_X8_ofSociety_b0
      refine ⟨rK_Mod hC trivial, fun S3 e3 => ?_⟩
      obtain ⟨r3, f3, a3⟩ := RC_80 hC e3
      refine w_isS r3.1 h3 ?_
      rw [g1]
      refine ⟨fun _ => ?_, fun z => absurd z n1⟩
      rw [w_is8, c]
      exact ⟨fun _ => ⟨rK_Mod r3 trivial, ra_ref hC e3 (fun S4 f4 a4 r4 => hQ S4 f4 a4 r4)⟩, fun z => absurd rfl z⟩
    · have hx := isw_b c
      have hx : 0 ≤ x2.toInt ∧ x2.toInt ≤ 8 := hx
      refine Or.inl ⟨socC E (Z 0) (Int32.toNatClampNeg x1) x2, Z, s_up2 N 80 0 0, fun Q hq => c_ofSociety h12 h3 hv hx hq, fun S2 hC Q hQ => ?_, rfl, LJ_80 h⟩
      unfold wA_X8_ofSociety wA_X8_ofSociety_b0
      refine ⟨rK_Mod hC trivial, fun S3 e3 => ?_⟩
      obtain ⟨r3, f3, a3⟩ := RC_80 hC e3
      refine w_isS r3.1 h3 ?_
      rw [g1]
      refine ⟨fun _ => ?_, fun z => absurd z n1⟩
      rw [w_is8]
      refine ⟨fun z => absurd z c, fun _ => ⟨rK_Mod r3 trivial, 1, 9, by decide, by decide, ra_societyNow r3 hv h3 h12 hx (fun S4 f4 a4 r4 => ?_)⟩⟩
      unfold wA_X8_ofSociety_b43
      rw [soc_eq (LJ_80 (v := 0) h : LI E n Z _) (vp_lt hv) hx]
      exact hQ S4 (f3.trans f4 (fun _ _ z => z) (fun _ _ z => z)) (fun h => a4 (a3 h)) r4
  · have g1 := hs.2 hv
    refine Or.inr ⟨0, xI, 0, s_up2 (s_up2 N 80 0 0) 80 0 1, rfl, fun Q hq => Or.inr (by rw [t_societyAt h3 hv]; exact hq), fun S2 hC Q hQ => ?_, rfl, LJ_80 (LJ_80 h)⟩
    unfold wA_X8_ofSociety wA_X8_ofSociety_b0
    refine ⟨rK_Mod hC trivial, fun S3 e3 => ?_⟩
    obtain ⟨r3, f3, a3⟩ := RC_80 hC e3
    refine w_isS r3.1 h3 ?_
    rw [g1]
    exact ⟨fun z => absurd rfl z, fun _ => ⟨rK_Mod r3 trivial, ra_ref hC e3 (fun S4 f4 a4 r4 => hQ S4 f4 a4 r4)⟩⟩
end
