/-! ===== p31: what the class answers, in the store ===== -/
section
variable {H : Nat → Nat → Nat → Nat} {E : eT} {P : sT → Prop} {S : sT} {Z : zT} {M : yT} {k i : Nat} {x : Int32} {Q : Int32 → sT → Prop}
/-- a call of the class that goes well: its answer v, its numbers Z' -/
theorem G_of {cl : (Int32 → zT → Prop) → Prop} {wC : (Int32 → sT → Prop) → Prop} {v : Int32} {Z' : zT} (hs : cSt P) (hC : CC H E S Z) (hP : P S) (u : ∀ (P : sT → Prop) (Q : Int32 → sT → Prop) (Q' : Int32 → zT → Prop), cSt P → (∀ x S Z, CC H E S Z → P S → Q' x Z → Q x S) → CC H E S Z → P S → cl Q' → wC Q) (hcl : ∀ Q : Int32 → zT → Prop, Q v Z' → cl Q) (hQ : ∀ S1, CC H E S1 Z' → P S1 → Q v S1) : wC Q :=
  u P Q (fun a z => a = v ∧ z = Z') hs (fun a S1 z c p e => by
    obtain ⟨e1, e2⟩ := e
    subst e1 e2
    exact hQ S1 c p) hC hP (hcl _ ⟨rfl, rfl⟩)
theorem G_fld (hs : cSt P) (hC : CC H E S Z) (hP : P S) (hk : k < E.2.1) (hx : 0 ≤ x.toInt ∧ x.toInt ≤ 13) (hQ : ∀ S1, CC H E S1 Z → P S1 → Q (fldC E (Z 0) k x) S1) : w_X6_ofField (H 0 9 0) (nI k) x S Q := by
  have h12 := hC.1.1.2.1
  refine G_of hs hC hP (cl := v_X6_ofField E (nI k) x Z) (fun P Q Q' a b c d e => u_X6_ofField a b c d e) (fun Q hq => ?_) hQ
  rw [c_ofField h12 (vp_k hk h12) hx, nI_cl (by omega)]
  exact hq
theorem G_own (hs : cSt P) (hC : CC H E S Z) (hP : P S) (hk : k < E.2.1) (hx : 0 ≤ x.toInt ∧ x.toInt ≤ 3) (hQ : ∀ S1, CC H E S1 Z → P S1 → Q (ownC (Z 0) k x) S1) : w_X6_ofOwner (H 0 9 0) (nI k) x S Q := by
  have h12 := hC.1.1.2.1
  refine G_of hs hC hP (cl := v_X6_ofOwner E (nI k) x Z) (fun P Q Q' a b c d e => u_X6_ofOwner a b c d e) (fun Q hq => ?_) hQ
  rw [c_ofOwner h12 (vp_k hk h12) hx, nI_cl (by omega)]
  exact hq
theorem G_tho (hs : cSt P) (hC : CC H E S Z) (hP : P S) (hk : k < E.2.1) (hQ : ∀ S1, CC H E S1 Z → P S1 → Q (thoC (Z 0) k x) S1) : w_X6_thought (H 0 9 0) (nI k) x S Q := by
  have h12 := hC.1.1.2.1
  refine G_of hs hC hP (cl := v_X6_thought E (nI k) x Z) (fun P Q Q' a b c d e => u_X6_thought a b c d e) (fun Q hq => ?_) hQ
  rw [c_thought h12 (vp_k hk h12), nI_cl (by omega)]
  exact hq
theorem G_soc (hs : cSt P) (hC : CC H E S Z) (hP : P S) (hi : i < E.1) (hx : 0 ≤ x.toInt ∧ x.toInt ≤ 8) (hQ : ∀ S1, CC H E S1 Z → P S1 → Q (socC E (Z 0) i x) S1) : w_X6_ofSociety (H 0 9 0) (nI i) x S Q := by
  have h12 := hC.1.1.2.1
  have h3 := hC.1.1.1
  refine G_of hs hC hP (cl := v_X6_ofSociety E (nI i) x Z) (fun P Q Q' a b c d e => u_X6_ofSociety a b c d e) (fun Q hq => ?_) hQ
  refine c_ofSociety h12 h3 (vp_k hi (by omega)) hx ?_
  rw [nI_cl (by omega)]
  exact hq
theorem G_sus (hs : cSt P) (hC : CC H E S Z) (hP : P S) (hi : i < E.1) (hQ : ∀ S1, CC H E S1 Z → P S1 → Q (onI (susC E (Z 0) i)) S1) : w_X6_suspect (H 0 9 0) (nI i) S Q := by
  have h12 := hC.1.1.2.1
  have h3 := hC.1.1.1
  refine G_of hs hC hP (cl := v_X6_suspect E (nI i) Z) (fun P Q Q' a b c d e => u_X6_suspect a b c d e) (fun Q hq => ?_) hQ
  refine c_suspect h3 h12 (vp_k hi (by omega)) ?_
  rw [nI_cl (by omega)]
  exact hq
theorem G_wat (hs : cSt P) (hC : CC H E S Z) (hP : P S) (hx : 0 ≤ x.toInt ∧ x.toInt ≤ 6) (hQ : ∀ S1, CC H E S1 Z → P S1 → Q (watC E (Z 0) x) S1) : w_X6_water (H 0 9 0) x S Q :=
  G_of hs hC hP (cl := v_X6_water E x Z) (fun P Q Q' a b c d e => u_X6_water a b c d e) (fun Q hq => c_water hC.1.1.2.1 hC.1.1.1 hx hq) hQ
theorem G_man (hs : cSt P) (hC : CC H E S Z) (hP : P S) (hx : 0 ≤ x.toInt ∧ x.toInt ≤ 11) (hQ : ∀ S1, CC H E S1 Z → P S1 → Q (manC E (Z 0) x) S1) : w_X6_many (H 0 9 0) x S Q :=
  G_of hs hC hP (cl := v_X6_many E x Z) (fun P Q Q' a b c d e => u_X6_many a b c d e) (fun Q hq => c_many hC.1.1.2.1 hC.1.1.1 hx hq) hQ
theorem G_clo (hs : cSt P) (hC : CC H E S Z) (hP : P S) (hQ : ∀ S1, CC H E S1 Z → P S1 → Q (cloC E (Z 0)) S1) : w_X6_isClosed (H 0 9 0) S Q :=
  G_of hs hC hP (cl := v_X6_isClosed E Z) (fun P Q Q' a b c d e => u_X6_isClosed a b c d e) (fun Q hq => c_closed hC.1.1.2.1 hC.1.1.1 hq) hQ
/-- 1 for an excluded owner -/
def exC (M : yT) (k : Nat) : Int32 := if 0 ≤ M 17 k then 0 else 1
theorem f_0 : fldC E M k 0 = nI (E.2.2 k) := by simp [fldC]
theorem G_f0 (hs : cSt P) (hC : CC H E S Z) (hP : P S) (hk : k < E.2.1) (hQ : ∀ S1, CC H E S1 Z → P S1 → Q (nI (E.2.2 k)) S1) : w_X6_ofField (H 0 9 0) (nI k) 0 S Q := G_fld hs hC hP hk (by decide) (fun S1 c p => by rw [f_0]; exact hQ S1 c p)
theorem f_1 : fldC E M k 1 = M 1 k := by simp [fldC, q_lit1]
theorem G_f1 (hs : cSt P) (hC : CC H E S Z) (hP : P S) (hk : k < E.2.1) (hQ : ∀ S1, CC H E S1 Z → P S1 → Q (Z 0 1 k) S1) : w_X6_ofField (H 0 9 0) (nI k) 1 S Q := G_fld hs hC hP hk (by decide) (fun S1 c p => by rw [f_1]; exact hQ S1 c p)
theorem f_2 : fldC E M k 2 = M 2 k := by simp [fldC, q_lit2]
theorem G_f2 (hs : cSt P) (hC : CC H E S Z) (hP : P S) (hk : k < E.2.1) (hQ : ∀ S1, CC H E S1 Z → P S1 → Q (Z 0 2 k) S1) : w_X6_ofField (H 0 9 0) (nI k) 2 S Q := G_fld hs hC hP hk (by decide) (fun S1 c p => by rw [f_2]; exact hQ S1 c p)
theorem f_3 : fldC E M k 3 = M 3 k := by simp [fldC, q_lit3]
theorem G_f3 (hs : cSt P) (hC : CC H E S Z) (hP : P S) (hk : k < E.2.1) (hQ : ∀ S1, CC H E S1 Z → P S1 → Q (Z 0 3 k) S1) : w_X6_ofField (H 0 9 0) (nI k) 3 S Q := G_fld hs hC hP hk (by decide) (fun S1 c p => by rw [f_3]; exact hQ S1 c p)
theorem f_4 : fldC E M k 4 = M 4 k := by simp [fldC, q_lit4]
theorem G_f4 (hs : cSt P) (hC : CC H E S Z) (hP : P S) (hk : k < E.2.1) (hQ : ∀ S1, CC H E S1 Z → P S1 → Q (Z 0 4 k) S1) : w_X6_ofField (H 0 9 0) (nI k) 4 S Q := G_fld hs hC hP hk (by decide) (fun S1 c p => by rw [f_4]; exact hQ S1 c p)
theorem f_5 : fldC E M k 5 = M 5 k := by simp [fldC, q_lit5]
theorem G_f5 (hs : cSt P) (hC : CC H E S Z) (hP : P S) (hk : k < E.2.1) (hQ : ∀ S1, CC H E S1 Z → P S1 → Q (Z 0 5 k) S1) : w_X6_ofField (H 0 9 0) (nI k) 5 S Q := G_fld hs hC hP hk (by decide) (fun S1 c p => by rw [f_5]; exact hQ S1 c p)
theorem f_6 : fldC E M k 6 = M 6 k := by simp [fldC, q_lit6]
theorem G_f6 (hs : cSt P) (hC : CC H E S Z) (hP : P S) (hk : k < E.2.1) (hQ : ∀ S1, CC H E S1 Z → P S1 → Q (Z 0 6 k) S1) : w_X6_ofField (H 0 9 0) (nI k) 6 S Q := G_fld hs hC hP hk (by decide) (fun S1 c p => by rw [f_6]; exact hQ S1 c p)
theorem f_7 : fldC E M k 7 = M 7 k := by simp [fldC, q_lit7]
theorem G_f7 (hs : cSt P) (hC : CC H E S Z) (hP : P S) (hk : k < E.2.1) (hQ : ∀ S1, CC H E S1 Z → P S1 → Q (Z 0 7 k) S1) : w_X6_ofField (H 0 9 0) (nI k) 7 S Q := G_fld hs hC hP hk (by decide) (fun S1 c p => by rw [f_7]; exact hQ S1 c p)
theorem f_8 : fldC E M k 8 = M 8 k := by simp [fldC, q_lit8]
theorem G_f8 (hs : cSt P) (hC : CC H E S Z) (hP : P S) (hk : k < E.2.1) (hQ : ∀ S1, CC H E S1 Z → P S1 → Q (Z 0 8 k) S1) : w_X6_ofField (H 0 9 0) (nI k) 8 S Q := G_fld hs hC hP hk (by decide) (fun S1 c p => by rw [f_8]; exact hQ S1 c p)
theorem f_9 : fldC E M k 9 = M 9 k := by simp [fldC, q_lit9]
theorem G_f9 (hs : cSt P) (hC : CC H E S Z) (hP : P S) (hk : k < E.2.1) (hQ : ∀ S1, CC H E S1 Z → P S1 → Q (Z 0 9 k) S1) : w_X6_ofField (H 0 9 0) (nI k) 9 S Q := G_fld hs hC hP hk (by decide) (fun S1 c p => by rw [f_9]; exact hQ S1 c p)
theorem f_10 : fldC E M k 10 = ryC M k := by simp [fldC]
theorem G_f10 (hs : cSt P) (hC : CC H E S Z) (hP : P S) (hk : k < E.2.1) (hQ : ∀ S1, CC H E S1 Z → P S1 → Q (ryC (Z 0) k) S1) : w_X6_ofField (H 0 9 0) (nI k) 10 S Q := G_fld hs hC hP hk (by decide) (fun S1 c p => by rw [f_10]; exact hQ S1 c p)
theorem f_11 : fldC E M k 11 = M 10 k := by simp [fldC]
theorem G_f11 (hs : cSt P) (hC : CC H E S Z) (hP : P S) (hk : k < E.2.1) (hQ : ∀ S1, CC H E S1 Z → P S1 → Q (Z 0 10 k) S1) : w_X6_ofField (H 0 9 0) (nI k) 11 S Q := G_fld hs hC hP hk (by decide) (fun S1 c p => by rw [f_11]; exact hQ S1 c p)
theorem f_12 : fldC E M k 12 = M 11 k := by simp [fldC]
theorem G_f12 (hs : cSt P) (hC : CC H E S Z) (hP : P S) (hk : k < E.2.1) (hQ : ∀ S1, CC H E S1 Z → P S1 → Q (Z 0 11 k) S1) : w_X6_ofField (H 0 9 0) (nI k) 12 S Q := G_fld hs hC hP hk (by decide) (fun S1 c p => by rw [f_12]; exact hQ S1 c p)
theorem f_13 : fldC E M k 13 = (if M 12 k = 0 then 0 else 1) := by simp [fldC]
theorem G_f13 (hs : cSt P) (hC : CC H E S Z) (hP : P S) (hk : k < E.2.1) (hQ : ∀ S1, CC H E S1 Z → P S1 → Q ((if Z 0 12 k = 0 then 0 else 1)) S1) : w_X6_ofField (H 0 9 0) (nI k) 13 S Q := G_fld hs hC hP hk (by decide) (fun S1 c p => by rw [f_13]; exact hQ S1 c p)
theorem o_0 : ownC M k 0 = M 17 k := by simp [ownC]
theorem G_o0 (hs : cSt P) (hC : CC H E S Z) (hP : P S) (hk : k < E.2.1) (hQ : ∀ S1, CC H E S1 Z → P S1 → Q (Z 0 17 k) S1) : w_X6_ofOwner (H 0 9 0) (nI k) 0 S Q := G_own hs hC hP hk (by decide) (fun S1 c p => by rw [o_0]; exact hQ S1 c p)
theorem o_1 : ownC M k 1 = M 18 k := by simp [ownC]
theorem G_o1 (hs : cSt P) (hC : CC H E S Z) (hP : P S) (hk : k < E.2.1) (hQ : ∀ S1, CC H E S1 Z → P S1 → Q (Z 0 18 k) S1) : w_X6_ofOwner (H 0 9 0) (nI k) 1 S Q := G_own hs hC hP hk (by decide) (fun S1 c p => by rw [o_1]; exact hQ S1 c p)
theorem o_2 : ownC M k 2 = M 19 k := by simp [ownC]
theorem G_o2 (hs : cSt P) (hC : CC H E S Z) (hP : P S) (hk : k < E.2.1) (hQ : ∀ S1, CC H E S1 Z → P S1 → Q (Z 0 19 k) S1) : w_X6_ofOwner (H 0 9 0) (nI k) 2 S Q := G_own hs hC hP hk (by decide) (fun S1 c p => by rw [o_2]; exact hQ S1 c p)
theorem o_3 : ownC M k 3 = exC M k := by simp [ownC, exC]
theorem G_o3 (hs : cSt P) (hC : CC H E S Z) (hP : P S) (hk : k < E.2.1) (hQ : ∀ S1, CC H E S1 Z → P S1 → Q (exC (Z 0) k) S1) : w_X6_ofOwner (H 0 9 0) (nI k) 3 S Q := G_own hs hC hP hk (by decide) (fun S1 c p => by rw [o_3]; exact hQ S1 c p)
theorem h_0 : thoC M k 0 = M 20 k := by simp [thoC]
theorem G_t0 (hs : cSt P) (hC : CC H E S Z) (hP : P S) (hk : k < E.2.1) (hQ : ∀ S1, CC H E S1 Z → P S1 → Q (Z 0 20 k) S1) : w_X6_thought (H 0 9 0) (nI k) 0 S Q := G_tho hs hC hP hk (fun S1 c p => by rw [h_0]; exact hQ S1 c p)
theorem h_1 : thoC M k 1 = M 21 k := by simp [thoC]
theorem G_t1 (hs : cSt P) (hC : CC H E S Z) (hP : P S) (hk : k < E.2.1) (hQ : ∀ S1, CC H E S1 Z → P S1 → Q (Z 0 21 k) S1) : w_X6_thought (H 0 9 0) (nI k) 1 S Q := G_tho hs hC hP hk (fun S1 c p => by rw [h_1]; exact hQ S1 c p)
theorem s_c2 : socC E M i 2 = M 36 i := by simp [socC]
theorem G_s2 (hs : cSt P) (hC : CC H E S Z) (hP : P S) (hi : i < E.1) (hQ : ∀ S1, CC H E S1 Z → P S1 → Q (Z 0 36 i) S1) : w_X6_ofSociety (H 0 9 0) (nI i) 2 S Q := G_soc hs hC hP hi (by decide) (fun S1 c p => by rw [s_c2]; exact hQ S1 c p)
theorem s_c3 : socC E M i 3 = M 37 i := by simp [socC]
theorem G_s3 (hs : cSt P) (hC : CC H E S Z) (hP : P S) (hi : i < E.1) (hQ : ∀ S1, CC H E S1 Z → P S1 → Q (Z 0 37 i) S1) : w_X6_ofSociety (H 0 9 0) (nI i) 3 S Q := G_soc hs hC hP hi (by decide) (fun S1 c p => by rw [s_c3]; exact hQ S1 c p)
theorem s_c5 : socC E M i 5 = M 40 i := by simp [socC]
theorem G_s5 (hs : cSt P) (hC : CC H E S Z) (hP : P S) (hi : i < E.1) (hQ : ∀ S1, CC H E S1 Z → P S1 → Q (Z 0 40 i) S1) : w_X6_ofSociety (H 0 9 0) (nI i) 5 S Q := G_soc hs hC hP hi (by decide) (fun S1 c p => by rw [s_c5]; exact hQ S1 c p)
theorem s_c6 : socC E M i 6 = nI (ce_mem E i).length := by simp [socC]
theorem G_s6 (hs : cSt P) (hC : CC H E S Z) (hP : P S) (hi : i < E.1) (hQ : ∀ S1, CC H E S1 Z → P S1 → Q (nI (ce_mem E i).length) S1) : w_X6_ofSociety (H 0 9 0) (nI i) 6 S Q := G_soc hs hC hP hi (by decide) (fun S1 c p => by rw [s_c6]; exact hQ S1 c p)
theorem s_c7 : socC E M i 7 = M 41 i := by simp [socC]
theorem G_s7 (hs : cSt P) (hC : CC H E S Z) (hP : P S) (hi : i < E.1) (hQ : ∀ S1, CC H E S1 Z → P S1 → Q (Z 0 41 i) S1) : w_X6_ofSociety (H 0 9 0) (nI i) 7 S Q := G_soc hs hC hP hi (by decide) (fun S1 c p => by rw [s_c7]; exact hQ S1 c p)
theorem s_c8 : socC E M i 8 = onI (nxC E M i) := by simp [socC]
theorem G_s8 (hs : cSt P) (hC : CC H E S Z) (hP : P S) (hi : i < E.1) (hQ : ∀ S1, CC H E S1 Z → P S1 → Q (onI (nxC E (Z 0) i)) S1) : w_X6_ofSociety (H 0 9 0) (nI i) 8 S Q := G_soc hs hC hP hi (by decide) (fun S1 c p => by rw [s_c8]; exact hQ S1 c p)
theorem w_c1 : watC E M 1 = sm (M 1) E.2.1 := by
  have e : watC E M 1 = sumF E M 1 := by simp [watC]
  rw [e]
  exact sm_c (f := fun k => fldC E M k 1) (g := M 1) (fun k _ => f_1)
theorem w_c2 : watC E M 2 = M 68 0 := by simp [watC]
theorem s_37 : sumS E M 3 = sm (M 37) E.1 := sm_c (f := fun i => socC E M i 3) (g := M 37) (fun i _ => s_c3)
theorem G_w1 (hs : cSt P) (hC : CC H E S Z) (hP : P S) (hQ : ∀ S1, CC H E S1 Z → P S1 → Q (sm (Z 0 1) E.2.1) S1) : w_X6_water (H 0 9 0) 1 S Q := G_wat hs hC hP (by decide) (fun S1 c p => by rw [w_c1]; exact hQ S1 c p)
theorem G_w2 (hs : cSt P) (hC : CC H E S Z) (hP : P S) (hQ : ∀ S1, CC H E S1 Z → P S1 → Q (Z 0 68 0) S1) : w_X6_water (H 0 9 0) 2 S Q := G_wat hs hC hP (by decide) (fun S1 c p => by rw [w_c2]; exact hQ S1 c p)
theorem m_c2 : manC E M 2 = M 64 0 := by simp [manC]
theorem G_m2 (hs : cSt P) (hC : CC H E S Z) (hP : P S) (hQ : ∀ S1, CC H E S1 Z → P S1 → Q (Z 0 64 0) S1) : w_X6_many (H 0 9 0) 2 S Q := G_man hs hC hP (by decide) (fun S1 c p => by rw [m_c2]; exact hQ S1 c p)
theorem m_c4 : manC E M 4 = (if M 64 0 - M 64 0 / 30 * 30 = 0 then 1 else 0) := by simp [manC]
theorem G_m4 (hs : cSt P) (hC : CC H E S Z) (hP : P S) (hQ : ∀ S1, CC H E S1 Z → P S1 → Q ((if Z 0 64 0 - Z 0 64 0 / 30 * 30 = 0 then 1 else 0)) S1) : w_X6_many (H 0 9 0) 4 S Q := G_man hs hC hP (by decide) (fun S1 c p => by rw [m_c4]; exact hQ S1 c p)
theorem m_c10 : manC E M 10 = M 74 0 := by simp [manC]
theorem G_m10 (hs : cSt P) (hC : CC H E S Z) (hP : P S) (hQ : ∀ S1, CC H E S1 Z → P S1 → Q (Z 0 74 0) S1) : w_X6_many (H 0 9 0) 10 S Q := G_man hs hC hP (by decide) (fun S1 c p => by rw [m_c10]; exact hQ S1 c p)
theorem m_c6 : manC E M 6 = sm (M 17) E.2.1 := by
  have e : manC E M 6 = sumO E M 0 := by simp [manC]
  rw [e]
  exact sm_c (f := fun k => ownC M k 0) (g := M 17) (fun k _ => o_0)
theorem G_m6 (hs : cSt P) (hC : CC H E S Z) (hP : P S) (hQ : ∀ S1, CC H E S1 Z → P S1 → Q (sm (Z 0 17) E.2.1) S1) : w_X6_many (H 0 9 0) 6 S Q := G_man hs hC hP (by decide) (fun S1 c p => by rw [m_c6]; exact hQ S1 c p)
theorem m_c7 : manC E M 7 = sm (M 36) E.1 := by
  have e : manC E M 7 = sumS E M 2 := by simp [manC]
  rw [e]
  exact sm_c (f := fun i => socC E M i 2) (g := M 36) (fun i _ => s_c2)
theorem G_m7 (hs : cSt P) (hC : CC H E S Z) (hP : P S) (hQ : ∀ S1, CC H E S1 Z → P S1 → Q (sm (Z 0 36) E.1) S1) : w_X6_many (H 0 9 0) 7 S Q := G_man hs hC hP (by decide) (fun S1 c p => by rw [m_c7]; exact hQ S1 c p)
theorem m_c8 : manC E M 8 = sm (exC M) E.2.1 := by
  have e : manC E M 8 = sumO E M 3 := by simp [manC]
  rw [e]
  exact sm_c (f := fun k => ownC M k 3) (g := exC M) (fun k _ => o_3)
theorem G_m8 (hs : cSt P) (hC : CC H E S Z) (hP : P S) (hQ : ∀ S1, CC H E S1 Z → P S1 → Q (sm (exC (Z 0)) E.2.1) S1) : w_X6_many (H 0 9 0) 8 S Q := G_man hs hC hP (by decide) (fun S1 c p => by rw [m_c8]; exact hQ S1 c p)
theorem clo_1 (h : CLO E M) : cloC E M = 1 := by
  unfold cloC
  refine if_pos ?_
  unfold CLO at h
  rw [h, s_37]
  have e : sumF E M 1 = sm (M 1) E.2.1 := sm_c (f := fun k => fldC E M k 1) (g := M 1) (fun k _ => f_1)
  rw [e]
end
