/-! ===== the law's loop: each kind of call ===== -/
/-- the most that a call may cost in slots -/
abbrev capE (E : eT) : Nat := 10014 + 81 * E.1 + 365 * E.2.1
section
variable {x1 x2 x3 x4 : Nat} {E : eT} {m : Nat} {S : sT}
theorem fin_d {wR : sT → (UInt64 → sT → Prop) → Prop} {r : Int32} {K : sT → Prop} (hA : AFTd x1 x2 x3 x4 E m wR r S) (hK : ∀ S3, LW x1 x2 x3 x4 E m S3 → K S3) :
    s_K S x2 = 10 ∧ wR S (fun v S2 => s_K S2 x2 = 10 ∧ w_X8_thrown x2 S2 (fun t S3 => ((t = r → ((¬ r = 0 → K S3) ∧ (r = 0 → s_K S3 x4 = 15 ∧ vp_in (0 : Int32) (s_N S3 x4) ∧ ∀ f : UInt64, f = s_D S3 x4 (Int32.toNatClampNeg (0 : Int32)) → ∀ x : Int32, x = Op.cmpValue (FP.dcmp f v) CmpOp.l → ((x = 0 → K S3) ∧ (¬ x = 0 → vp_in (0 : Int32) (s_N S3 x4) ∧ ∀ f2 : UInt64, f2 = s_D S3 x4 (Int32.toNatClampNeg (0 : Int32)) → vp_in (0 : Int32) (s_N S3 x4) ∧ ∀ f3 : UInt64, f3 = s_D S3 x4 (Int32.toNatClampNeg (0 : Int32)) → ∀ y : Int32, y = Op.cmpValue (FP.dcmp f2 f3) CmpOp.l → ((y = 0 → False) ∧ (¬ y = 0 → ∀ z : Int32, z = Op.cmpValue (FP.dcmp v v) CmpOp.l → ((¬ z = 0 → K S3) ∧ (z = 0 → False))))))))) ∧ (¬ t = r → False)))) := by
  obtain ⟨h0, ⟨hr, v, h⟩ | ⟨hr, u, h⟩⟩ := hA
  · refine ⟨h0, h _ (fun S3 hW hk hi h3 hn hg => ⟨hk, hk, fun t et => ?_⟩)⟩
    rw [hi] at et
    subst hr
    have hg : s_D S3 x4 (Int32.toNatClampNeg (0 : Int32)) = v := hg
    refine ⟨fun _ => ⟨fun c => absurd rfl c, fun _ => ⟨h3, vp_in01 hn, fun f ef x ex => ⟨fun _ => hK S3 hW, fun c => ⟨vp_in01 hn, fun f2 ef2 => ⟨vp_in01 hn, fun f3 ef3 y ey => ?_⟩⟩⟩⟩⟩, fun c => absurd et c⟩
    rw [hg] at ef ef2 ef3
    rw [ef] at ex
    rw [ef2, ef3] at ey
    have e1 : y = x := ey.trans ex.symm
    exact ⟨fun z => c (e1.symm.trans z), fun _ z ez => ⟨fun _ => hK S3 hW, fun z0 => c (ex.trans (ez.symm.trans z0))⟩⟩
  · refine ⟨h0, h _ (fun S3 hW hk hi => ⟨hk, hk, fun t et => ?_⟩)⟩
    rw [hi] at et
    exact ⟨fun _ => ⟨fun _ => hK S3 hW, fun c => absurd c hr⟩, fun c => absurd et c⟩
end
section
variable {x1 x2 x3 x4 : Nat} {E : eT} {m : Nat} {S : sT} {sc : Nat × (Nat → Int32)} {mc ms kc ks n : Nat} {x5 : Int32}
/-- the law's loop ahead of a call -/
def LH (x1 x2 x3 x4 : Nat) (E : eT) (m kc ks : Nat) (x5 : Int32) (S : sT) (sc : Nat × (Nat → Int32)) (mc ms n : Nat) : Prop :=
  LW x1 x2 x3 x4 E m S ∧ m < 512 ∧ kc + 941 ≤ mc ∧ ks + capE E ≤ ms ∧ (E.1 ≤ 3 ∧ E.2.1 ≤ 12) ∧ (vp_in (x5 + (1 : Int32)) sc.1 ∧ vp_in (x5 + (2 : Int32)) sc.1 ∧ vp_in (x5 + (3 : Int32)) sc.1 ∧ vp_in (x5 + (4 : Int32)) sc.1) ∧
  ∀ (S' : sT) (E' : eT) (kc' ks' : Nat), GR E E' → LW x1 x2 x3 x4 E' (m + 1) S' → kc' ≤ kc + 941 → (E' = E ∧ ks' ≤ ks + capE E ∨ ks' ≤ ks + 465) → wA_L_law_b2022 mc ms kc' ks' x1 x2 x3 x4 x5 S' (fun kc ks x1 x2 x3 x4 x5 S => wA_L_law_b28 mc ms sc n kc ks x1 x2 x3 x4 x5 S) sc
theorem lb_0 (h : LH x1 x2 x3 x4 E m kc ks x5 S sc mc ms n) :
    ∀ x108 : Int32, x108 = x5 + (1 : Int32) →
    vp_in x108 sc.1 ∧
    ∀ x110 : Int32, x110 = sc.2 (Int32.toNatClampNeg x108) →
    ∀ x111 : Int32, x111 = x5 + (2 : Int32) →
    vp_in x111 sc.1 ∧
    ∀ x113 : Int32, x113 = sc.2 (Int32.toNatClampNeg x111) →
    ∀ x114 : Int32, x114 = x5 + (3 : Int32) →
    vp_in x114 sc.1 ∧
    ∀ x116 : Int32, x116 = sc.2 (Int32.toNatClampNeg x114) →
    ∀ x117 : Int32, x117 = x5 + (4 : Int32) →
    vp_in x117 sc.1 ∧
    ∀ x119 : Int32, x119 = sc.2 (Int32.toNatClampNeg x117) →
    ∃ c120 d121 : Nat, kc + c120 ≤ mc ∧ ks + d121 ≤ ms ∧
    wA_L_society c120 d121 x1 x110 x113 x116 x119 x3 S (fun x123 S122 =>
    ∀ x124 : Int32, x124 = x5 + (1 : Int32) →
    vp_in x124 sc.1 ∧
    ∀ x126 : Int32, x126 = sc.2 (Int32.toNatClampNeg x124) →
    ∀ x127 : Int32, x127 = x5 + (2 : Int32) →
    vp_in x127 sc.1 ∧
    ∀ x129 : Int32, x129 = sc.2 (Int32.toNatClampNeg x127) →
    ∀ x130 : Int32, x130 = x5 + (3 : Int32) →
    vp_in x130 sc.1 ∧
    ∀ x132 : Int32, x132 = sc.2 (Int32.toNatClampNeg x130) →
    ∀ x133 : Int32, x133 = x5 + (4 : Int32) →
    vp_in x133 sc.1 ∧
    ∀ x135 : Int32, x135 = sc.2 (Int32.toNatClampNeg x133) →
    s_K S122 x2 = 10 ∧
    ∃ c136 d137 : Nat, (kc + c120) + c136 ≤ mc ∧ (ks + d121) + d137 ≤ ms ∧
    wA_X8_society c136 d137 x2 x126 x129 x132 x135 S122 (fun x139 S138 =>
    s_K S138 x2 = 10 ∧
    w_X8_thrown x2 S138 (fun x141 S140 =>
    ((x141 = x123 → ((¬ x123 = 0 → wA_L_law_b261 mc ms ((kc + c120) + c136) ((ks + d121) + d137) x1 x2 x3 x4 x5 S140 (fun kc ks x1 x2 x3 x4 x5 S => wA_L_law_b28 mc ms  sc n kc ks x1 x2 x3 x4 x5 S) sc) ∧
    (x123 = 0 → s_K S140 x3 = 14 ∧
    vp_in (0 : Int32) (s_N S140 x3) ∧
    ∀ j145 : Int64, j145 = s_G S140 x3 (Int32.toNatClampNeg (0 : Int32)) →
    ∀ j146 : Int64, j146 = Int32.toInt64 x139 →
    ∀ x147 : Int32, x147 = lg_cmp j145 j146 →
    ((x147 = 0 → wA_L_law_b261 mc ms ((kc + c120) + c136) ((ks + d121) + d137) x1 x2 x3 x4 x5 S140 (fun kc ks x1 x2 x3 x4 x5 S => wA_L_law_b28 mc ms  sc n kc ks x1 x2 x3 x4 x5 S) sc) ∧
    (¬ x147 = 0 → False))))) ∧
    (¬ x141 = x123 → False))))) := by
  obtain ⟨hW, hm, hmc, hms, hE, ⟨v1, v2, v3, v4⟩, hK⟩ := h
  unfold capE at hms hK
  intro y1 e1
  subst e1
  refine ⟨v1, ?_⟩
  intro z1 f1
  subst f1
  intro y2 e2
  subst e2
  refine ⟨v2, ?_⟩
  intro z2 f2
  subst f2
  intro y3 e3
  subst e3
  refine ⟨v3, ?_⟩
  intro z3 f3
  subst f3
  intro y4 e4
  subst e4
  refine ⟨v4, ?_⟩
  intro z4 f4
  subst f4
  refine ⟨6, 60, by omega, by omega, L_society hW (fun r S1 E1 hG hA => ?_)⟩
  intro y1 e1
  subst e1
  refine ⟨v1, ?_⟩
  intro z1 f1
  subst f1
  intro y2 e2
  subst e2
  refine ⟨v2, ?_⟩
  intro z2 f2
  subst f2
  intro y3 e3
  subst e3
  refine ⟨v3, ?_⟩
  intro z3 f3
  subst f3
  intro y4 e4
  subst e4
  refine ⟨v4, ?_⟩
  intro z4 f4
  subst f4
  refine ⟨hA.1, 21, 349, by omega, by omega, ?_⟩
  exact (fin_i hA (fun S3 h3 => hK S3 E1 _ _ hG h3 (by omega) (Or.inr (by omega)))).2
theorem lb_1 (h : LH x1 x2 x3 x4 E m kc ks x5 S sc mc ms n) :
    ∀ x150 : Int32, x150 = x5 + (1 : Int32) →
    vp_in x150 sc.1 ∧
    ∀ x152 : Int32, x152 = sc.2 (Int32.toNatClampNeg x150) →
    ∀ x153 : Int32, x153 = x5 + (2 : Int32) →
    vp_in x153 sc.1 ∧
    ∀ x155 : Int32, x155 = sc.2 (Int32.toNatClampNeg x153) →
    ∀ x156 : Int32, x156 = x5 + (3 : Int32) →
    vp_in x156 sc.1 ∧
    ∀ x158 : Int32, x158 = sc.2 (Int32.toNatClampNeg x156) →
    ∃ c159 d160 : Nat, kc + c159 ≤ mc ∧ ks + d160 ≤ ms ∧
    wA_L_field c159 d160 x1 x152 x155 x158 x3 S (fun x162 S161 =>
    ∀ x163 : Int32, x163 = x5 + (1 : Int32) →
    vp_in x163 sc.1 ∧
    ∀ x165 : Int32, x165 = sc.2 (Int32.toNatClampNeg x163) →
    ∀ x166 : Int32, x166 = x5 + (2 : Int32) →
    vp_in x166 sc.1 ∧
    ∀ x168 : Int32, x168 = sc.2 (Int32.toNatClampNeg x166) →
    ∀ x169 : Int32, x169 = x5 + (3 : Int32) →
    vp_in x169 sc.1 ∧
    ∀ x171 : Int32, x171 = sc.2 (Int32.toNatClampNeg x169) →
    s_K S161 x2 = 10 ∧
    ∃ c172 d173 : Nat, (kc + c159) + c172 ≤ mc ∧ (ks + d160) + d173 ≤ ms ∧
    wA_X8_field c172 d173 x2 x165 x168 x171 S161 (fun x175 S174 =>
    s_K S174 x2 = 10 ∧
    w_X8_thrown x2 S174 (fun x177 S176 =>
    ((x177 = x162 → ((¬ x162 = 0 → wA_L_law_b341 mc ms ((kc + c159) + c172) ((ks + d160) + d173) x1 x2 x3 x4 x5 S176 (fun kc ks x1 x2 x3 x4 x5 S => wA_L_law_b28 mc ms  sc n kc ks x1 x2 x3 x4 x5 S) sc) ∧
    (x162 = 0 → s_K S176 x3 = 14 ∧
    vp_in (0 : Int32) (s_N S176 x3) ∧
    ∀ j181 : Int64, j181 = s_G S176 x3 (Int32.toNatClampNeg (0 : Int32)) →
    ∀ j182 : Int64, j182 = Int32.toInt64 x175 →
    ∀ x183 : Int32, x183 = lg_cmp j181 j182 →
    ((x183 = 0 → wA_L_law_b341 mc ms ((kc + c159) + c172) ((ks + d160) + d173) x1 x2 x3 x4 x5 S176 (fun kc ks x1 x2 x3 x4 x5 S => wA_L_law_b28 mc ms  sc n kc ks x1 x2 x3 x4 x5 S) sc) ∧
    (¬ x183 = 0 → False))))) ∧
    (¬ x177 = x162 → False))))) := by
  obtain ⟨hW, hm, hmc, hms, hE, ⟨v1, v2, v3, v4⟩, hK⟩ := h
  unfold capE at hms hK
  intro y1 e1
  subst e1
  refine ⟨v1, ?_⟩
  intro z1 f1
  subst f1
  intro y2 e2
  subst e2
  refine ⟨v2, ?_⟩
  intro z2 f2
  subst f2
  intro y3 e3
  subst e3
  refine ⟨v3, ?_⟩
  intro z3 f3
  subst f3
  refine ⟨10, 116, by omega, by omega, L_field hW (fun r S1 E1 hG hA => ?_)⟩
  intro y1 e1
  subst e1
  refine ⟨v1, ?_⟩
  intro z1 f1
  subst f1
  intro y2 e2
  subst e2
  refine ⟨v2, ?_⟩
  intro z2 f2
  subst f2
  intro y3 e3
  subst e3
  refine ⟨v3, ?_⟩
  intro z3 f3
  subst f3
  refine ⟨hA.1, 21, 349, by omega, by omega, ?_⟩
  exact (fin_i hA (fun S3 h3 => hK S3 E1 _ _ hG h3 (by omega) (Or.inr (by omega)))).2
theorem lb_2 (h : LH x1 x2 x3 x4 E m kc ks x5 S sc mc ms n) :
    ∀ x186 : Int32, x186 = x5 + (1 : Int32) →
    vp_in x186 sc.1 ∧
    ∀ x188 : Int32, x188 = sc.2 (Int32.toNatClampNeg x186) →
    ∀ x189 : Int32, x189 = x5 + (2 : Int32) →
    vp_in x189 sc.1 ∧
    ∀ x191 : Int32, x191 = sc.2 (Int32.toNatClampNeg x189) →
    ((x191 = 0 → wA_L_law_b365 mc ms kc ks x1 x2 x3 x4 x5 (0 : Int32) x188 x1 S (fun kc ks x1 x2 x3 x4 x5 S => wA_L_law_b28 mc ms  sc n kc ks x1 x2 x3 x4 x5 S) sc) ∧
    (¬ x191 = 0 → wA_L_law_b365 mc ms kc ks x1 x2 x3 x4 x5 (1 : Int32) x188 x1 S (fun kc ks x1 x2 x3 x4 x5 S => wA_L_law_b28 mc ms  sc n kc ks x1 x2 x3 x4 x5 S) sc)) := by
  obtain ⟨hW, hm, hmc, hms, hE, ⟨v1, v2, v3, v4⟩, hK⟩ := h
  unfold capE at hms hK
  intro y1 e1
  subst e1
  refine ⟨v1, ?_⟩
  intro z1 f1
  subst f1
  intro y2 e2
  subst e2
  refine ⟨v2, ?_⟩
  intro z2 f2
  subst f2
  refine ⟨fun c => ?_, fun c => ?_⟩
  · unfold wA_L_law_b365
    refine ⟨1, 6, by omega, by omega, L_gate hW (Or.inl rfl) (fun r S1 hA => ?_)⟩
    intro y1 e1
    subst e1
    refine ⟨v1, ?_⟩
    intro z1 f1
    subst f1
    intro y2 e2
    subst e2
    refine ⟨v2, ?_⟩
    intro z2 f2
    subst f2
    refine ⟨fun _ => ?_, fun c2 => absurd c c2⟩
    unfold wA_L_law_b392
    exact fin_b hA (fun S3 h3 => hK S3 E _ _ (Or.inl rfl) h3 (by omega) (Or.inl ⟨rfl, by omega⟩))
  · unfold wA_L_law_b365
    refine ⟨1, 6, by omega, by omega, L_gate hW (Or.inr rfl) (fun r S1 hA => ?_)⟩
    intro y1 e1
    subst e1
    refine ⟨v1, ?_⟩
    intro z1 f1
    subst f1
    intro y2 e2
    subst e2
    refine ⟨v2, ?_⟩
    intro z2 f2
    subst f2
    refine ⟨fun c2 => absurd c2 c, fun _ => ?_⟩
    unfold wA_L_law_b392
    exact fin_b hA (fun S3 h3 => hK S3 E _ _ (Or.inl rfl) h3 (by omega) (Or.inl ⟨rfl, by omega⟩))
theorem lb_3 (h : LH x1 x2 x3 x4 E m kc ks x5 S sc mc ms n) :
    ∀ x194 : Int32, x194 = x5 + (1 : Int32) →
    vp_in x194 sc.1 ∧
    ∀ x196 : Int32, x196 = sc.2 (Int32.toNatClampNeg x194) →
    ∀ x197 : Int32, x197 = x5 + (2 : Int32) →
    vp_in x197 sc.1 ∧
    ∀ x199 : Int32, x199 = sc.2 (Int32.toNatClampNeg x197) →
    ∃ c200 d201 : Nat, kc + c200 ≤ mc ∧ ks + d201 ≤ ms ∧
    wA_L_stones c200 d201 x1 x196 x199 x3 S (fun x203 S202 =>
    ∀ x204 : Int32, x204 = x5 + (1 : Int32) →
    vp_in x204 sc.1 ∧
    ∀ x206 : Int32, x206 = sc.2 (Int32.toNatClampNeg x204) →
    ∀ x207 : Int32, x207 = x5 + (2 : Int32) →
    vp_in x207 sc.1 ∧
    ∀ x209 : Int32, x209 = sc.2 (Int32.toNatClampNeg x207) →
    s_K S202 x2 = 10 ∧
    w_X8_stones x2 x206 x209 S202 (fun x211 S210 =>
    s_K S210 x2 = 10 ∧
    w_X8_thrown x2 S210 (fun x213 S212 =>
    ((x213 = x203 → ((¬ x203 = 0 → wA_L_law_b500 mc ms (kc + c200) (ks + d201) x1 x2 x3 x4 x5 S212 (fun kc ks x1 x2 x3 x4 x5 S => wA_L_law_b28 mc ms  sc n kc ks x1 x2 x3 x4 x5 S) sc) ∧
    (x203 = 0 → s_K S212 x3 = 14 ∧
    vp_in (0 : Int32) (s_N S212 x3) ∧
    ∀ j217 : Int64, j217 = s_G S212 x3 (Int32.toNatClampNeg (0 : Int32)) →
    ∀ j218 : Int64, j218 = Int32.toInt64 x211 →
    ∀ x219 : Int32, x219 = lg_cmp j217 j218 →
    ((x219 = 0 → wA_L_law_b500 mc ms (kc + c200) (ks + d201) x1 x2 x3 x4 x5 S212 (fun kc ks x1 x2 x3 x4 x5 S => wA_L_law_b28 mc ms  sc n kc ks x1 x2 x3 x4 x5 S) sc) ∧
    (¬ x219 = 0 → False))))) ∧
    (¬ x213 = x203 → False))))) := by
  obtain ⟨hW, hm, hmc, hms, hE, ⟨v1, v2, v3, v4⟩, hK⟩ := h
  unfold capE at hms hK
  intro y1 e1
  subst e1
  refine ⟨v1, ?_⟩
  intro z1 f1
  subst f1
  intro y2 e2
  subst e2
  refine ⟨v2, ?_⟩
  intro z2 f2
  subst f2
  refine ⟨1, 6, by omega, by omega, L_stones hW (fun r S1 hA => ?_)⟩
  intro y1 e1
  subst e1
  refine ⟨v1, ?_⟩
  intro z1 f1
  subst f1
  intro y2 e2
  subst e2
  refine ⟨v2, ?_⟩
  intro z2 f2
  subst f2
  exact fin_i hA (fun S3 h3 => hK S3 E _ _ (Or.inl rfl) h3 (by omega) (Or.inl ⟨rfl, by omega⟩))
theorem lb_4 (h : LH x1 x2 x3 x4 E m kc ks x5 S sc mc ms n) :
    ∀ x222 : Int32, x222 = x5 + (1 : Int32) →
    vp_in x222 sc.1 ∧
    ∀ x224 : Int32, x224 = sc.2 (Int32.toNatClampNeg x222) →
    ∀ x225 : Int32, x225 = x5 + (2 : Int32) →
    vp_in x225 sc.1 ∧
    ∀ x227 : Int32, x227 = sc.2 (Int32.toNatClampNeg x225) →
    ((x227 = 0 → wA_L_law_b524 mc ms kc ks x1 x2 x3 x4 x5 (0 : Int32) x224 x1 S (fun kc ks x1 x2 x3 x4 x5 S => wA_L_law_b28 mc ms  sc n kc ks x1 x2 x3 x4 x5 S) sc) ∧
    (¬ x227 = 0 → wA_L_law_b524 mc ms kc ks x1 x2 x3 x4 x5 (1 : Int32) x224 x1 S (fun kc ks x1 x2 x3 x4 x5 S => wA_L_law_b28 mc ms  sc n kc ks x1 x2 x3 x4 x5 S) sc)) := by
  obtain ⟨hW, hm, hmc, hms, hE, ⟨v1, v2, v3, v4⟩, hK⟩ := h
  unfold capE at hms hK
  intro y1 e1
  subst e1
  refine ⟨v1, ?_⟩
  intro z1 f1
  subst f1
  intro y2 e2
  subst e2
  refine ⟨v2, ?_⟩
  intro z2 f2
  subst f2
  refine ⟨fun c => ?_, fun c => ?_⟩
  · unfold wA_L_law_b524
    refine ⟨1, 6, by omega, by omega, L_rotate hW (Or.inl rfl) (fun r S1 hA => ?_)⟩
    intro y1 e1
    subst e1
    refine ⟨v1, ?_⟩
    intro z1 f1
    subst f1
    intro y2 e2
    subst e2
    refine ⟨v2, ?_⟩
    intro z2 f2
    subst f2
    refine ⟨fun _ => ?_, fun c2 => absurd c c2⟩
    unfold wA_L_law_b551
    exact fin_b hA (fun S3 h3 => hK S3 E _ _ (Or.inl rfl) h3 (by omega) (Or.inl ⟨rfl, by omega⟩))
  · unfold wA_L_law_b524
    refine ⟨1, 6, by omega, by omega, L_rotate hW (Or.inr rfl) (fun r S1 hA => ?_)⟩
    intro y1 e1
    subst e1
    refine ⟨v1, ?_⟩
    intro z1 f1
    subst f1
    intro y2 e2
    subst e2
    refine ⟨v2, ?_⟩
    intro z2 f2
    subst f2
    refine ⟨fun c2 => absurd c2 c, fun _ => ?_⟩
    unfold wA_L_law_b551
    exact fin_b hA (fun S3 h3 => hK S3 E _ _ (Or.inl rfl) h3 (by omega) (Or.inl ⟨rfl, by omega⟩))
theorem lb_5 (h : LH x1 x2 x3 x4 E m kc ks x5 S sc mc ms n) :
    ∀ x230 : Int32, x230 = x5 + (1 : Int32) →
    vp_in x230 sc.1 ∧
    ∀ x232 : Int32, x232 = sc.2 (Int32.toNatClampNeg x230) →
    ∃ c233 d234 : Nat, kc + c233 ≤ mc ∧ ks + d234 ≤ ms ∧
    wA_L_puddle c233 d234 x1 x232 x3 S (fun x236 S235 =>
    ∀ x237 : Int32, x237 = x5 + (1 : Int32) →
    vp_in x237 sc.1 ∧
    ∀ x239 : Int32, x239 = sc.2 (Int32.toNatClampNeg x237) →
    s_K S235 x2 = 10 ∧
    w_X8_puddle x2 x239 S235 (fun x241 S240 =>
    s_K S240 x2 = 10 ∧
    w_X8_thrown x2 S240 (fun x243 S242 =>
    ((x243 = x236 → ((¬ x236 = 0 → wA_L_law_b647 mc ms (kc + c233) (ks + d234) x1 x2 x3 x4 x5 S242 (fun kc ks x1 x2 x3 x4 x5 S => wA_L_law_b28 mc ms  sc n kc ks x1 x2 x3 x4 x5 S) sc) ∧
    (x236 = 0 → s_K S242 x3 = 14 ∧
    vp_in (0 : Int32) (s_N S242 x3) ∧
    ∀ j247 : Int64, j247 = s_G S242 x3 (Int32.toNatClampNeg (0 : Int32)) →
    ∀ j248 : Int64, j248 = Int32.toInt64 x241 →
    ∀ x249 : Int32, x249 = lg_cmp j247 j248 →
    ((x249 = 0 → wA_L_law_b647 mc ms (kc + c233) (ks + d234) x1 x2 x3 x4 x5 S242 (fun kc ks x1 x2 x3 x4 x5 S => wA_L_law_b28 mc ms  sc n kc ks x1 x2 x3 x4 x5 S) sc) ∧
    (¬ x249 = 0 → False))))) ∧
    (¬ x243 = x236 → False))))) := by
  obtain ⟨hW, hm, hmc, hms, hE, ⟨v1, v2, v3, v4⟩, hK⟩ := h
  unfold capE at hms hK
  intro y1 e1
  subst e1
  refine ⟨v1, ?_⟩
  intro z1 f1
  subst f1
  refine ⟨1, 6, by omega, by omega, L_puddle hW (fun r S1 hA => ?_)⟩
  intro y1 e1
  subst e1
  refine ⟨v1, ?_⟩
  intro z1 f1
  subst f1
  exact fin_i hA (fun S3 h3 => hK S3 E _ _ (Or.inl rfl) h3 (by omega) (Or.inl ⟨rfl, by omega⟩))
theorem lb_6 (h : LH x1 x2 x3 x4 E m kc ks x5 S sc mc ms n) :
    ∀ x252 : Int32, x252 = x5 + (1 : Int32) →
    vp_in x252 sc.1 ∧
    ∀ x254 : Int32, x254 = sc.2 (Int32.toNatClampNeg x252) →
    ∀ x255 : Int32, x255 = x5 + (2 : Int32) →
    vp_in x255 sc.1 ∧
    ∀ x257 : Int32, x257 = sc.2 (Int32.toNatClampNeg x255) →
    ∃ c258 d259 : Nat, kc + c258 ≤ mc ∧ ks + d259 ≤ ms ∧
    wA_L_plant c258 d259 x1 x254 x257 x3 S (fun x261 S260 =>
    ∀ x262 : Int32, x262 = x5 + (1 : Int32) →
    vp_in x262 sc.1 ∧
    ∀ x264 : Int32, x264 = sc.2 (Int32.toNatClampNeg x262) →
    ∀ x265 : Int32, x265 = x5 + (2 : Int32) →
    vp_in x265 sc.1 ∧
    ∀ x267 : Int32, x267 = sc.2 (Int32.toNatClampNeg x265) →
    s_K S260 x2 = 10 ∧
    w_X8_plant x2 x264 x267 S260 (fun x269 S268 =>
    s_K S268 x2 = 10 ∧
    w_X8_thrown x2 S268 (fun x271 S270 =>
    ((x271 = x261 → ((¬ x261 = 0 → wA_L_law_b715 mc ms (kc + c258) (ks + d259) x1 x2 x3 x4 x5 S270 (fun kc ks x1 x2 x3 x4 x5 S => wA_L_law_b28 mc ms  sc n kc ks x1 x2 x3 x4 x5 S) sc) ∧
    (x261 = 0 → s_K S270 x3 = 14 ∧
    vp_in (0 : Int32) (s_N S270 x3) ∧
    ∀ j275 : Int64, j275 = s_G S270 x3 (Int32.toNatClampNeg (0 : Int32)) →
    ∀ j276 : Int64, j276 = Int32.toInt64 x269 →
    ∀ x277 : Int32, x277 = lg_cmp j275 j276 →
    ((x277 = 0 → wA_L_law_b715 mc ms (kc + c258) (ks + d259) x1 x2 x3 x4 x5 S270 (fun kc ks x1 x2 x3 x4 x5 S => wA_L_law_b28 mc ms  sc n kc ks x1 x2 x3 x4 x5 S) sc) ∧
    (¬ x277 = 0 → False))))) ∧
    (¬ x271 = x261 → False))))) := by
  obtain ⟨hW, hm, hmc, hms, hE, ⟨v1, v2, v3, v4⟩, hK⟩ := h
  unfold capE at hms hK
  intro y1 e1
  subst e1
  refine ⟨v1, ?_⟩
  intro z1 f1
  subst f1
  intro y2 e2
  subst e2
  refine ⟨v2, ?_⟩
  intro z2 f2
  subst f2
  refine ⟨1, 6, by omega, by omega, L_plant hW (fun r S1 hA => ?_)⟩
  intro y1 e1
  subst e1
  refine ⟨v1, ?_⟩
  intro z1 f1
  subst f1
  intro y2 e2
  subst e2
  refine ⟨v2, ?_⟩
  intro z2 f2
  subst f2
  exact fin_i hA (fun S3 h3 => hK S3 E _ _ (Or.inl rfl) h3 (by omega) (Or.inl ⟨rfl, by omega⟩))
theorem lb_7 (h : LH x1 x2 x3 x4 E m kc ks x5 S sc mc ms n) :
    ∀ x280 : Int32, x280 = x5 + (1 : Int32) →
    vp_in x280 sc.1 ∧
    ∀ x282 : Int32, x282 = sc.2 (Int32.toNatClampNeg x280) →
    ∀ x283 : Int32, x283 = x5 + (2 : Int32) →
    vp_in x283 sc.1 ∧
    ∀ x285 : Int32, x285 = sc.2 (Int32.toNatClampNeg x283) →
    ∃ c286 d287 : Nat, kc + c286 ≤ mc ∧ ks + d287 ≤ ms ∧
    wA_L_help c286 d287 x1 x282 x285 x3 S (fun x289 S288 =>
    ∀ x290 : Int32, x290 = x5 + (1 : Int32) →
    vp_in x290 sc.1 ∧
    ∀ x292 : Int32, x292 = sc.2 (Int32.toNatClampNeg x290) →
    ∀ x293 : Int32, x293 = x5 + (2 : Int32) →
    vp_in x293 sc.1 ∧
    ∀ x295 : Int32, x295 = sc.2 (Int32.toNatClampNeg x293) →
    s_K S288 x2 = 10 ∧
    w_X8_help x2 x292 x295 S288 (fun x297 S296 =>
    s_K S296 x2 = 10 ∧
    w_X8_thrown x2 S296 (fun x299 S298 =>
    ((x299 = x289 → ((¬ x289 = 0 → wA_L_law_b783 mc ms (kc + c286) (ks + d287) x1 x2 x3 x4 x5 S298 (fun kc ks x1 x2 x3 x4 x5 S => wA_L_law_b28 mc ms  sc n kc ks x1 x2 x3 x4 x5 S) sc) ∧
    (x289 = 0 → s_K S298 x3 = 14 ∧
    vp_in (0 : Int32) (s_N S298 x3) ∧
    ∀ j303 : Int64, j303 = s_G S298 x3 (Int32.toNatClampNeg (0 : Int32)) →
    ∀ j304 : Int64, j304 = Int32.toInt64 x297 →
    ∀ x305 : Int32, x305 = lg_cmp j303 j304 →
    ((x305 = 0 → wA_L_law_b783 mc ms (kc + c286) (ks + d287) x1 x2 x3 x4 x5 S298 (fun kc ks x1 x2 x3 x4 x5 S => wA_L_law_b28 mc ms  sc n kc ks x1 x2 x3 x4 x5 S) sc) ∧
    (¬ x305 = 0 → False))))) ∧
    (¬ x299 = x289 → False))))) := by
  obtain ⟨hW, hm, hmc, hms, hE, ⟨v1, v2, v3, v4⟩, hK⟩ := h
  unfold capE at hms hK
  intro y1 e1
  subst e1
  refine ⟨v1, ?_⟩
  intro z1 f1
  subst f1
  intro y2 e2
  subst e2
  refine ⟨v2, ?_⟩
  intro z2 f2
  subst f2
  refine ⟨1, 6, by omega, by omega, L_help hW (fun r S1 hA => ?_)⟩
  intro y1 e1
  subst e1
  refine ⟨v1, ?_⟩
  intro z1 f1
  subst f1
  intro y2 e2
  subst e2
  refine ⟨v2, ?_⟩
  intro z2 f2
  subst f2
  exact fin_i hA (fun S3 h3 => hK S3 E _ _ (Or.inl rfl) h3 (by omega) (Or.inl ⟨rfl, by omega⟩))
theorem lb_8 (h : LH x1 x2 x3 x4 E m kc ks x5 S sc mc ms n) :
    ∀ x308 : Int32, x308 = x5 + (1 : Int32) →
    vp_in x308 sc.1 ∧
    ∀ x310 : Int32, x310 = sc.2 (Int32.toNatClampNeg x308) →
    ∀ x311 : Int32, x311 = x5 + (2 : Int32) →
    vp_in x311 sc.1 ∧
    ∀ x313 : Int32, x313 = sc.2 (Int32.toNatClampNeg x311) →
    ((x313 = 0 → wA_L_law_b807 mc ms kc ks x1 x2 x3 x4 x5 (0 : Int32) x310 x1 S (fun kc ks x1 x2 x3 x4 x5 S => wA_L_law_b28 mc ms  sc n kc ks x1 x2 x3 x4 x5 S) sc) ∧
    (¬ x313 = 0 → wA_L_law_b807 mc ms kc ks x1 x2 x3 x4 x5 (1 : Int32) x310 x1 S (fun kc ks x1 x2 x3 x4 x5 S => wA_L_law_b28 mc ms  sc n kc ks x1 x2 x3 x4 x5 S) sc)) := by
  obtain ⟨hW, hm, hmc, hms, hE, ⟨v1, v2, v3, v4⟩, hK⟩ := h
  unfold capE at hms hK
  intro y1 e1
  subst e1
  refine ⟨v1, ?_⟩
  intro z1 f1
  subst f1
  intro y2 e2
  subst e2
  refine ⟨v2, ?_⟩
  intro z2 f2
  subst f2
  refine ⟨fun c => ?_, fun c => ?_⟩
  · unfold wA_L_law_b807
    refine ⟨1, 6, by omega, by omega, L_ducks hW (Or.inl rfl) (fun r S1 hA => ?_)⟩
    intro y1 e1
    subst e1
    refine ⟨v1, ?_⟩
    intro z1 f1
    subst f1
    intro y2 e2
    subst e2
    refine ⟨v2, ?_⟩
    intro z2 f2
    subst f2
    refine ⟨fun _ => ?_, fun c2 => absurd c c2⟩
    unfold wA_L_law_b834
    exact fin_i hA (fun S3 h3 => hK S3 E _ _ (Or.inl rfl) h3 (by omega) (Or.inl ⟨rfl, by omega⟩))
  · unfold wA_L_law_b807
    refine ⟨1, 6, by omega, by omega, L_ducks hW (Or.inr rfl) (fun r S1 hA => ?_)⟩
    intro y1 e1
    subst e1
    refine ⟨v1, ?_⟩
    intro z1 f1
    subst f1
    intro y2 e2
    subst e2
    refine ⟨v2, ?_⟩
    intro z2 f2
    subst f2
    refine ⟨fun c2 => absurd c2 c, fun _ => ?_⟩
    unfold wA_L_law_b834
    exact fin_i hA (fun S3 h3 => hK S3 E _ _ (Or.inl rfl) h3 (by omega) (Or.inl ⟨rfl, by omega⟩))
theorem lb_9 (h : LH x1 x2 x3 x4 E m kc ks x5 S sc mc ms n) :
    ∀ x316 : Int32, x316 = x5 + (1 : Int32) →
    vp_in x316 sc.1 ∧
    ∀ x318 : Int32, x318 = sc.2 (Int32.toNatClampNeg x316) →
    ∀ x319 : Int32, x319 = x5 + (2 : Int32) →
    vp_in x319 sc.1 ∧
    ∀ x321 : Int32, x321 = sc.2 (Int32.toNatClampNeg x319) →
    ((x321 = 0 → wA_L_law_b891 mc ms kc ks x1 x2 x3 x4 x5 (0 : Int32) x318 x1 S (fun kc ks x1 x2 x3 x4 x5 S => wA_L_law_b28 mc ms  sc n kc ks x1 x2 x3 x4 x5 S) sc) ∧
    (¬ x321 = 0 → wA_L_law_b891 mc ms kc ks x1 x2 x3 x4 x5 (1 : Int32) x318 x1 S (fun kc ks x1 x2 x3 x4 x5 S => wA_L_law_b28 mc ms  sc n kc ks x1 x2 x3 x4 x5 S) sc)) := by
  obtain ⟨hW, hm, hmc, hms, hE, ⟨v1, v2, v3, v4⟩, hK⟩ := h
  unfold capE at hms hK
  intro y1 e1
  subst e1
  refine ⟨v1, ?_⟩
  intro z1 f1
  subst f1
  intro y2 e2
  subst e2
  refine ⟨v2, ?_⟩
  intro z2 f2
  subst f2
  refine ⟨fun c => ?_, fun c => ?_⟩
  · unfold wA_L_law_b891
    refine ⟨1, 6, by omega, by omega, L_harvest hW (Or.inl rfl) (fun r S1 hA => ?_)⟩
    intro y1 e1
    subst e1
    refine ⟨v1, ?_⟩
    intro z1 f1
    subst f1
    intro y2 e2
    subst e2
    refine ⟨v2, ?_⟩
    intro z2 f2
    subst f2
    refine ⟨fun _ => ?_, fun c2 => absurd c c2⟩
    unfold wA_L_law_b918
    exact fin_i hA (fun S3 h3 => hK S3 E _ _ (Or.inl rfl) h3 (by omega) (Or.inl ⟨rfl, by omega⟩))
  · unfold wA_L_law_b891
    refine ⟨1, 6, by omega, by omega, L_harvest hW (Or.inr rfl) (fun r S1 hA => ?_)⟩
    intro y1 e1
    subst e1
    refine ⟨v1, ?_⟩
    intro z1 f1
    subst f1
    intro y2 e2
    subst e2
    refine ⟨v2, ?_⟩
    intro z2 f2
    subst f2
    refine ⟨fun c2 => absurd c2 c, fun _ => ?_⟩
    unfold wA_L_law_b918
    exact fin_i hA (fun S3 h3 => hK S3 E _ _ (Or.inl rfl) h3 (by omega) (Or.inl ⟨rfl, by omega⟩))
theorem lb_10 (h : LH x1 x2 x3 x4 E m kc ks x5 S sc mc ms n) :
    ∀ x324 : Int32, x324 = x5 + (1 : Int32) →
    vp_in x324 sc.1 ∧
    ∀ x326 : Int32, x326 = sc.2 (Int32.toNatClampNeg x324) →
    ∃ c327 d328 : Nat, kc + c327 ≤ mc ∧ ks + d328 ≤ ms ∧
    wA_L_cut c327 d328 x1 x326 x3 S (fun x330 S329 =>
    ∀ x331 : Int32, x331 = x5 + (1 : Int32) →
    vp_in x331 sc.1 ∧
    ∀ x333 : Int32, x333 = sc.2 (Int32.toNatClampNeg x331) →
    s_K S329 x2 = 10 ∧
    w_X8_cut x2 x333 S329 (fun x335 S334 =>
    s_K S334 x2 = 10 ∧
    w_X8_thrown x2 S334 (fun x337 S336 =>
    ((x337 = x330 → ((¬ x330 = 0 → wA_L_law_b1007 mc ms (kc + c327) (ks + d328) x1 x2 x3 x4 x5 S336 (fun kc ks x1 x2 x3 x4 x5 S => wA_L_law_b28 mc ms  sc n kc ks x1 x2 x3 x4 x5 S) sc) ∧
    (x330 = 0 → s_K S336 x3 = 14 ∧
    vp_in (0 : Int32) (s_N S336 x3) ∧
    ∀ j341 : Int64, j341 = s_G S336 x3 (Int32.toNatClampNeg (0 : Int32)) →
    ∀ j342 : Int64, j342 = Int32.toInt64 x335 →
    ∀ x343 : Int32, x343 = lg_cmp j341 j342 →
    ((x343 = 0 → wA_L_law_b1007 mc ms (kc + c327) (ks + d328) x1 x2 x3 x4 x5 S336 (fun kc ks x1 x2 x3 x4 x5 S => wA_L_law_b28 mc ms  sc n kc ks x1 x2 x3 x4 x5 S) sc) ∧
    (¬ x343 = 0 → False))))) ∧
    (¬ x337 = x330 → False))))) := by
  obtain ⟨hW, hm, hmc, hms, hE, ⟨v1, v2, v3, v4⟩, hK⟩ := h
  unfold capE at hms hK
  intro y1 e1
  subst e1
  refine ⟨v1, ?_⟩
  intro z1 f1
  subst f1
  refine ⟨1, 6, by omega, by omega, L_cut hW (by omega) (fun r S1 hA => ?_)⟩
  intro y1 e1
  subst e1
  refine ⟨v1, ?_⟩
  intro z1 f1
  subst f1
  exact fin_i hA (fun S3 h3 => hK S3 E _ _ (Or.inl rfl) h3 (by omega) (Or.inl ⟨rfl, by omega⟩))
theorem lb_11 (h : LH x1 x2 x3 x4 E m kc ks x5 S sc mc ms n) :
    ∀ x346 : Int32, x346 = x5 + (1 : Int32) →
    vp_in x346 sc.1 ∧
    ∀ x348 : Int32, x348 = sc.2 (Int32.toNatClampNeg x346) →
    ∀ x349 : Int32, x349 = x5 + (2 : Int32) →
    vp_in x349 sc.1 ∧
    ∀ x351 : Int32, x351 = sc.2 (Int32.toNatClampNeg x349) →
    ∀ x352 : Int32, x352 = x5 + (3 : Int32) →
    vp_in x352 sc.1 ∧
    ∀ x354 : Int32, x354 = sc.2 (Int32.toNatClampNeg x352) →
    ∃ c355 d356 : Nat, kc + c355 ≤ mc ∧ ks + d356 ≤ ms ∧
    wA_L_day c355 d356 x1 x348 x351 x354 x3 S (fun x358 S357 =>
    ∀ x359 : Int32, x359 = x5 + (1 : Int32) →
    vp_in x359 sc.1 ∧
    ∀ x361 : Int32, x361 = sc.2 (Int32.toNatClampNeg x359) →
    ∀ x362 : Int32, x362 = x5 + (2 : Int32) →
    vp_in x362 sc.1 ∧
    ∀ x364 : Int32, x364 = sc.2 (Int32.toNatClampNeg x362) →
    ∀ x365 : Int32, x365 = x5 + (3 : Int32) →
    vp_in x365 sc.1 ∧
    ∀ x367 : Int32, x367 = sc.2 (Int32.toNatClampNeg x365) →
    s_K S357 x2 = 10 ∧
    w_X8_day x2 x361 x364 x367 S357 (fun x369 S368 =>
    s_K S368 x2 = 10 ∧
    w_X8_thrown x2 S368 (fun x371 S370 =>
    ((x371 = x358 → ((¬ x358 = 0 → wA_L_law_b1087 mc ms (kc + c355) (ks + d356) x1 x2 x3 x4 x5 S370 (fun kc ks x1 x2 x3 x4 x5 S => wA_L_law_b28 mc ms  sc n kc ks x1 x2 x3 x4 x5 S) sc) ∧
    (x358 = 0 → s_K S370 x3 = 14 ∧
    vp_in (0 : Int32) (s_N S370 x3) ∧
    ∀ j375 : Int64, j375 = s_G S370 x3 (Int32.toNatClampNeg (0 : Int32)) →
    ∀ j376 : Int64, j376 = Int32.toInt64 x369 →
    ∀ x377 : Int32, x377 = lg_cmp j375 j376 →
    ((x377 = 0 → wA_L_law_b1087 mc ms (kc + c355) (ks + d356) x1 x2 x3 x4 x5 S370 (fun kc ks x1 x2 x3 x4 x5 S => wA_L_law_b28 mc ms  sc n kc ks x1 x2 x3 x4 x5 S) sc) ∧
    (¬ x377 = 0 → False))))) ∧
    (¬ x371 = x358 → False))))) := by
  obtain ⟨hW, hm, hmc, hms, hE, ⟨v1, v2, v3, v4⟩, hK⟩ := h
  unfold capE at hms hK
  intro y1 e1
  subst e1
  refine ⟨v1, ?_⟩
  intro z1 f1
  subst f1
  intro y2 e2
  subst e2
  refine ⟨v2, ?_⟩
  intro z2 f2
  subst f2
  intro y3 e3
  subst e3
  refine ⟨v3, ?_⟩
  intro z3 f3
  subst f3
  refine ⟨1, 6, by omega, by omega, L_day hW (by omega) (fun r S1 hA => ?_)⟩
  intro y1 e1
  subst e1
  refine ⟨v1, ?_⟩
  intro z1 f1
  subst f1
  intro y2 e2
  subst e2
  refine ⟨v2, ?_⟩
  intro z2 f2
  subst f2
  intro y3 e3
  subst e3
  refine ⟨v3, ?_⟩
  intro z3 f3
  subst f3
  exact fin_i hA (fun S3 h3 => hK S3 E _ _ (Or.inl rfl) h3 (by omega) (Or.inl ⟨rfl, by omega⟩))
theorem lb_12 (h : LH x1 x2 x3 x4 E m kc ks x5 S sc mc ms n) :
    ∀ x380 : Int32, x380 = x5 + (1 : Int32) →
    vp_in x380 sc.1 ∧
    ∀ x382 : Int32, x382 = sc.2 (Int32.toNatClampNeg x380) →
    ∃ c383 d384 : Nat, kc + c383 ≤ mc ∧ ks + d384 ≤ ms ∧
    wA_L_inspect c383 d384 x1 x382 x3 S (fun x386 S385 =>
    ∀ x387 : Int32, x387 = x5 + (1 : Int32) →
    vp_in x387 sc.1 ∧
    ∀ x389 : Int32, x389 = sc.2 (Int32.toNatClampNeg x387) →
    s_K S385 x2 = 10 ∧
    w_X8_inspect x2 x389 S385 (fun x391 S390 =>
    s_K S390 x2 = 10 ∧
    w_X8_thrown x2 S390 (fun x393 S392 =>
    ((x393 = x386 → ((¬ x386 = 0 → wA_L_law_b1143 mc ms (kc + c383) (ks + d384) x1 x2 x3 x4 x5 S392 (fun kc ks x1 x2 x3 x4 x5 S => wA_L_law_b28 mc ms  sc n kc ks x1 x2 x3 x4 x5 S) sc) ∧
    (x386 = 0 → s_K S392 x3 = 14 ∧
    vp_in (0 : Int32) (s_N S392 x3) ∧
    ∀ j397 : Int64, j397 = s_G S392 x3 (Int32.toNatClampNeg (0 : Int32)) →
    ∀ j398 : Int64, j398 = Int32.toInt64 x391 →
    ∀ x399 : Int32, x399 = lg_cmp j397 j398 →
    ((x399 = 0 → wA_L_law_b1143 mc ms (kc + c383) (ks + d384) x1 x2 x3 x4 x5 S392 (fun kc ks x1 x2 x3 x4 x5 S => wA_L_law_b28 mc ms  sc n kc ks x1 x2 x3 x4 x5 S) sc) ∧
    (¬ x399 = 0 → False))))) ∧
    (¬ x393 = x386 → False))))) := by
  obtain ⟨hW, hm, hmc, hms, hE, ⟨v1, v2, v3, v4⟩, hK⟩ := h
  unfold capE at hms hK
  intro y1 e1
  subst e1
  refine ⟨v1, ?_⟩
  intro z1 f1
  subst f1
  refine ⟨1, 6, by omega, by omega, L_inspect hW (fun r S1 hA => ?_)⟩
  intro y1 e1
  subst e1
  refine ⟨v1, ?_⟩
  intro z1 f1
  subst f1
  exact fin_i hA (fun S3 h3 => hK S3 E _ _ (Or.inl rfl) h3 (by omega) (Or.inl ⟨rfl, by omega⟩))
theorem lb_13 (h : LH x1 x2 x3 x4 E m kc ks x5 S sc mc ms n) :
    ∀ x402 : Int32, x402 = x5 + (1 : Int32) →
    vp_in x402 sc.1 ∧
    ∀ x404 : Int32, x404 = sc.2 (Int32.toNatClampNeg x402) →
    ∀ x405 : Int32, x405 = x5 + (2 : Int32) →
    vp_in x405 sc.1 ∧
    ∀ x407 : Int32, x407 = sc.2 (Int32.toNatClampNeg x405) →
    ∃ c408 d409 : Nat, kc + c408 ≤ mc ∧ ks + d409 ≤ ms ∧
    wA_L_sell c408 d409 x1 x404 x407 x3 S (fun x411 S410 =>
    ∀ x412 : Int32, x412 = x5 + (1 : Int32) →
    vp_in x412 sc.1 ∧
    ∀ x414 : Int32, x414 = sc.2 (Int32.toNatClampNeg x412) →
    ∀ x415 : Int32, x415 = x5 + (2 : Int32) →
    vp_in x415 sc.1 ∧
    ∀ x417 : Int32, x417 = sc.2 (Int32.toNatClampNeg x415) →
    s_K S410 x2 = 10 ∧
    w_X8_sell x2 x414 x417 S410 (fun x419 S418 =>
    s_K S418 x2 = 10 ∧
    w_X8_thrown x2 S418 (fun x421 S420 =>
    ((x421 = x411 → ((¬ x411 = 0 → wA_L_law_b1211 mc ms (kc + c408) (ks + d409) x1 x2 x3 x4 x5 S420 (fun kc ks x1 x2 x3 x4 x5 S => wA_L_law_b28 mc ms  sc n kc ks x1 x2 x3 x4 x5 S) sc) ∧
    (x411 = 0 → s_K S420 x3 = 14 ∧
    vp_in (0 : Int32) (s_N S420 x3) ∧
    ∀ j425 : Int64, j425 = s_G S420 x3 (Int32.toNatClampNeg (0 : Int32)) →
    ∀ j426 : Int64, j426 = Int32.toInt64 x419 →
    ∀ x427 : Int32, x427 = lg_cmp j425 j426 →
    ((x427 = 0 → wA_L_law_b1211 mc ms (kc + c408) (ks + d409) x1 x2 x3 x4 x5 S420 (fun kc ks x1 x2 x3 x4 x5 S => wA_L_law_b28 mc ms  sc n kc ks x1 x2 x3 x4 x5 S) sc) ∧
    (¬ x427 = 0 → False))))) ∧
    (¬ x421 = x411 → False))))) := by
  obtain ⟨hW, hm, hmc, hms, hE, ⟨v1, v2, v3, v4⟩, hK⟩ := h
  unfold capE at hms hK
  intro y1 e1
  subst e1
  refine ⟨v1, ?_⟩
  intro z1 f1
  subst f1
  intro y2 e2
  subst e2
  refine ⟨v2, ?_⟩
  intro z2 f2
  subst f2
  refine ⟨1, 6, by omega, by omega, L_sell hW (fun r S1 hA => ?_)⟩
  intro y1 e1
  subst e1
  refine ⟨v1, ?_⟩
  intro z1 f1
  subst f1
  intro y2 e2
  subst e2
  refine ⟨v2, ?_⟩
  intro z2 f2
  subst f2
  exact fin_i hA (fun S3 h3 => hK S3 E _ _ (Or.inl rfl) h3 (by omega) (Or.inl ⟨rfl, by omega⟩))
theorem lb_14 (h : LH x1 x2 x3 x4 E m kc ks x5 S sc mc ms n) :
    ∀ x430 : Int32, x430 = x5 + (1 : Int32) →
    vp_in x430 sc.1 ∧
    ∀ x432 : Int32, x432 = sc.2 (Int32.toNatClampNeg x430) →
    ∃ c433 d434 : Nat, kc + c433 ≤ mc ∧ ks + d434 ≤ ms ∧
    wA_L_vote c433 d434 x1 x432 x3 S (fun x436 S435 =>
    ∀ x437 : Int32, x437 = x5 + (1 : Int32) →
    vp_in x437 sc.1 ∧
    ∀ x439 : Int32, x439 = sc.2 (Int32.toNatClampNeg x437) →
    s_K S435 x2 = 10 ∧
    w_X8_vote x2 x439 S435 (fun x441 S440 =>
    s_K S440 x2 = 10 ∧
    w_X8_thrown x2 S440 (fun x443 S442 =>
    ((x443 = x436 → ((¬ x436 = 0 → wA_L_law_b1267 mc ms (kc + c433) (ks + d434) x1 x2 x3 x4 x5 S442 (fun kc ks x1 x2 x3 x4 x5 S => wA_L_law_b28 mc ms  sc n kc ks x1 x2 x3 x4 x5 S) sc) ∧
    (x436 = 0 → s_K S442 x3 = 14 ∧
    vp_in (0 : Int32) (s_N S442 x3) ∧
    ∀ j447 : Int64, j447 = s_G S442 x3 (Int32.toNatClampNeg (0 : Int32)) →
    ∀ j448 : Int64, j448 = Int32.toInt64 x441 →
    ∀ x449 : Int32, x449 = lg_cmp j447 j448 →
    ((x449 = 0 → wA_L_law_b1267 mc ms (kc + c433) (ks + d434) x1 x2 x3 x4 x5 S442 (fun kc ks x1 x2 x3 x4 x5 S => wA_L_law_b28 mc ms  sc n kc ks x1 x2 x3 x4 x5 S) sc) ∧
    (¬ x449 = 0 → False))))) ∧
    (¬ x443 = x436 → False))))) := by
  obtain ⟨hW, hm, hmc, hms, hE, ⟨v1, v2, v3, v4⟩, hK⟩ := h
  unfold capE at hms hK
  intro y1 e1
  subst e1
  refine ⟨v1, ?_⟩
  intro z1 f1
  subst f1
  refine ⟨1, 6, by omega, by omega, L_vote hW (fun r S1 hA => ?_)⟩
  intro y1 e1
  subst e1
  refine ⟨v1, ?_⟩
  intro z1 f1
  subst f1
  exact fin_i hA (fun S3 h3 => hK S3 E _ _ (Or.inl rfl) h3 (by omega) (Or.inl ⟨rfl, by omega⟩))
theorem lb_15 (h : LH x1 x2 x3 x4 E m kc ks x5 S sc mc ms n) :
    ∀ x452 : Int32, x452 = x5 + (1 : Int32) →
    vp_in x452 sc.1 ∧
    ∀ x454 : Int32, x454 = sc.2 (Int32.toNatClampNeg x452) →
    ∀ x455 : Int32, x455 = x5 + (2 : Int32) →
    vp_in x455 sc.1 ∧
    ∀ x457 : Int32, x457 = sc.2 (Int32.toNatClampNeg x455) →
    ∃ c458 d459 : Nat, kc + c458 ≤ mc ∧ ks + d459 ≤ ms ∧
    wA_L_ofField c458 d459 x1 x454 x457 x3 S (fun x461 S460 =>
    ∀ x462 : Int32, x462 = x5 + (1 : Int32) →
    vp_in x462 sc.1 ∧
    ∀ x464 : Int32, x464 = sc.2 (Int32.toNatClampNeg x462) →
    ∀ x465 : Int32, x465 = x5 + (2 : Int32) →
    vp_in x465 sc.1 ∧
    ∀ x467 : Int32, x467 = sc.2 (Int32.toNatClampNeg x465) →
    s_K S460 x2 = 10 ∧
    w_X8_ofField x2 x464 x467 S460 (fun x469 S468 =>
    s_K S468 x2 = 10 ∧
    w_X8_thrown x2 S468 (fun x471 S470 =>
    ((x471 = x461 → ((¬ x461 = 0 → wA_L_law_b1335 mc ms (kc + c458) (ks + d459) x1 x2 x3 x4 x5 S470 (fun kc ks x1 x2 x3 x4 x5 S => wA_L_law_b28 mc ms  sc n kc ks x1 x2 x3 x4 x5 S) sc) ∧
    (x461 = 0 → s_K S470 x3 = 14 ∧
    vp_in (0 : Int32) (s_N S470 x3) ∧
    ∀ j475 : Int64, j475 = s_G S470 x3 (Int32.toNatClampNeg (0 : Int32)) →
    ∀ j476 : Int64, j476 = Int32.toInt64 x469 →
    ∀ x477 : Int32, x477 = lg_cmp j475 j476 →
    ((x477 = 0 → wA_L_law_b1335 mc ms (kc + c458) (ks + d459) x1 x2 x3 x4 x5 S470 (fun kc ks x1 x2 x3 x4 x5 S => wA_L_law_b28 mc ms  sc n kc ks x1 x2 x3 x4 x5 S) sc) ∧
    (¬ x477 = 0 → False))))) ∧
    (¬ x471 = x461 → False))))) := by
  obtain ⟨hW, hm, hmc, hms, hE, ⟨v1, v2, v3, v4⟩, hK⟩ := h
  unfold capE at hms hK
  intro y1 e1
  subst e1
  refine ⟨v1, ?_⟩
  intro z1 f1
  subst f1
  intro y2 e2
  subst e2
  refine ⟨v2, ?_⟩
  intro z2 f2
  subst f2
  refine ⟨1, 6, by omega, by omega, L_ofField hW (fun r S1 hA => ?_)⟩
  intro y1 e1
  subst e1
  refine ⟨v1, ?_⟩
  intro z1 f1
  subst f1
  intro y2 e2
  subst e2
  refine ⟨v2, ?_⟩
  intro z2 f2
  subst f2
  exact fin_i hA (fun S3 h3 => hK S3 E _ _ (Or.inl rfl) h3 (by omega) (Or.inl ⟨rfl, by omega⟩))
theorem lb_16 (h : LH x1 x2 x3 x4 E m kc ks x5 S sc mc ms n) :
    ∀ x480 : Int32, x480 = x5 + (1 : Int32) →
    vp_in x480 sc.1 ∧
    ∀ x482 : Int32, x482 = sc.2 (Int32.toNatClampNeg x480) →
    ∀ x483 : Int32, x483 = x5 + (2 : Int32) →
    vp_in x483 sc.1 ∧
    ∀ x485 : Int32, x485 = sc.2 (Int32.toNatClampNeg x483) →
    ∃ c486 d487 : Nat, kc + c486 ≤ mc ∧ ks + d487 ≤ ms ∧
    wA_L_ofOwner c486 d487 x1 x482 x485 x3 S (fun x489 S488 =>
    ∀ x490 : Int32, x490 = x5 + (1 : Int32) →
    vp_in x490 sc.1 ∧
    ∀ x492 : Int32, x492 = sc.2 (Int32.toNatClampNeg x490) →
    ∀ x493 : Int32, x493 = x5 + (2 : Int32) →
    vp_in x493 sc.1 ∧
    ∀ x495 : Int32, x495 = sc.2 (Int32.toNatClampNeg x493) →
    s_K S488 x2 = 10 ∧
    ∃ c496 d497 : Nat, (kc + c486) + c496 ≤ mc ∧ (ks + d487) + d497 ≤ ms ∧
    wA_X8_ofOwner c496 d497 x2 x492 x495 S488 (fun x499 S498 =>
    s_K S498 x2 = 10 ∧
    w_X8_thrown x2 S498 (fun x501 S500 =>
    ((x501 = x489 → ((¬ x489 = 0 → wA_L_law_b1403 mc ms ((kc + c486) + c496) ((ks + d487) + d497) x1 x2 x3 x4 x5 S500 (fun kc ks x1 x2 x3 x4 x5 S => wA_L_law_b28 mc ms  sc n kc ks x1 x2 x3 x4 x5 S) sc) ∧
    (x489 = 0 → s_K S500 x3 = 14 ∧
    vp_in (0 : Int32) (s_N S500 x3) ∧
    ∀ j505 : Int64, j505 = s_G S500 x3 (Int32.toNatClampNeg (0 : Int32)) →
    ∀ j506 : Int64, j506 = Int32.toInt64 x499 →
    ∀ x507 : Int32, x507 = lg_cmp j505 j506 →
    ((x507 = 0 → wA_L_law_b1403 mc ms ((kc + c486) + c496) ((ks + d487) + d497) x1 x2 x3 x4 x5 S500 (fun kc ks x1 x2 x3 x4 x5 S => wA_L_law_b28 mc ms  sc n kc ks x1 x2 x3 x4 x5 S) sc) ∧
    (¬ x507 = 0 → False))))) ∧
    (¬ x501 = x489 → False))))) := by
  obtain ⟨hW, hm, hmc, hms, hE, ⟨v1, v2, v3, v4⟩, hK⟩ := h
  unfold capE at hms hK
  intro y1 e1
  subst e1
  refine ⟨v1, ?_⟩
  intro z1 f1
  subst f1
  intro y2 e2
  subst e2
  refine ⟨v2, ?_⟩
  intro z2 f2
  subst f2
  refine ⟨1, 6, by omega, by omega, L_ofOwner hW (fun r S1 hA => ?_)⟩
  intro y1 e1
  subst e1
  refine ⟨v1, ?_⟩
  intro z1 f1
  subst f1
  intro y2 e2
  subst e2
  refine ⟨v2, ?_⟩
  intro z2 f2
  subst f2
  refine ⟨hA.1, 1, 4, by omega, by omega, ?_⟩
  exact (fin_i hA (fun S3 h3 => hK S3 E _ _ (Or.inl rfl) h3 (by omega) (Or.inl ⟨rfl, by omega⟩))).2
theorem lb_17 (h : LH x1 x2 x3 x4 E m kc ks x5 S sc mc ms n) :
    ∀ x510 : Int32, x510 = x5 + (1 : Int32) →
    vp_in x510 sc.1 ∧
    ∀ x512 : Int32, x512 = sc.2 (Int32.toNatClampNeg x510) →
    ∀ x513 : Int32, x513 = x5 + (2 : Int32) →
    vp_in x513 sc.1 ∧
    ∀ x515 : Int32, x515 = sc.2 (Int32.toNatClampNeg x513) →
    ∃ c516 d517 : Nat, kc + c516 ≤ mc ∧ ks + d517 ≤ ms ∧
    wA_L_ofSociety c516 d517 x1 x512 x515 x3 S (fun x519 S518 =>
    ∀ x520 : Int32, x520 = x5 + (1 : Int32) →
    vp_in x520 sc.1 ∧
    ∀ x522 : Int32, x522 = sc.2 (Int32.toNatClampNeg x520) →
    ∀ x523 : Int32, x523 = x5 + (2 : Int32) →
    vp_in x523 sc.1 ∧
    ∀ x525 : Int32, x525 = sc.2 (Int32.toNatClampNeg x523) →
    s_K S518 x2 = 10 ∧
    ∃ c526 d527 : Nat, (kc + c516) + c526 ≤ mc ∧ (ks + d517) + d527 ≤ ms ∧
    wA_X8_ofSociety c526 d527 x2 x522 x525 S518 (fun x529 S528 =>
    s_K S528 x2 = 10 ∧
    w_X8_thrown x2 S528 (fun x531 S530 =>
    ((x531 = x519 → ((¬ x519 = 0 → wA_L_law_b1471 mc ms ((kc + c516) + c526) ((ks + d517) + d527) x1 x2 x3 x4 x5 S530 (fun kc ks x1 x2 x3 x4 x5 S => wA_L_law_b28 mc ms  sc n kc ks x1 x2 x3 x4 x5 S) sc) ∧
    (x519 = 0 → s_K S530 x3 = 14 ∧
    vp_in (0 : Int32) (s_N S530 x3) ∧
    ∀ j535 : Int64, j535 = s_G S530 x3 (Int32.toNatClampNeg (0 : Int32)) →
    ∀ j536 : Int64, j536 = Int32.toInt64 x529 →
    ∀ x537 : Int32, x537 = lg_cmp j535 j536 →
    ((x537 = 0 → wA_L_law_b1471 mc ms ((kc + c516) + c526) ((ks + d517) + d527) x1 x2 x3 x4 x5 S530 (fun kc ks x1 x2 x3 x4 x5 S => wA_L_law_b28 mc ms  sc n kc ks x1 x2 x3 x4 x5 S) sc) ∧
    (¬ x537 = 0 → False))))) ∧
    (¬ x531 = x519 → False))))) := by
  obtain ⟨hW, hm, hmc, hms, hE, ⟨v1, v2, v3, v4⟩, hK⟩ := h
  unfold capE at hms hK
  intro y1 e1
  subst e1
  refine ⟨v1, ?_⟩
  intro z1 f1
  subst f1
  intro y2 e2
  subst e2
  refine ⟨v2, ?_⟩
  intro z2 f2
  subst f2
  refine ⟨1, 6, by omega, by omega, L_ofSociety hW (fun r S1 hA => ?_)⟩
  intro y1 e1
  subst e1
  refine ⟨v1, ?_⟩
  intro z1 f1
  subst f1
  intro y2 e2
  subst e2
  refine ⟨v2, ?_⟩
  intro z2 f2
  subst f2
  refine ⟨hA.1, 1, 9, by omega, by omega, ?_⟩
  exact (fin_i hA (fun S3 h3 => hK S3 E _ _ (Or.inl rfl) h3 (by omega) (Or.inl ⟨rfl, by omega⟩))).2
theorem lb_18 (h : LH x1 x2 x3 x4 E m kc ks x5 S sc mc ms n) :
    ∀ x540 : Int32, x540 = x5 + (1 : Int32) →
    vp_in x540 sc.1 ∧
    ∀ x542 : Int32, x542 = sc.2 (Int32.toNatClampNeg x540) →
    ∃ c543 d544 : Nat, kc + c543 ≤ mc ∧ ks + d544 ≤ ms ∧
    wA_L_water c543 d544 x1 x542 x3 S (fun x546 S545 =>
    ∀ x547 : Int32, x547 = x5 + (1 : Int32) →
    vp_in x547 sc.1 ∧
    ∀ x549 : Int32, x549 = sc.2 (Int32.toNatClampNeg x547) →
    s_K S545 x2 = 10 ∧
    ∃ c550 d551 : Nat, (kc + c543) + c550 ≤ mc ∧ (ks + d544) + d551 ≤ ms ∧
    wA_X8_water c550 d551 x2 x549 S545 (fun x553 S552 =>
    s_K S552 x2 = 10 ∧
    w_X8_thrown x2 S552 (fun x555 S554 =>
    ((x555 = x546 → ((¬ x546 = 0 → wA_L_law_b1527 mc ms ((kc + c543) + c550) ((ks + d544) + d551) x1 x2 x3 x4 x5 S554 (fun kc ks x1 x2 x3 x4 x5 S => wA_L_law_b28 mc ms  sc n kc ks x1 x2 x3 x4 x5 S) sc) ∧
    (x546 = 0 → s_K S554 x3 = 14 ∧
    vp_in (0 : Int32) (s_N S554 x3) ∧
    ∀ j559 : Int64, j559 = s_G S554 x3 (Int32.toNatClampNeg (0 : Int32)) →
    ∀ j560 : Int64, j560 = Int32.toInt64 x553 →
    ∀ x561 : Int32, x561 = lg_cmp j559 j560 →
    ((x561 = 0 → wA_L_law_b1527 mc ms ((kc + c543) + c550) ((ks + d544) + d551) x1 x2 x3 x4 x5 S554 (fun kc ks x1 x2 x3 x4 x5 S => wA_L_law_b28 mc ms  sc n kc ks x1 x2 x3 x4 x5 S) sc) ∧
    (¬ x561 = 0 → False))))) ∧
    (¬ x555 = x546 → False))))) := by
  obtain ⟨hW, hm, hmc, hms, hE, ⟨v1, v2, v3, v4⟩, hK⟩ := h
  unfold capE at hms hK
  intro y1 e1
  subst e1
  refine ⟨v1, ?_⟩
  intro z1 f1
  subst f1
  refine ⟨1, 6, by omega, by omega, L_water hW (fun r S1 hA => ?_)⟩
  intro y1 e1
  subst e1
  refine ⟨v1, ?_⟩
  intro z1 f1
  subst f1
  refine ⟨hA.1, 1, 7, by omega, by omega, ?_⟩
  exact (fin_i hA (fun S3 h3 => hK S3 E _ _ (Or.inl rfl) h3 (by omega) (Or.inl ⟨rfl, by omega⟩))).2
theorem lb_19 (h : LH x1 x2 x3 x4 E m kc ks x5 S sc mc ms n) :
    s_K S x1 = 8 ∧
    w_X6_isClosed x1 S (fun x565 S564 =>
    s_K S564 x2 = 10 ∧
    ∃ c566 d567 : Nat, kc + c566 ≤ mc ∧ ks + d567 ≤ ms ∧
    wA_X8_isClosed c566 d567 x2 S564 (fun x569 S568 =>
    ((x565 = x569 → wA_L_law_b2022 mc ms (kc + c566) (ks + d567) x1 x2 x3 x4 x5 S568 (fun kc ks x1 x2 x3 x4 x5 S => wA_L_law_b28 mc ms  sc n kc ks x1 x2 x3 x4 x5 S) sc) ∧
    (¬ x565 = x569 → False)))) := by
  obtain ⟨hW, hm, hmc, hms, hE, ⟨v1, v2, v3, v4⟩, hK⟩ := h
  unfold capE at hms hK
  exact L_isClosed hW (by omega) (by omega) (fun S3 h3 => hK S3 E _ _ (Or.inl rfl) h3 (by omega) (Or.inl ⟨rfl, by omega⟩))
theorem lb_20 (h : LH x1 x2 x3 x4 E m kc ks x5 S sc mc ms n) :
    ∀ x572 : Int32, x572 = x5 + (1 : Int32) →
    vp_in x572 sc.1 ∧
    ∀ x574 : Int32, x574 = sc.2 (Int32.toNatClampNeg x572) →
    ∀ x575 : Int32, x575 = x5 + (2 : Int32) →
    vp_in x575 sc.1 ∧
    ∀ x577 : Int32, x577 = sc.2 (Int32.toNatClampNeg x575) →
    ((x577 = 0 → wA_L_law_b1564 mc ms kc ks x1 x2 x3 x4 x5 (0 : Int32) x574 x1 S (fun kc ks x1 x2 x3 x4 x5 S => wA_L_law_b28 mc ms  sc n kc ks x1 x2 x3 x4 x5 S) sc) ∧
    (¬ x577 = 0 → wA_L_law_b1564 mc ms kc ks x1 x2 x3 x4 x5 (1 : Int32) x574 x1 S (fun kc ks x1 x2 x3 x4 x5 S => wA_L_law_b28 mc ms  sc n kc ks x1 x2 x3 x4 x5 S) sc)) := by
  obtain ⟨hW, hm, hmc, hms, hE, ⟨v1, v2, v3, v4⟩, hK⟩ := h
  unfold capE at hms hK
  intro y1 e1
  subst e1
  refine ⟨v1, ?_⟩
  intro z1 f1
  subst f1
  intro y2 e2
  subst e2
  refine ⟨v2, ?_⟩
  intro z2 f2
  subst f2
  refine ⟨fun c => ?_, fun c => ?_⟩
  · unfold wA_L_law_b1564
    refine ⟨1, 6, by omega, by omega, L_thought hW (fun r S1 hA => ?_)⟩
    intro y1 e1
    subst e1
    refine ⟨v1, ?_⟩
    intro z1 f1
    subst f1
    intro y2 e2
    subst e2
    refine ⟨v2, ?_⟩
    intro z2 f2
    subst f2
    refine ⟨fun _ => ?_, fun c2 => absurd c c2⟩
    unfold wA_L_law_b1591
    exact fin_i hA (fun S3 h3 => hK S3 E _ _ (Or.inl rfl) h3 (by omega) (Or.inl ⟨rfl, by omega⟩))
  · unfold wA_L_law_b1564
    refine ⟨1, 6, by omega, by omega, L_thought hW (fun r S1 hA => ?_)⟩
    intro y1 e1
    subst e1
    refine ⟨v1, ?_⟩
    intro z1 f1
    subst f1
    intro y2 e2
    subst e2
    refine ⟨v2, ?_⟩
    intro z2 f2
    subst f2
    refine ⟨fun c2 => absurd c2 c, fun _ => ?_⟩
    unfold wA_L_law_b1591
    exact fin_i hA (fun S3 h3 => hK S3 E _ _ (Or.inl rfl) h3 (by omega) (Or.inl ⟨rfl, by omega⟩))
theorem lb_21 (h : LH x1 x2 x3 x4 E m kc ks x5 S sc mc ms n) :
    ∀ x580 : Int32, x580 = x5 + (1 : Int32) →
    vp_in x580 sc.1 ∧
    ∀ x582 : Int32, x582 = sc.2 (Int32.toNatClampNeg x580) →
    ∃ c583 d584 : Nat, kc + c583 ≤ mc ∧ ks + d584 ≤ ms ∧
    wA_L_many c583 d584 x1 x582 x3 S (fun x586 S585 =>
    ∀ x587 : Int32, x587 = x5 + (1 : Int32) →
    vp_in x587 sc.1 ∧
    ∀ x589 : Int32, x589 = sc.2 (Int32.toNatClampNeg x587) →
    s_K S585 x2 = 10 ∧
    ∃ c590 d591 : Nat, (kc + c583) + c590 ≤ mc ∧ (ks + d584) + d591 ≤ ms ∧
    wA_X8_many c590 d591 x2 x589 S585 (fun x593 S592 =>
    s_K S592 x2 = 10 ∧
    w_X8_thrown x2 S592 (fun x595 S594 =>
    ((x595 = x586 → ((¬ x586 = 0 → wA_L_law_b1680 mc ms ((kc + c583) + c590) ((ks + d584) + d591) x1 x2 x3 x4 x5 S594 (fun kc ks x1 x2 x3 x4 x5 S => wA_L_law_b28 mc ms  sc n kc ks x1 x2 x3 x4 x5 S) sc) ∧
    (x586 = 0 → s_K S594 x3 = 14 ∧
    vp_in (0 : Int32) (s_N S594 x3) ∧
    ∀ j599 : Int64, j599 = s_G S594 x3 (Int32.toNatClampNeg (0 : Int32)) →
    ∀ j600 : Int64, j600 = Int32.toInt64 x593 →
    ∀ x601 : Int32, x601 = lg_cmp j599 j600 →
    ((x601 = 0 → wA_L_law_b1680 mc ms ((kc + c583) + c590) ((ks + d584) + d591) x1 x2 x3 x4 x5 S594 (fun kc ks x1 x2 x3 x4 x5 S => wA_L_law_b28 mc ms  sc n kc ks x1 x2 x3 x4 x5 S) sc) ∧
    (¬ x601 = 0 → False))))) ∧
    (¬ x595 = x586 → False))))) := by
  obtain ⟨hW, hm, hmc, hms, hE, ⟨v1, v2, v3, v4⟩, hK⟩ := h
  unfold capE at hms hK
  intro y1 e1
  subst e1
  refine ⟨v1, ?_⟩
  intro z1 f1
  subst f1
  refine ⟨1, 6, by omega, by omega, L_many hW (fun r S1 hA => ?_)⟩
  intro y1 e1
  subst e1
  refine ⟨v1, ?_⟩
  intro z1 f1
  subst f1
  refine ⟨hA.1, 1, 12, by omega, by omega, ?_⟩
  exact (fin_i hA (fun S3 h3 => hK S3 E _ _ (Or.inl rfl) h3 (by omega) (Or.inl ⟨rfl, by omega⟩))).2
theorem lb_22 (h : LH x1 x2 x3 x4 E m kc ks x5 S sc mc ms n) :
    ∀ x604 : Int32, x604 = x5 + (1 : Int32) →
    vp_in x604 sc.1 ∧
    ∀ x606 : Int32, x606 = sc.2 (Int32.toNatClampNeg x604) →
    ∃ c607 d608 : Nat, kc + c607 ≤ mc ∧ ks + d608 ≤ ms ∧
    wA_L_meanDepth c607 d608 x1 x606 x4 S (fun x610 S609 =>
    ∀ x611 : Int32, x611 = x5 + (1 : Int32) →
    vp_in x611 sc.1 ∧
    ∀ x613 : Int32, x613 = sc.2 (Int32.toNatClampNeg x611) →
    s_K S609 x2 = 10 ∧
    w_X8_meanDepth x2 x613 S609 (fun f615 S614 =>
    s_K S614 x2 = 10 ∧
    w_X8_thrown x2 S614 (fun x617 S616 =>
    ((x617 = x610 → ((¬ x610 = 0 → wA_L_law_b1757 mc ms (kc + c607) (ks + d608) x1 x2 x3 x4 x5 S616 (fun kc ks x1 x2 x3 x4 x5 S => wA_L_law_b28 mc ms  sc n kc ks x1 x2 x3 x4 x5 S) sc) ∧
    (x610 = 0 → s_K S616 x4 = 15 ∧
    vp_in (0 : Int32) (s_N S616 x4) ∧
    ∀ f621 : UInt64, f621 = s_D S616 x4 (Int32.toNatClampNeg (0 : Int32)) →
    ∀ x622 : Int32, x622 = Op.cmpValue (FP.dcmp f621 f615) CmpOp.l →
    ((x622 = 0 → wA_L_law_b1757 mc ms (kc + c607) (ks + d608) x1 x2 x3 x4 x5 S616 (fun kc ks x1 x2 x3 x4 x5 S => wA_L_law_b28 mc ms  sc n kc ks x1 x2 x3 x4 x5 S) sc) ∧
    (¬ x622 = 0 → vp_in (0 : Int32) (s_N S616 x4) ∧
    ∀ f625 : UInt64, f625 = s_D S616 x4 (Int32.toNatClampNeg (0 : Int32)) →
    vp_in (0 : Int32) (s_N S616 x4) ∧
    ∀ f627 : UInt64, f627 = s_D S616 x4 (Int32.toNatClampNeg (0 : Int32)) →
    ∀ x628 : Int32, x628 = Op.cmpValue (FP.dcmp f625 f627) CmpOp.l →
    ((x628 = 0 → wA_L_law_b1755 mc ms (kc + c607) (ks + d608)  S616  sc) ∧
    (¬ x628 = 0 → ∀ x630 : Int32, x630 = Op.cmpValue (FP.dcmp f615 f615) CmpOp.l →
    ((¬ x630 = 0 → wA_L_law_b1757 mc ms (kc + c607) (ks + d608) x1 x2 x3 x4 x5 S616 (fun kc ks x1 x2 x3 x4 x5 S => wA_L_law_b28 mc ms  sc n kc ks x1 x2 x3 x4 x5 S) sc) ∧
    (x630 = 0 → wA_L_law_b1755 mc ms (kc + c607) (ks + d608)  S616  sc))))))))) ∧
    (¬ x617 = x610 → False))))) := by
  obtain ⟨hW, hm, hmc, hms, hE, ⟨v1, v2, v3, v4⟩, hK⟩ := h
  unfold capE at hms hK
  intro y1 e1
  subst e1
  refine ⟨v1, ?_⟩
  intro z1 f1
  subst f1
  refine ⟨1, 6, by omega, by omega, L_meanDepth hW (fun r S1 hA => ?_)⟩
  intro y1 e1
  subst e1
  refine ⟨v1, ?_⟩
  intro z1 f1
  subst f1
  exact fin_d hA (fun S3 h3 => hK S3 E _ _ (Or.inl rfl) h3 (by omega) (Or.inl ⟨rfl, by omega⟩))
theorem lb_23 (h : LH x1 x2 x3 x4 E m kc ks x5 S sc mc ms n) :
    ∀ x633 : Int32, x633 = x5 + (1 : Int32) →
    vp_in x633 sc.1 ∧
    ∀ x635 : Int32, x635 = sc.2 (Int32.toNatClampNeg x633) →
    ∃ c636 d637 : Nat, kc + c636 ≤ mc ∧ ks + d637 ≤ ms ∧
    wA_L_suspect c636 d637 x1 x635 x3 S (fun x639 S638 =>
    ∀ x640 : Int32, x640 = x5 + (1 : Int32) →
    vp_in x640 sc.1 ∧
    ∀ x642 : Int32, x642 = sc.2 (Int32.toNatClampNeg x640) →
    s_K S638 x2 = 10 ∧
    w_X8_suspect x2 x642 S638 (fun x644 S643 =>
    s_K S643 x2 = 10 ∧
    w_X8_thrown x2 S643 (fun x646 S645 =>
    ((x646 = x639 → ((¬ x639 = 0 → wA_L_law_b1813 mc ms (kc + c636) (ks + d637) x1 x2 x3 x4 x5 S645 (fun kc ks x1 x2 x3 x4 x5 S => wA_L_law_b28 mc ms  sc n kc ks x1 x2 x3 x4 x5 S) sc) ∧
    (x639 = 0 → s_K S645 x3 = 14 ∧
    vp_in (0 : Int32) (s_N S645 x3) ∧
    ∀ j650 : Int64, j650 = s_G S645 x3 (Int32.toNatClampNeg (0 : Int32)) →
    ∀ j651 : Int64, j651 = Int32.toInt64 x644 →
    ∀ x652 : Int32, x652 = lg_cmp j650 j651 →
    ((x652 = 0 → wA_L_law_b1813 mc ms (kc + c636) (ks + d637) x1 x2 x3 x4 x5 S645 (fun kc ks x1 x2 x3 x4 x5 S => wA_L_law_b28 mc ms  sc n kc ks x1 x2 x3 x4 x5 S) sc) ∧
    (¬ x652 = 0 → False))))) ∧
    (¬ x646 = x639 → False))))) := by
  obtain ⟨hW, hm, hmc, hms, hE, ⟨v1, v2, v3, v4⟩, hK⟩ := h
  unfold capE at hms hK
  intro y1 e1
  subst e1
  refine ⟨v1, ?_⟩
  intro z1 f1
  subst f1
  refine ⟨1, 6, by omega, by omega, L_suspect hW (by omega) (fun r S1 hA => ?_)⟩
  intro y1 e1
  subst e1
  refine ⟨v1, ?_⟩
  intro z1 f1
  subst f1
  exact fin_i hA (fun S3 h3 => hK S3 E _ _ (Or.inl rfl) h3 (by omega) (Or.inl ⟨rfl, by omega⟩))
theorem lb_24 (h : LH x1 x2 x3 x4 E m kc ks x5 S sc mc ms n) :
    ∀ x655 : Int32, x655 = x5 + (1 : Int32) →
    vp_in x655 sc.1 ∧
    ∀ x657 : Int32, x657 = sc.2 (Int32.toNatClampNeg x655) →
    ∀ x658 : Int32, x658 = x5 + (2 : Int32) →
    vp_in x658 sc.1 ∧
    ∀ x660 : Int32, x660 = sc.2 (Int32.toNatClampNeg x658) →
    ∃ c661 d662 : Nat, kc + c661 ≤ mc ∧ ks + d662 ≤ ms ∧
    wA_L_wouldYield c661 d662 x1 x657 x660 x3 S (fun x664 S663 =>
    ∀ x665 : Int32, x665 = x5 + (1 : Int32) →
    vp_in x665 sc.1 ∧
    ∀ x667 : Int32, x667 = sc.2 (Int32.toNatClampNeg x665) →
    ∀ x668 : Int32, x668 = x5 + (2 : Int32) →
    vp_in x668 sc.1 ∧
    ∀ x670 : Int32, x670 = sc.2 (Int32.toNatClampNeg x668) →
    s_K S663 x2 = 10 ∧
    ∃ c671 d672 : Nat, (kc + c661) + c671 ≤ mc ∧ (ks + d662) + d672 ≤ ms ∧
    wA_X8_wouldYield c671 d672 x2 x667 x670 S663 (fun x674 S673 =>
    s_K S673 x2 = 10 ∧
    w_X8_thrown x2 S673 (fun x676 S675 =>
    ((x676 = x664 → ((¬ x664 = 0 → wA_L_law_b1881 mc ms ((kc + c661) + c671) ((ks + d662) + d672) x1 x2 x3 x4 x5 S675 (fun kc ks x1 x2 x3 x4 x5 S => wA_L_law_b28 mc ms  sc n kc ks x1 x2 x3 x4 x5 S) sc) ∧
    (x664 = 0 → s_K S675 x3 = 14 ∧
    vp_in (0 : Int32) (s_N S675 x3) ∧
    ∀ j680 : Int64, j680 = s_G S675 x3 (Int32.toNatClampNeg (0 : Int32)) →
    ∀ j681 : Int64, j681 = Int32.toInt64 x674 →
    ∀ x682 : Int32, x682 = lg_cmp j680 j681 →
    ((x682 = 0 → wA_L_law_b1881 mc ms ((kc + c661) + c671) ((ks + d662) + d672) x1 x2 x3 x4 x5 S675 (fun kc ks x1 x2 x3 x4 x5 S => wA_L_law_b28 mc ms  sc n kc ks x1 x2 x3 x4 x5 S) sc) ∧
    (¬ x682 = 0 → False))))) ∧
    (¬ x676 = x664 → False))))) := by
  obtain ⟨hW, hm, hmc, hms, hE, ⟨v1, v2, v3, v4⟩, hK⟩ := h
  unfold capE at hms hK
  intro y1 e1
  subst e1
  refine ⟨v1, ?_⟩
  intro z1 f1
  subst f1
  intro y2 e2
  subst e2
  refine ⟨v2, ?_⟩
  intro z2 f2
  subst f2
  refine ⟨1, 6, by omega, by omega, L_wouldYield (by omega) hW (fun r S1 hA => ?_)⟩
  intro y1 e1
  subst e1
  refine ⟨v1, ?_⟩
  intro z1 f1
  subst f1
  intro y2 e2
  subst e2
  refine ⟨v2, ?_⟩
  intro z2 f2
  subst f2
  refine ⟨hA.1, 21, 349, by omega, by omega, ?_⟩
  exact (fin_i hA (fun S3 h3 => hK S3 E _ _ (Or.inl rfl) h3 (by omega) (Or.inl ⟨rfl, by omega⟩))).2
theorem lb_25 (h : LH x1 x2 x3 x4 E m kc ks x5 S sc mc ms n) :
    ∀ x685 : Int32, x685 = x5 + (1 : Int32) →
    vp_in x685 sc.1 ∧
    ∀ x687 : Int32, x687 = sc.2 (Int32.toNatClampNeg x685) →
    ∃ c688 d689 : Nat, kc + c688 ≤ mc ∧ ks + d689 ≤ ms ∧
    wA_L_ripeIn c688 d689 x1 x687 x3 S (fun x691 S690 =>
    ∀ x692 : Int32, x692 = x5 + (1 : Int32) →
    vp_in x692 sc.1 ∧
    ∀ x694 : Int32, x694 = sc.2 (Int32.toNatClampNeg x692) →
    s_K S690 x2 = 10 ∧
    ∃ c695 d696 : Nat, (kc + c688) + c695 ≤ mc ∧ (ks + d689) + d696 ≤ ms ∧
    wA_X8_ripeIn c695 d696 x2 x694 S690 (fun x698 S697 =>
    s_K S697 x2 = 10 ∧
    w_X8_thrown x2 S697 (fun x700 S699 =>
    ((x700 = x691 → ((¬ x691 = 0 → wA_L_law_b1937 mc ms ((kc + c688) + c695) ((ks + d689) + d696) x1 x2 x3 x4 x5 S699 (fun kc ks x1 x2 x3 x4 x5 S => wA_L_law_b28 mc ms  sc n kc ks x1 x2 x3 x4 x5 S) sc) ∧
    (x691 = 0 → s_K S699 x3 = 14 ∧
    vp_in (0 : Int32) (s_N S699 x3) ∧
    ∀ j704 : Int64, j704 = s_G S699 x3 (Int32.toNatClampNeg (0 : Int32)) →
    ∀ j705 : Int64, j705 = Int32.toInt64 x698 →
    ∀ x706 : Int32, x706 = lg_cmp j704 j705 →
    ((x706 = 0 → wA_L_law_b1937 mc ms ((kc + c688) + c695) ((ks + d689) + d696) x1 x2 x3 x4 x5 S699 (fun kc ks x1 x2 x3 x4 x5 S => wA_L_law_b28 mc ms  sc n kc ks x1 x2 x3 x4 x5 S) sc) ∧
    (¬ x706 = 0 → False))))) ∧
    (¬ x700 = x691 → False))))) := by
  obtain ⟨hW, hm, hmc, hms, hE, ⟨v1, v2, v3, v4⟩, hK⟩ := h
  unfold capE at hms hK
  intro y1 e1
  subst e1
  refine ⟨v1, ?_⟩
  intro z1 f1
  subst f1
  refine ⟨1, 6, by omega, by omega, L_ripeIn (by omega) hW (fun r S1 hA => ?_)⟩
  intro y1 e1
  subst e1
  refine ⟨v1, ?_⟩
  intro z1 f1
  subst f1
  refine ⟨hA.1, 21, 349, by omega, by omega, ?_⟩
  exact (fin_i hA (fun S3 h3 => hK S3 E _ _ (Or.inl rfl) h3 (by omega) (Or.inl ⟨rfl, by omega⟩))).2
theorem lb_26 (h : LH x1 x2 x3 x4 E m kc ks x5 S sc mc ms n) :
    ∀ x709 : Int32, x709 = x5 + (1 : Int32) →
    vp_in x709 sc.1 ∧
    ∀ x711 : Int32, x711 = sc.2 (Int32.toNatClampNeg x709) →
    ∀ x712 : Int32, x712 = x5 + (2 : Int32) →
    vp_in x712 sc.1 ∧
    ∀ x714 : Int32, x714 = sc.2 (Int32.toNatClampNeg x712) →
    ∃ c715 d716 : Nat, kc + c715 ≤ mc ∧ ks + d716 ≤ ms ∧
    wA_L_plan c715 d716 x1 x711 x714 x3 S (fun x718 S717 =>
    ∀ x719 : Int32, x719 = x5 + (1 : Int32) →
    vp_in x719 sc.1 ∧
    ∀ x721 : Int32, x721 = sc.2 (Int32.toNatClampNeg x719) →
    ∀ x722 : Int32, x722 = x5 + (2 : Int32) →
    vp_in x722 sc.1 ∧
    ∀ x724 : Int32, x724 = sc.2 (Int32.toNatClampNeg x722) →
    s_K S717 x2 = 10 ∧
    ∃ c725 d726 : Nat, (kc + c715) + c725 ≤ mc ∧ (ks + d716) + d726 ≤ ms ∧
    wA_X8_plan c725 d726 x2 x721 x724 S717 (fun x728 S727 =>
    s_K S727 x2 = 10 ∧
    w_X8_thrown x2 S727 (fun x730 S729 =>
    ((x730 = x718 → ((¬ x718 = 0 → wA_L_law_b2005 mc ms ((kc + c715) + c725) ((ks + d716) + d726) x1 x2 x3 x4 x5 S729 (fun kc ks x1 x2 x3 x4 x5 S => wA_L_law_b28 mc ms  sc n kc ks x1 x2 x3 x4 x5 S) sc) ∧
    (x718 = 0 → s_K S729 x3 = 14 ∧
    vp_in (0 : Int32) (s_N S729 x3) ∧
    ∀ j734 : Int64, j734 = s_G S729 x3 (Int32.toNatClampNeg (0 : Int32)) →
    ∀ j735 : Int64, j735 = Int32.toInt64 x728 →
    ∀ x736 : Int32, x736 = lg_cmp j734 j735 →
    ((x736 = 0 → wA_L_law_b2005 mc ms ((kc + c715) + c725) ((ks + d716) + d726) x1 x2 x3 x4 x5 S729 (fun kc ks x1 x2 x3 x4 x5 S => wA_L_law_b28 mc ms  sc n kc ks x1 x2 x3 x4 x5 S) sc) ∧
    (¬ x736 = 0 → False))))) ∧
    (¬ x730 = x718 → False))))) := by
  obtain ⟨hW, hm, hmc, hms, hE, ⟨v1, v2, v3, v4⟩, hK⟩ := h
  unfold capE at hms hK
  intro y1 e1
  subst e1
  refine ⟨v1, ?_⟩
  intro z1 f1
  subst f1
  intro y2 e2
  subst e2
  refine ⟨v2, ?_⟩
  intro z2 f2
  subst f2
  refine ⟨1, 6, by omega, by omega, L_plan (by omega) hW (fun r S1 hA => ?_)⟩
  intro y1 e1
  subst e1
  refine ⟨v1, ?_⟩
  intro z1 f1
  subst f1
  intro y2 e2
  subst e2
  refine ⟨v2, ?_⟩
  intro z2 f2
  subst f2
  refine ⟨hA.1, 567, 9423, by omega, by omega, ?_⟩
  exact (fin_i hA (fun S3 h3 => hK S3 E _ _ (Or.inl rfl) h3 (by omega) (Or.inl ⟨rfl, by omega⟩))).2
theorem lb_27 (h : LH x1 x2 x3 x4 E m kc ks x5 S sc mc ms n) :
    s_K S x1 = 8 ∧
    w_X6_digest x1 S (fun j740 S739 =>
    s_K S739 x2 = 10 ∧
    ∃ c741 d742 : Nat, kc + c741 ≤ mc ∧ ks + d742 ≤ ms ∧
    wA_X8_digest c741 d742 x2 S739 (fun j744 S743 =>
    ∀ x745 : Int32, x745 = lg_cmp j740 j744 →
    ((x745 = 0 → wA_L_law_b2022 mc ms (kc + c741) (ks + d742) x1 x2 x3 x4 x5 S743 (fun kc ks x1 x2 x3 x4 x5 S => wA_L_law_b28 mc ms  sc n kc ks x1 x2 x3 x4 x5 S) sc) ∧
    (¬ x745 = 0 → False)))) := by
  obtain ⟨hW, hm, hmc, hms, hE, ⟨v1, v2, v3, v4⟩, hK⟩ := h
  unfold capE at hms hK
  exact L_digest (by omega) hW (by omega) (by omega) (fun S3 h3 => hK S3 E _ _ (Or.inl rfl) h3 (by omega) (Or.inl ⟨rfl, by omega⟩))
end
