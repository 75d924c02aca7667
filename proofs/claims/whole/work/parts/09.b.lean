section
variable {p : Program} {l : Launch} {e : Env} {s : State} {m : MethodId} {args : Array Value} {below : List Frame} {meth : Method} {c : Code} {gg : sG}
variable {bb : Nat} {QQ : State → Prop}
def wA_L_law_b2022 (mc ms kc ks : Nat) (x1 : Nat) (x2 : Nat) (x3 : Nat) (x4 : Nat) (x5 : Int32) (S : sT) (kk28 : Nat → Nat → Nat → Nat → Nat → Nat → Int32 → sT → Prop) (sc : Nat × (Nat → Int32)) : Prop :=
∀ x101 : Int32, x101 = x5 + 5 →
    kk28 kc ks x1 x2 x3 x4 x101 S
def wA_L_law_b432 (mc ms kc ks : Nat) (x1 : Nat) (x2 : Nat) (x3 : Nat) (x4 : Nat) (x5 : Int32) (S : sT) (kk28 : Nat → Nat → Nat → Nat → Nat → Nat → Int32 → sT → Prop) (sc : Nat × (Nat → Int32)) : Prop :=
wA_L_law_b2022 mc ms kc ks x1 x2 x3 x4 x5 S kk28 sc
def wA_L_law_b426 (mc ms kc ks : Nat) (x1 : Nat) (x2 : Nat) (x3 : Nat) (x4 : Nat) (x5 : Int32) (y0 : Int64) (y1 : Int64) (S : sT) (kk28 : Nat → Nat → Nat → Nat → Nat → Nat → Int32 → sT → Prop) (sc : Nat × (Nat → Int32)) : Prop :=
∀ x101 : Int32, x101 = lg_cmp y1 y0 →
    ((x101 = 0 → wA_L_law_b432 mc ms kc ks x1 x2 x3 x4 x5 S kk28 sc) ∧
    (¬ x101 = 0 → False))
def wA_L_law_b392 (mc ms kc ks : Nat) (x1 : Nat) (x2 : Nat) (x3 : Nat) (x4 : Nat) (x5 : Int32) (x6 : Int32) (y0 : Int32) (y1 : Int32) (y2 : Nat) (S : sT) (kk28 : Nat → Nat → Nat → Nat → Nat → Nat → Int32 → sT → Prop) (sc : Nat × (Nat → Int32)) : Prop :=
s_K S y2 = 10 ∧
    w_X8_gate y2 y1 y0 S (fun x102 S101 =>
    s_K S101 x2 = 10 ∧
    w_X8_thrown x2 S101 (fun x104 S103 =>
    ((x104 = x6 → ((¬ x6 = 0 → wA_L_law_b432 mc ms kc ks x1 x2 x3 x4 x5 S103 kk28 sc) ∧
    (x6 = 0 → s_K S103 x3 = 14 ∧
    vp_in (0 : Int32) (s_N S103 x3) ∧
    ∀ j108 : Int64, j108 = s_G S103 x3 (Int32.toNatClampNeg (0 : Int32)) →
    ((x102 = 0 → wA_L_law_b426 mc ms kc ks x1 x2 x3 x4 x5 (0 : Int64) j108 S103 kk28 sc) ∧
    (¬ x102 = 0 → wA_L_law_b426 mc ms kc ks x1 x2 x3 x4 x5 (1 : Int64) j108 S103 kk28 sc))))) ∧
    (¬ x104 = x6 → False))))
def wA_L_law_b365 (mc ms kc ks : Nat) (x1 : Nat) (x2 : Nat) (x3 : Nat) (x4 : Nat) (x5 : Int32) (y0 : Int32) (y1 : Int32) (y2 : Nat) (S : sT) (kk28 : Nat → Nat → Nat → Nat → Nat → Nat → Int32 → sT → Prop) (sc : Nat × (Nat → Int32)) : Prop :=
∃ c101 d102 : Nat, kc + c101 ≤ mc ∧ ks + d102 ≤ ms ∧
    wA_L_gate c101 d102 y2 y1 y0 x3 S (fun x104 S103 =>
    ∀ x105 : Int32, x105 = x5 + (1 : Int32) →
    vp_in x105 sc.1 ∧
    ∀ x107 : Int32, x107 = sc.2 (Int32.toNatClampNeg x105) →
    ∀ x108 : Int32, x108 = x5 + (2 : Int32) →
    vp_in x108 sc.1 ∧
    ∀ x110 : Int32, x110 = sc.2 (Int32.toNatClampNeg x108) →
    ((x110 = 0 → wA_L_law_b392 mc ms (kc + c101) (ks + d102) x1 x2 x3 x4 x5 x104 (0 : Int32) x107 x2 S103 kk28 sc) ∧
    (¬ x110 = 0 → wA_L_law_b392 mc ms (kc + c101) (ks + d102) x1 x2 x3 x4 x5 x104 (1 : Int32) x107 x2 S103 kk28 sc)))
def wA_L_law_b591 (mc ms kc ks : Nat) (x1 : Nat) (x2 : Nat) (x3 : Nat) (x4 : Nat) (x5 : Int32) (S : sT) (kk28 : Nat → Nat → Nat → Nat → Nat → Nat → Int32 → sT → Prop) (sc : Nat × (Nat → Int32)) : Prop :=
wA_L_law_b2022 mc ms kc ks x1 x2 x3 x4 x5 S kk28 sc
def wA_L_law_b585 (mc ms kc ks : Nat) (x1 : Nat) (x2 : Nat) (x3 : Nat) (x4 : Nat) (x5 : Int32) (y0 : Int64) (y1 : Int64) (S : sT) (kk28 : Nat → Nat → Nat → Nat → Nat → Nat → Int32 → sT → Prop) (sc : Nat × (Nat → Int32)) : Prop :=
∀ x101 : Int32, x101 = lg_cmp y1 y0 →
    ((x101 = 0 → wA_L_law_b591 mc ms kc ks x1 x2 x3 x4 x5 S kk28 sc) ∧
    (¬ x101 = 0 → False))
def wA_L_law_b551 (mc ms kc ks : Nat) (x1 : Nat) (x2 : Nat) (x3 : Nat) (x4 : Nat) (x5 : Int32) (x6 : Int32) (y0 : Int32) (y1 : Int32) (y2 : Nat) (S : sT) (kk28 : Nat → Nat → Nat → Nat → Nat → Nat → Int32 → sT → Prop) (sc : Nat × (Nat → Int32)) : Prop :=
s_K S y2 = 10 ∧
    w_X8_rotate y2 y1 y0 S (fun x102 S101 =>
    s_K S101 x2 = 10 ∧
    w_X8_thrown x2 S101 (fun x104 S103 =>
    ((x104 = x6 → ((¬ x6 = 0 → wA_L_law_b591 mc ms kc ks x1 x2 x3 x4 x5 S103 kk28 sc) ∧
    (x6 = 0 → s_K S103 x3 = 14 ∧
    vp_in (0 : Int32) (s_N S103 x3) ∧
    ∀ j108 : Int64, j108 = s_G S103 x3 (Int32.toNatClampNeg (0 : Int32)) →
    ((x102 = 0 → wA_L_law_b585 mc ms kc ks x1 x2 x3 x4 x5 (0 : Int64) j108 S103 kk28 sc) ∧
    (¬ x102 = 0 → wA_L_law_b585 mc ms kc ks x1 x2 x3 x4 x5 (1 : Int64) j108 S103 kk28 sc))))) ∧
    (¬ x104 = x6 → False))))
def wA_L_law_b524 (mc ms kc ks : Nat) (x1 : Nat) (x2 : Nat) (x3 : Nat) (x4 : Nat) (x5 : Int32) (y0 : Int32) (y1 : Int32) (y2 : Nat) (S : sT) (kk28 : Nat → Nat → Nat → Nat → Nat → Nat → Int32 → sT → Prop) (sc : Nat × (Nat → Int32)) : Prop :=
∃ c101 d102 : Nat, kc + c101 ≤ mc ∧ ks + d102 ≤ ms ∧
    wA_L_rotate c101 d102 y2 y1 y0 x3 S (fun x104 S103 =>
    ∀ x105 : Int32, x105 = x5 + (1 : Int32) →
    vp_in x105 sc.1 ∧
    ∀ x107 : Int32, x107 = sc.2 (Int32.toNatClampNeg x105) →
    ∀ x108 : Int32, x108 = x5 + (2 : Int32) →
    vp_in x108 sc.1 ∧
    ∀ x110 : Int32, x110 = sc.2 (Int32.toNatClampNeg x108) →
    ((x110 = 0 → wA_L_law_b551 mc ms (kc + c101) (ks + d102) x1 x2 x3 x4 x5 x104 (0 : Int32) x107 x2 S103 kk28 sc) ∧
    (¬ x110 = 0 → wA_L_law_b551 mc ms (kc + c101) (ks + d102) x1 x2 x3 x4 x5 x104 (1 : Int32) x107 x2 S103 kk28 sc)))
def wA_L_law_b867 (mc ms kc ks : Nat) (x1 : Nat) (x2 : Nat) (x3 : Nat) (x4 : Nat) (x5 : Int32) (S : sT) (kk28 : Nat → Nat → Nat → Nat → Nat → Nat → Int32 → sT → Prop) (sc : Nat × (Nat → Int32)) : Prop :=
wA_L_law_b2022 mc ms kc ks x1 x2 x3 x4 x5 S kk28 sc
def wA_L_law_b834 (mc ms kc ks : Nat) (x1 : Nat) (x2 : Nat) (x3 : Nat) (x4 : Nat) (x5 : Int32) (x6 : Int32) (y0 : Int32) (y1 : Int32) (y2 : Nat) (S : sT) (kk28 : Nat → Nat → Nat → Nat → Nat → Nat → Int32 → sT → Prop) (sc : Nat × (Nat → Int32)) : Prop :=
s_K S y2 = 10 ∧
    w_X8_ducks y2 y1 y0 S (fun x102 S101 =>
    s_K S101 x2 = 10 ∧
    w_X8_thrown x2 S101 (fun x104 S103 =>
    ((x104 = x6 → ((¬ x6 = 0 → wA_L_law_b867 mc ms kc ks x1 x2 x3 x4 x5 S103 kk28 sc) ∧
    (x6 = 0 → s_K S103 x3 = 14 ∧
    vp_in (0 : Int32) (s_N S103 x3) ∧
    ∀ j108 : Int64, j108 = s_G S103 x3 (Int32.toNatClampNeg (0 : Int32)) →
    ∀ j109 : Int64, j109 = Int32.toInt64 x102 →
    ∀ x110 : Int32, x110 = lg_cmp j108 j109 →
    ((x110 = 0 → wA_L_law_b867 mc ms kc ks x1 x2 x3 x4 x5 S103 kk28 sc) ∧
    (¬ x110 = 0 → False))))) ∧
    (¬ x104 = x6 → False))))
def wA_L_law_b807 (mc ms kc ks : Nat) (x1 : Nat) (x2 : Nat) (x3 : Nat) (x4 : Nat) (x5 : Int32) (y0 : Int32) (y1 : Int32) (y2 : Nat) (S : sT) (kk28 : Nat → Nat → Nat → Nat → Nat → Nat → Int32 → sT → Prop) (sc : Nat × (Nat → Int32)) : Prop :=
∃ c101 d102 : Nat, kc + c101 ≤ mc ∧ ks + d102 ≤ ms ∧
    wA_L_ducks c101 d102 y2 y1 y0 x3 S (fun x104 S103 =>
    ∀ x105 : Int32, x105 = x5 + (1 : Int32) →
    vp_in x105 sc.1 ∧
    ∀ x107 : Int32, x107 = sc.2 (Int32.toNatClampNeg x105) →
    ∀ x108 : Int32, x108 = x5 + (2 : Int32) →
    vp_in x108 sc.1 ∧
    ∀ x110 : Int32, x110 = sc.2 (Int32.toNatClampNeg x108) →
    ((x110 = 0 → wA_L_law_b834 mc ms (kc + c101) (ks + d102) x1 x2 x3 x4 x5 x104 (0 : Int32) x107 x2 S103 kk28 sc) ∧
    (¬ x110 = 0 → wA_L_law_b834 mc ms (kc + c101) (ks + d102) x1 x2 x3 x4 x5 x104 (1 : Int32) x107 x2 S103 kk28 sc)))
def wA_L_law_b951 (mc ms kc ks : Nat) (x1 : Nat) (x2 : Nat) (x3 : Nat) (x4 : Nat) (x5 : Int32) (S : sT) (kk28 : Nat → Nat → Nat → Nat → Nat → Nat → Int32 → sT → Prop) (sc : Nat × (Nat → Int32)) : Prop :=
wA_L_law_b2022 mc ms kc ks x1 x2 x3 x4 x5 S kk28 sc
def wA_L_law_b918 (mc ms kc ks : Nat) (x1 : Nat) (x2 : Nat) (x3 : Nat) (x4 : Nat) (x5 : Int32) (x6 : Int32) (y0 : Int32) (y1 : Int32) (y2 : Nat) (S : sT) (kk28 : Nat → Nat → Nat → Nat → Nat → Nat → Int32 → sT → Prop) (sc : Nat × (Nat → Int32)) : Prop :=
s_K S y2 = 10 ∧
    w_X8_harvest y2 y1 y0 S (fun x102 S101 =>
    s_K S101 x2 = 10 ∧
    w_X8_thrown x2 S101 (fun x104 S103 =>
    ((x104 = x6 → ((¬ x6 = 0 → wA_L_law_b951 mc ms kc ks x1 x2 x3 x4 x5 S103 kk28 sc) ∧
    (x6 = 0 → s_K S103 x3 = 14 ∧
    vp_in (0 : Int32) (s_N S103 x3) ∧
    ∀ j108 : Int64, j108 = s_G S103 x3 (Int32.toNatClampNeg (0 : Int32)) →
    ∀ j109 : Int64, j109 = Int32.toInt64 x102 →
    ∀ x110 : Int32, x110 = lg_cmp j108 j109 →
    ((x110 = 0 → wA_L_law_b951 mc ms kc ks x1 x2 x3 x4 x5 S103 kk28 sc) ∧
    (¬ x110 = 0 → False))))) ∧
    (¬ x104 = x6 → False))))
def wA_L_law_b891 (mc ms kc ks : Nat) (x1 : Nat) (x2 : Nat) (x3 : Nat) (x4 : Nat) (x5 : Int32) (y0 : Int32) (y1 : Int32) (y2 : Nat) (S : sT) (kk28 : Nat → Nat → Nat → Nat → Nat → Nat → Int32 → sT → Prop) (sc : Nat × (Nat → Int32)) : Prop :=
∃ c101 d102 : Nat, kc + c101 ≤ mc ∧ ks + d102 ≤ ms ∧
    wA_L_harvest c101 d102 y2 y1 y0 x3 S (fun x104 S103 =>
    ∀ x105 : Int32, x105 = x5 + (1 : Int32) →
    vp_in x105 sc.1 ∧
    ∀ x107 : Int32, x107 = sc.2 (Int32.toNatClampNeg x105) →
    ∀ x108 : Int32, x108 = x5 + (2 : Int32) →
    vp_in x108 sc.1 ∧
    ∀ x110 : Int32, x110 = sc.2 (Int32.toNatClampNeg x108) →
    ((x110 = 0 → wA_L_law_b918 mc ms (kc + c101) (ks + d102) x1 x2 x3 x4 x5 x104 (0 : Int32) x107 x2 S103 kk28 sc) ∧
    (¬ x110 = 0 → wA_L_law_b918 mc ms (kc + c101) (ks + d102) x1 x2 x3 x4 x5 x104 (1 : Int32) x107 x2 S103 kk28 sc)))
def wA_L_law_b1624 (mc ms kc ks : Nat) (x1 : Nat) (x2 : Nat) (x3 : Nat) (x4 : Nat) (x5 : Int32) (S : sT) (kk28 : Nat → Nat → Nat → Nat → Nat → Nat → Int32 → sT → Prop) (sc : Nat × (Nat → Int32)) : Prop :=
wA_L_law_b2022 mc ms kc ks x1 x2 x3 x4 x5 S kk28 sc
def wA_L_law_b1591 (mc ms kc ks : Nat) (x1 : Nat) (x2 : Nat) (x3 : Nat) (x4 : Nat) (x5 : Int32) (x6 : Int32) (y0 : Int32) (y1 : Int32) (y2 : Nat) (S : sT) (kk28 : Nat → Nat → Nat → Nat → Nat → Nat → Int32 → sT → Prop) (sc : Nat × (Nat → Int32)) : Prop :=
s_K S y2 = 10 ∧
    w_X8_thought y2 y1 y0 S (fun x102 S101 =>
    s_K S101 x2 = 10 ∧
    w_X8_thrown x2 S101 (fun x104 S103 =>
    ((x104 = x6 → ((¬ x6 = 0 → wA_L_law_b1624 mc ms kc ks x1 x2 x3 x4 x5 S103 kk28 sc) ∧
    (x6 = 0 → s_K S103 x3 = 14 ∧
    vp_in (0 : Int32) (s_N S103 x3) ∧
    ∀ j108 : Int64, j108 = s_G S103 x3 (Int32.toNatClampNeg (0 : Int32)) →
    ∀ j109 : Int64, j109 = Int32.toInt64 x102 →
    ∀ x110 : Int32, x110 = lg_cmp j108 j109 →
    ((x110 = 0 → wA_L_law_b1624 mc ms kc ks x1 x2 x3 x4 x5 S103 kk28 sc) ∧
    (¬ x110 = 0 → False))))) ∧
    (¬ x104 = x6 → False))))
def wA_L_law_b1564 (mc ms kc ks : Nat) (x1 : Nat) (x2 : Nat) (x3 : Nat) (x4 : Nat) (x5 : Int32) (y0 : Int32) (y1 : Int32) (y2 : Nat) (S : sT) (kk28 : Nat → Nat → Nat → Nat → Nat → Nat → Int32 → sT → Prop) (sc : Nat × (Nat → Int32)) : Prop :=
∃ c101 d102 : Nat, kc + c101 ≤ mc ∧ ks + d102 ≤ ms ∧
    wA_L_thought c101 d102 y2 y1 y0 x3 S (fun x104 S103 =>
    ∀ x105 : Int32, x105 = x5 + (1 : Int32) →
    vp_in x105 sc.1 ∧
    ∀ x107 : Int32, x107 = sc.2 (Int32.toNatClampNeg x105) →
    ∀ x108 : Int32, x108 = x5 + (2 : Int32) →
    vp_in x108 sc.1 ∧
    ∀ x110 : Int32, x110 = sc.2 (Int32.toNatClampNeg x108) →
    ((x110 = 0 → wA_L_law_b1591 mc ms (kc + c101) (ks + d102) x1 x2 x3 x4 x5 x104 (0 : Int32) x107 x2 S103 kk28 sc) ∧
    (¬ x110 = 0 → wA_L_law_b1591 mc ms (kc + c101) (ks + d102) x1 x2 x3 x4 x5 x104 (1 : Int32) x107 x2 S103 kk28 sc)))
def wA_L_law_b647 (mc ms kc ks : Nat) (x1 : Nat) (x2 : Nat) (x3 : Nat) (x4 : Nat) (x5 : Int32) (S : sT) (kk28 : Nat → Nat → Nat → Nat → Nat → Nat → Int32 → sT → Prop) (sc : Nat × (Nat → Int32)) : Prop :=
wA_L_law_b2022 mc ms kc ks x1 x2 x3 x4 x5 S kk28 sc
def wA_L_law_b1007 (mc ms kc ks : Nat) (x1 : Nat) (x2 : Nat) (x3 : Nat) (x4 : Nat) (x5 : Int32) (S : sT) (kk28 : Nat → Nat → Nat → Nat → Nat → Nat → Int32 → sT → Prop) (sc : Nat × (Nat → Int32)) : Prop :=
wA_L_law_b2022 mc ms kc ks x1 x2 x3 x4 x5 S kk28 sc
def wA_L_law_b1143 (mc ms kc ks : Nat) (x1 : Nat) (x2 : Nat) (x3 : Nat) (x4 : Nat) (x5 : Int32) (S : sT) (kk28 : Nat → Nat → Nat → Nat → Nat → Nat → Int32 → sT → Prop) (sc : Nat × (Nat → Int32)) : Prop :=
wA_L_law_b2022 mc ms kc ks x1 x2 x3 x4 x5 S kk28 sc
def wA_L_law_b1267 (mc ms kc ks : Nat) (x1 : Nat) (x2 : Nat) (x3 : Nat) (x4 : Nat) (x5 : Int32) (S : sT) (kk28 : Nat → Nat → Nat → Nat → Nat → Nat → Int32 → sT → Prop) (sc : Nat × (Nat → Int32)) : Prop :=
wA_L_law_b2022 mc ms kc ks x1 x2 x3 x4 x5 S kk28 sc
def wA_L_law_b1527 (mc ms kc ks : Nat) (x1 : Nat) (x2 : Nat) (x3 : Nat) (x4 : Nat) (x5 : Int32) (S : sT) (kk28 : Nat → Nat → Nat → Nat → Nat → Nat → Int32 → sT → Prop) (sc : Nat × (Nat → Int32)) : Prop :=
wA_L_law_b2022 mc ms kc ks x1 x2 x3 x4 x5 S kk28 sc
def wA_L_law_b1680 (mc ms kc ks : Nat) (x1 : Nat) (x2 : Nat) (x3 : Nat) (x4 : Nat) (x5 : Int32) (S : sT) (kk28 : Nat → Nat → Nat → Nat → Nat → Nat → Int32 → sT → Prop) (sc : Nat × (Nat → Int32)) : Prop :=
wA_L_law_b2022 mc ms kc ks x1 x2 x3 x4 x5 S kk28 sc
def wA_L_law_b1757 (mc ms kc ks : Nat) (x1 : Nat) (x2 : Nat) (x3 : Nat) (x4 : Nat) (x5 : Int32) (S : sT) (kk28 : Nat → Nat → Nat → Nat → Nat → Nat → Int32 → sT → Prop) (sc : Nat × (Nat → Int32)) : Prop :=
wA_L_law_b2022 mc ms kc ks x1 x2 x3 x4 x5 S kk28 sc
def wA_L_law_b1813 (mc ms kc ks : Nat) (x1 : Nat) (x2 : Nat) (x3 : Nat) (x4 : Nat) (x5 : Int32) (S : sT) (kk28 : Nat → Nat → Nat → Nat → Nat → Nat → Int32 → sT → Prop) (sc : Nat × (Nat → Int32)) : Prop :=
wA_L_law_b2022 mc ms kc ks x1 x2 x3 x4 x5 S kk28 sc
def wA_L_law_b1937 (mc ms kc ks : Nat) (x1 : Nat) (x2 : Nat) (x3 : Nat) (x4 : Nat) (x5 : Int32) (S : sT) (kk28 : Nat → Nat → Nat → Nat → Nat → Nat → Int32 → sT → Prop) (sc : Nat × (Nat → Int32)) : Prop :=
wA_L_law_b2022 mc ms kc ks x1 x2 x3 x4 x5 S kk28 sc
def wA_L_law_b500 (mc ms kc ks : Nat) (x1 : Nat) (x2 : Nat) (x3 : Nat) (x4 : Nat) (x5 : Int32) (S : sT) (kk28 : Nat → Nat → Nat → Nat → Nat → Nat → Int32 → sT → Prop) (sc : Nat × (Nat → Int32)) : Prop :=
wA_L_law_b2022 mc ms kc ks x1 x2 x3 x4 x5 S kk28 sc
def wA_L_law_b715 (mc ms kc ks : Nat) (x1 : Nat) (x2 : Nat) (x3 : Nat) (x4 : Nat) (x5 : Int32) (S : sT) (kk28 : Nat → Nat → Nat → Nat → Nat → Nat → Int32 → sT → Prop) (sc : Nat × (Nat → Int32)) : Prop :=
wA_L_law_b2022 mc ms kc ks x1 x2 x3 x4 x5 S kk28 sc
def wA_L_law_b783 (mc ms kc ks : Nat) (x1 : Nat) (x2 : Nat) (x3 : Nat) (x4 : Nat) (x5 : Int32) (S : sT) (kk28 : Nat → Nat → Nat → Nat → Nat → Nat → Int32 → sT → Prop) (sc : Nat × (Nat → Int32)) : Prop :=
wA_L_law_b2022 mc ms kc ks x1 x2 x3 x4 x5 S kk28 sc
def wA_L_law_b1211 (mc ms kc ks : Nat) (x1 : Nat) (x2 : Nat) (x3 : Nat) (x4 : Nat) (x5 : Int32) (S : sT) (kk28 : Nat → Nat → Nat → Nat → Nat → Nat → Int32 → sT → Prop) (sc : Nat × (Nat → Int32)) : Prop :=
wA_L_law_b2022 mc ms kc ks x1 x2 x3 x4 x5 S kk28 sc
def wA_L_law_b1335 (mc ms kc ks : Nat) (x1 : Nat) (x2 : Nat) (x3 : Nat) (x4 : Nat) (x5 : Int32) (S : sT) (kk28 : Nat → Nat → Nat → Nat → Nat → Nat → Int32 → sT → Prop) (sc : Nat × (Nat → Int32)) : Prop :=
wA_L_law_b2022 mc ms kc ks x1 x2 x3 x4 x5 S kk28 sc
def wA_L_law_b1403 (mc ms kc ks : Nat) (x1 : Nat) (x2 : Nat) (x3 : Nat) (x4 : Nat) (x5 : Int32) (S : sT) (kk28 : Nat → Nat → Nat → Nat → Nat → Nat → Int32 → sT → Prop) (sc : Nat × (Nat → Int32)) : Prop :=
wA_L_law_b2022 mc ms kc ks x1 x2 x3 x4 x5 S kk28 sc
def wA_L_law_b1471 (mc ms kc ks : Nat) (x1 : Nat) (x2 : Nat) (x3 : Nat) (x4 : Nat) (x5 : Int32) (S : sT) (kk28 : Nat → Nat → Nat → Nat → Nat → Nat → Int32 → sT → Prop) (sc : Nat × (Nat → Int32)) : Prop :=
wA_L_law_b2022 mc ms kc ks x1 x2 x3 x4 x5 S kk28 sc
def wA_L_law_b1881 (mc ms kc ks : Nat) (x1 : Nat) (x2 : Nat) (x3 : Nat) (x4 : Nat) (x5 : Int32) (S : sT) (kk28 : Nat → Nat → Nat → Nat → Nat → Nat → Int32 → sT → Prop) (sc : Nat × (Nat → Int32)) : Prop :=
wA_L_law_b2022 mc ms kc ks x1 x2 x3 x4 x5 S kk28 sc
def wA_L_law_b2005 (mc ms kc ks : Nat) (x1 : Nat) (x2 : Nat) (x3 : Nat) (x4 : Nat) (x5 : Int32) (S : sT) (kk28 : Nat → Nat → Nat → Nat → Nat → Nat → Int32 → sT → Prop) (sc : Nat × (Nat → Int32)) : Prop :=
wA_L_law_b2022 mc ms kc ks x1 x2 x3 x4 x5 S kk28 sc
def wA_L_law_b1755 (mc ms kc ks : Nat)  (S : sT)  (sc : Nat × (Nat → Int32)) : Prop :=
False
def wA_L_law_b341 (mc ms kc ks : Nat) (x1 : Nat) (x2 : Nat) (x3 : Nat) (x4 : Nat) (x5 : Int32) (S : sT) (kk28 : Nat → Nat → Nat → Nat → Nat → Nat → Int32 → sT → Prop) (sc : Nat × (Nat → Int32)) : Prop :=
wA_L_law_b2022 mc ms kc ks x1 x2 x3 x4 x5 S kk28 sc
def wA_L_law_b1087 (mc ms kc ks : Nat) (x1 : Nat) (x2 : Nat) (x3 : Nat) (x4 : Nat) (x5 : Int32) (S : sT) (kk28 : Nat → Nat → Nat → Nat → Nat → Nat → Int32 → sT → Prop) (sc : Nat × (Nat → Int32)) : Prop :=
wA_L_law_b2022 mc ms kc ks x1 x2 x3 x4 x5 S kk28 sc
def wA_L_law_b261 (mc ms kc ks : Nat) (x1 : Nat) (x2 : Nat) (x3 : Nat) (x4 : Nat) (x5 : Int32) (S : sT) (kk28 : Nat → Nat → Nat → Nat → Nat → Nat → Int32 → sT → Prop) (sc : Nat × (Nat → Int32)) : Prop :=
wA_L_law_b2022 mc ms kc ks x1 x2 x3 x4 x5 S kk28 sc
def wA_L_law_b28 (mc ms : Nat)  (sc : Nat × (Nat → Int32)) : Nat → Nat → Nat → Nat → Nat → Nat → Nat → Int32 → sT → Prop
  | 0 => fun _ _ _ _ _ _ _ _ => False
  | n + 1 => fun kc ks x1 x2 x3 x4 x5 S =>
∀ x101 : Int32, x101 = nI sc.1 →
    ∀ x102 : Int32, x102 = x101 - (5 : Int32) →
    ((x102 < x5 → True) ∧
    (¬ x102 < x5 → vp_in x5 sc.1 ∧
    ∀ x105 : Int32, x105 = sc.2 (Int32.toNatClampNeg x5) →
    ∀ x106 : Int32, x106 = x105 &&& (31 : Int32) →
    ((x106 = 0 → ∀ x108 : Int32, x108 = x5 + (1 : Int32) →
    vp_in x108 sc.1 ∧
    ∀ x110 : Int32, x110 = sc.2 (Int32.toNatClampNeg x108) →
    ∀ x111 : Int32, x111 = x5 + (2 : Int32) →
    vp_in x111 sc.1 ∧
    ∀ x113 : Int32, x113 = sc.2 (Int32.toNatClampNeg x111) →
    ∀ x114 : Int32, x114 = x5 + (3 : Int32) →
    vp_in x114 sc.1 ∧
    ∀ x116 : Int32, x116 = sc.2 (Int32.toNatClampNeg x114) →
    ∀ x117 : Int32, x117 = x5 + (4 : Int32) →
    vp_in x117 sc.1 ∧
    ∀ x119 : Int32, x119 = sc.2 (Int32.toNatClampNeg x117) →
    ∃ c120 d121 : Nat, kc + c120 ≤ mc ∧ ks + d121 ≤ ms ∧
    wA_L_society c120 d121 x1 x110 x113 x116 x119 x3 S (fun x123 S122 =>
    ∀ x124 : Int32, x124 = x5 + (1 : Int32) →
    vp_in x124 sc.1 ∧
    ∀ x126 : Int32, x126 = sc.2 (Int32.toNatClampNeg x124) →
    ∀ x127 : Int32, x127 = x5 + (2 : Int32) →
    vp_in x127 sc.1 ∧
    ∀ x129 : Int32, x129 = sc.2 (Int32.toNatClampNeg x127) →
    ∀ x130 : Int32, x130 = x5 + (3 : Int32) →
    vp_in x130 sc.1 ∧
    ∀ x132 : Int32, x132 = sc.2 (Int32.toNatClampNeg x130) →
    ∀ x133 : Int32, x133 = x5 + (4 : Int32) →
    vp_in x133 sc.1 ∧
    ∀ x135 : Int32, x135 = sc.2 (Int32.toNatClampNeg x133) →
    s_K S122 x2 = 10 ∧
    ∃ c136 d137 : Nat, (kc + c120) + c136 ≤ mc ∧ (ks + d121) + d137 ≤ ms ∧
    wA_X8_society c136 d137 x2 x126 x129 x132 x135 S122 (fun x139 S138 =>
    s_K S138 x2 = 10 ∧
    w_X8_thrown x2 S138 (fun x141 S140 =>
    ((x141 = x123 → ((¬ x123 = 0 → wA_L_law_b261 mc ms ((kc + c120) + c136) ((ks + d121) + d137) x1 x2 x3 x4 x5 S140 (fun kc ks x1 x2 x3 x4 x5 S => wA_L_law_b28 mc ms  sc n kc ks x1 x2 x3 x4 x5 S) sc) ∧
    (x123 = 0 → s_K S140 x3 = 14 ∧
    vp_in (0 : Int32) (s_N S140 x3) ∧
    ∀ j145 : Int64, j145 = s_G S140 x3 (Int32.toNatClampNeg (0 : Int32)) →
    ∀ j146 : Int64, j146 = Int32.toInt64 x139 →
    ∀ x147 : Int32, x147 = lg_cmp j145 j146 →
    ((x147 = 0 → wA_L_law_b261 mc ms ((kc + c120) + c136) ((ks + d121) + d137) x1 x2 x3 x4 x5 S140 (fun kc ks x1 x2 x3 x4 x5 S => wA_L_law_b28 mc ms  sc n kc ks x1 x2 x3 x4 x5 S) sc) ∧
    (¬ x147 = 0 → False))))) ∧
    (¬ x141 = x123 → False)))))) ∧
    (x106 = 1 → ∀ x150 : Int32, x150 = x5 + (1 : Int32) →
    vp_in x150 sc.1 ∧
    ∀ x152 : Int32, x152 = sc.2 (Int32.toNatClampNeg x150) →
    ∀ x153 : Int32, x153 = x5 + (2 : Int32) →
    vp_in x153 sc.1 ∧
    ∀ x155 : Int32, x155 = sc.2 (Int32.toNatClampNeg x153) →
    ∀ x156 : Int32, x156 = x5 + (3 : Int32) →
    vp_in x156 sc.1 ∧
    ∀ x158 : Int32, x158 = sc.2 (Int32.toNatClampNeg x156) →
    ∃ c159 d160 : Nat, kc + c159 ≤ mc ∧ ks + d160 ≤ ms ∧
    wA_L_field c159 d160 x1 x152 x155 x158 x3 S (fun x162 S161 =>
    ∀ x163 : Int32, x163 = x5 + (1 : Int32) →
    vp_in x163 sc.1 ∧
    ∀ x165 : Int32, x165 = sc.2 (Int32.toNatClampNeg x163) →
    ∀ x166 : Int32, x166 = x5 + (2 : Int32) →
    vp_in x166 sc.1 ∧
    ∀ x168 : Int32, x168 = sc.2 (Int32.toNatClampNeg x166) →
    ∀ x169 : Int32, x169 = x5 + (3 : Int32) →
    vp_in x169 sc.1 ∧
    ∀ x171 : Int32, x171 = sc.2 (Int32.toNatClampNeg x169) →
    s_K S161 x2 = 10 ∧
    ∃ c172 d173 : Nat, (kc + c159) + c172 ≤ mc ∧ (ks + d160) + d173 ≤ ms ∧
    wA_X8_field c172 d173 x2 x165 x168 x171 S161 (fun x175 S174 =>
    s_K S174 x2 = 10 ∧
    w_X8_thrown x2 S174 (fun x177 S176 =>
    ((x177 = x162 → ((¬ x162 = 0 → wA_L_law_b341 mc ms ((kc + c159) + c172) ((ks + d160) + d173) x1 x2 x3 x4 x5 S176 (fun kc ks x1 x2 x3 x4 x5 S => wA_L_law_b28 mc ms  sc n kc ks x1 x2 x3 x4 x5 S) sc) ∧
    (x162 = 0 → s_K S176 x3 = 14 ∧
    vp_in (0 : Int32) (s_N S176 x3) ∧
    ∀ j181 : Int64, j181 = s_G S176 x3 (Int32.toNatClampNeg (0 : Int32)) →
    ∀ j182 : Int64, j182 = Int32.toInt64 x175 →
    ∀ x183 : Int32, x183 = lg_cmp j181 j182 →
    ((x183 = 0 → wA_L_law_b341 mc ms ((kc + c159) + c172) ((ks + d160) + d173) x1 x2 x3 x4 x5 S176 (fun kc ks x1 x2 x3 x4 x5 S => wA_L_law_b28 mc ms  sc n kc ks x1 x2 x3 x4 x5 S) sc) ∧
    (¬ x183 = 0 → False))))) ∧
    (¬ x177 = x162 → False)))))) ∧
    (x106 = 2 → ∀ x186 : Int32, x186 = x5 + (1 : Int32) →
    vp_in x186 sc.1 ∧
    ∀ x188 : Int32, x188 = sc.2 (Int32.toNatClampNeg x186) →
    ∀ x189 : Int32, x189 = x5 + (2 : Int32) →
    vp_in x189 sc.1 ∧
    ∀ x191 : Int32, x191 = sc.2 (Int32.toNatClampNeg x189) →
    ((x191 = 0 → wA_L_law_b365 mc ms kc ks x1 x2 x3 x4 x5 (0 : Int32) x188 x1 S (fun kc ks x1 x2 x3 x4 x5 S => wA_L_law_b28 mc ms  sc n kc ks x1 x2 x3 x4 x5 S) sc) ∧
    (¬ x191 = 0 → wA_L_law_b365 mc ms kc ks x1 x2 x3 x4 x5 (1 : Int32) x188 x1 S (fun kc ks x1 x2 x3 x4 x5 S => wA_L_law_b28 mc ms  sc n kc ks x1 x2 x3 x4 x5 S) sc))) ∧
    (x106 = 3 → ∀ x194 : Int32, x194 = x5 + (1 : Int32) →
    vp_in x194 sc.1 ∧
    ∀ x196 : Int32, x196 = sc.2 (Int32.toNatClampNeg x194) →
    ∀ x197 : Int32, x197 = x5 + (2 : Int32) →
    vp_in x197 sc.1 ∧
    ∀ x199 : Int32, x199 = sc.2 (Int32.toNatClampNeg x197) →
    ∃ c200 d201 : Nat, kc + c200 ≤ mc ∧ ks + d201 ≤ ms ∧
    wA_L_stones c200 d201 x1 x196 x199 x3 S (fun x203 S202 =>
    ∀ x204 : Int32, x204 = x5 + (1 : Int32) →
    vp_in x204 sc.1 ∧
    ∀ x206 : Int32, x206 = sc.2 (Int32.toNatClampNeg x204) →
    ∀ x207 : Int32, x207 = x5 + (2 : Int32) →
    vp_in x207 sc.1 ∧
    ∀ x209 : Int32, x209 = sc.2 (Int32.toNatClampNeg x207) →
    s_K S202 x2 = 10 ∧
    w_X8_stones x2 x206 x209 S202 (fun x211 S210 =>
    s_K S210 x2 = 10 ∧
    w_X8_thrown x2 S210 (fun x213 S212 =>
    ((x213 = x203 → ((¬ x203 = 0 → wA_L_law_b500 mc ms (kc + c200) (ks + d201) x1 x2 x3 x4 x5 S212 (fun kc ks x1 x2 x3 x4 x5 S => wA_L_law_b28 mc ms  sc n kc ks x1 x2 x3 x4 x5 S) sc) ∧
    (x203 = 0 → s_K S212 x3 = 14 ∧
    vp_in (0 : Int32) (s_N S212 x3) ∧
    ∀ j217 : Int64, j217 = s_G S212 x3 (Int32.toNatClampNeg (0 : Int32)) →
    ∀ j218 : Int64, j218 = Int32.toInt64 x211 →
    ∀ x219 : Int32, x219 = lg_cmp j217 j218 →
    ((x219 = 0 → wA_L_law_b500 mc ms (kc + c200) (ks + d201) x1 x2 x3 x4 x5 S212 (fun kc ks x1 x2 x3 x4 x5 S => wA_L_law_b28 mc ms  sc n kc ks x1 x2 x3 x4 x5 S) sc) ∧
    (¬ x219 = 0 → False))))) ∧
    (¬ x213 = x203 → False)))))) ∧
    (x106 = 4 → ∀ x222 : Int32, x222 = x5 + (1 : Int32) →
    vp_in x222 sc.1 ∧
    ∀ x224 : Int32, x224 = sc.2 (Int32.toNatClampNeg x222) →
    ∀ x225 : Int32, x225 = x5 + (2 : Int32) →
    vp_in x225 sc.1 ∧
    ∀ x227 : Int32, x227 = sc.2 (Int32.toNatClampNeg x225) →
    ((x227 = 0 → wA_L_law_b524 mc ms kc ks x1 x2 x3 x4 x5 (0 : Int32) x224 x1 S (fun kc ks x1 x2 x3 x4 x5 S => wA_L_law_b28 mc ms  sc n kc ks x1 x2 x3 x4 x5 S) sc) ∧
    (¬ x227 = 0 → wA_L_law_b524 mc ms kc ks x1 x2 x3 x4 x5 (1 : Int32) x224 x1 S (fun kc ks x1 x2 x3 x4 x5 S => wA_L_law_b28 mc ms  sc n kc ks x1 x2 x3 x4 x5 S) sc))) ∧
    (x106 = 5 → ∀ x230 : Int32, x230 = x5 + (1 : Int32) →
    vp_in x230 sc.1 ∧
    ∀ x232 : Int32, x232 = sc.2 (Int32.toNatClampNeg x230) →
    ∃ c233 d234 : Nat, kc + c233 ≤ mc ∧ ks + d234 ≤ ms ∧
    wA_L_puddle c233 d234 x1 x232 x3 S (fun x236 S235 =>
    ∀ x237 : Int32, x237 = x5 + (1 : Int32) →
    vp_in x237 sc.1 ∧
    ∀ x239 : Int32, x239 = sc.2 (Int32.toNatClampNeg x237) →
    s_K S235 x2 = 10 ∧
    w_X8_puddle x2 x239 S235 (fun x241 S240 =>
    s_K S240 x2 = 10 ∧
    w_X8_thrown x2 S240 (fun x243 S242 =>
    ((x243 = x236 → ((¬ x236 = 0 → wA_L_law_b647 mc ms (kc + c233) (ks + d234) x1 x2 x3 x4 x5 S242 (fun kc ks x1 x2 x3 x4 x5 S => wA_L_law_b28 mc ms  sc n kc ks x1 x2 x3 x4 x5 S) sc) ∧
    (x236 = 0 → s_K S242 x3 = 14 ∧
    vp_in (0 : Int32) (s_N S242 x3) ∧
    ∀ j247 : Int64, j247 = s_G S242 x3 (Int32.toNatClampNeg (0 : Int32)) →
    ∀ j248 : Int64, j248 = Int32.toInt64 x241 →
    ∀ x249 : Int32, x249 = lg_cmp j247 j248 →
    ((x249 = 0 → wA_L_law_b647 mc ms (kc + c233) (ks + d234) x1 x2 x3 x4 x5 S242 (fun kc ks x1 x2 x3 x4 x5 S => wA_L_law_b28 mc ms  sc n kc ks x1 x2 x3 x4 x5 S) sc) ∧
    (¬ x249 = 0 → False))))) ∧
    (¬ x243 = x236 → False)))))) ∧
    (x106 = 6 → ∀ x252 : Int32, x252 = x5 + (1 : Int32) →
    vp_in x252 sc.1 ∧
    ∀ x254 : Int32, x254 = sc.2 (Int32.toNatClampNeg x252) →
    ∀ x255 : Int32, x255 = x5 + (2 : Int32) →
    vp_in x255 sc.1 ∧
    ∀ x257 : Int32, x257 = sc.2 (Int32.toNatClampNeg x255) →
    ∃ c258 d259 : Nat, kc + c258 ≤ mc ∧ ks + d259 ≤ ms ∧
    wA_L_plant c258 d259 x1 x254 x257 x3 S (fun x261 S260 =>
    ∀ x262 : Int32, x262 = x5 + (1 : Int32) →
    vp_in x262 sc.1 ∧
    ∀ x264 : Int32, x264 = sc.2 (Int32.toNatClampNeg x262) →
    ∀ x265 : Int32, x265 = x5 + (2 : Int32) →
    vp_in x265 sc.1 ∧
    ∀ x267 : Int32, x267 = sc.2 (Int32.toNatClampNeg x265) →
    s_K S260 x2 = 10 ∧
    w_X8_plant x2 x264 x267 S260 (fun x269 S268 =>
    s_K S268 x2 = 10 ∧
    w_X8_thrown x2 S268 (fun x271 S270 =>
    ((x271 = x261 → ((¬ x261 = 0 → wA_L_law_b715 mc ms (kc + c258) (ks + d259) x1 x2 x3 x4 x5 S270 (fun kc ks x1 x2 x3 x4 x5 S => wA_L_law_b28 mc ms  sc n kc ks x1 x2 x3 x4 x5 S) sc) ∧
    (x261 = 0 → s_K S270 x3 = 14 ∧
    vp_in (0 : Int32) (s_N S270 x3) ∧
    ∀ j275 : Int64, j275 = s_G S270 x3 (Int32.toNatClampNeg (0 : Int32)) →
    ∀ j276 : Int64, j276 = Int32.toInt64 x269 →
    ∀ x277 : Int32, x277 = lg_cmp j275 j276 →
    ((x277 = 0 → wA_L_law_b715 mc ms (kc + c258) (ks + d259) x1 x2 x3 x4 x5 S270 (fun kc ks x1 x2 x3 x4 x5 S => wA_L_law_b28 mc ms  sc n kc ks x1 x2 x3 x4 x5 S) sc) ∧
    (¬ x277 = 0 → False))))) ∧
    (¬ x271 = x261 → False)))))) ∧
    (x106 = 7 → ∀ x280 : Int32, x280 = x5 + (1 : Int32) →
    vp_in x280 sc.1 ∧
    ∀ x282 : Int32, x282 = sc.2 (Int32.toNatClampNeg x280) →
    ∀ x283 : Int32, x283 = x5 + (2 : Int32) →
    vp_in x283 sc.1 ∧
    ∀ x285 : Int32, x285 = sc.2 (Int32.toNatClampNeg x283) →
    ∃ c286 d287 : Nat, kc + c286 ≤ mc ∧ ks + d287 ≤ ms ∧
    wA_L_help c286 d287 x1 x282 x285 x3 S (fun x289 S288 =>
    ∀ x290 : Int32, x290 = x5 + (1 : Int32) →
    vp_in x290 sc.1 ∧
    ∀ x292 : Int32, x292 = sc.2 (Int32.toNatClampNeg x290) →
    ∀ x293 : Int32, x293 = x5 + (2 : Int32) →
    vp_in x293 sc.1 ∧
    ∀ x295 : Int32, x295 = sc.2 (Int32.toNatClampNeg x293) →
    s_K S288 x2 = 10 ∧
    w_X8_help x2 x292 x295 S288 (fun x297 S296 =>
    s_K S296 x2 = 10 ∧
    w_X8_thrown x2 S296 (fun x299 S298 =>
    ((x299 = x289 → ((¬ x289 = 0 → wA_L_law_b783 mc ms (kc + c286) (ks + d287) x1 x2 x3 x4 x5 S298 (fun kc ks x1 x2 x3 x4 x5 S => wA_L_law_b28 mc ms  sc n kc ks x1 x2 x3 x4 x5 S) sc) ∧
    (x289 = 0 → s_K S298 x3 = 14 ∧
    vp_in (0 : Int32) (s_N S298 x3) ∧
    ∀ j303 : Int64, j303 = s_G S298 x3 (Int32.toNatClampNeg (0 : Int32)) →
    ∀ j304 : Int64, j304 = Int32.toInt64 x297 →
    ∀ x305 : Int32, x305 = lg_cmp j303 j304 →
    ((x305 = 0 → wA_L_law_b783 mc ms (kc + c286) (ks + d287) x1 x2 x3 x4 x5 S298 (fun kc ks x1 x2 x3 x4 x5 S => wA_L_law_b28 mc ms  sc n kc ks x1 x2 x3 x4 x5 S) sc) ∧
    (¬ x305 = 0 → False))))) ∧
    (¬ x299 = x289 → False)))))) ∧
    (x106 = 8 → ∀ x308 : Int32, x308 = x5 + (1 : Int32) →
    vp_in x308 sc.1 ∧
    ∀ x310 : Int32, x310 = sc.2 (Int32.toNatClampNeg x308) →
    ∀ x311 : Int32, x311 = x5 + (2 : Int32) →
    vp_in x311 sc.1 ∧
    ∀ x313 : Int32, x313 = sc.2 (Int32.toNatClampNeg x311) →
    ((x313 = 0 → wA_L_law_b807 mc ms kc ks x1 x2 x3 x4 x5 (0 : Int32) x310 x1 S (fun kc ks x1 x2 x3 x4 x5 S => wA_L_law_b28 mc ms  sc n kc ks x1 x2 x3 x4 x5 S) sc) ∧
    (¬ x313 = 0 → wA_L_law_b807 mc ms kc ks x1 x2 x3 x4 x5 (1 : Int32) x310 x1 S (fun kc ks x1 x2 x3 x4 x5 S => wA_L_law_b28 mc ms  sc n kc ks x1 x2 x3 x4 x5 S) sc))) ∧
    (x106 = 9 → ∀ x316 : Int32, x316 = x5 + (1 : Int32) →
    vp_in x316 sc.1 ∧
    ∀ x318 : Int32, x318 = sc.2 (Int32.toNatClampNeg x316) →
    ∀ x319 : Int32, x319 = x5 + (2 : Int32) →
    vp_in x319 sc.1 ∧
    ∀ x321 : Int32, x321 = sc.2 (Int32.toNatClampNeg x319) →
    ((x321 = 0 → wA_L_law_b891 mc ms kc ks x1 x2 x3 x4 x5 (0 : Int32) x318 x1 S (fun kc ks x1 x2 x3 x4 x5 S => wA_L_law_b28 mc ms  sc n kc ks x1 x2 x3 x4 x5 S) sc) ∧
    (¬ x321 = 0 → wA_L_law_b891 mc ms kc ks x1 x2 x3 x4 x5 (1 : Int32) x318 x1 S (fun kc ks x1 x2 x3 x4 x5 S => wA_L_law_b28 mc ms  sc n kc ks x1 x2 x3 x4 x5 S) sc))) ∧
    (x106 = 10 → ∀ x324 : Int32, x324 = x5 + (1 : Int32) →
    vp_in x324 sc.1 ∧
    ∀ x326 : Int32, x326 = sc.2 (Int32.toNatClampNeg x324) →
    ∃ c327 d328 : Nat, kc + c327 ≤ mc ∧ ks + d328 ≤ ms ∧
    wA_L_cut c327 d328 x1 x326 x3 S (fun x330 S329 =>
    ∀ x331 : Int32, x331 = x5 + (1 : Int32) →
    vp_in x331 sc.1 ∧
    ∀ x333 : Int32, x333 = sc.2 (Int32.toNatClampNeg x331) →
    s_K S329 x2 = 10 ∧
    w_X8_cut x2 x333 S329 (fun x335 S334 =>
    s_K S334 x2 = 10 ∧
    w_X8_thrown x2 S334 (fun x337 S336 =>
    ((x337 = x330 → ((¬ x330 = 0 → wA_L_law_b1007 mc ms (kc + c327) (ks + d328) x1 x2 x3 x4 x5 S336 (fun kc ks x1 x2 x3 x4 x5 S => wA_L_law_b28 mc ms  sc n kc ks x1 x2 x3 x4 x5 S) sc) ∧
    (x330 = 0 → s_K S336 x3 = 14 ∧
    vp_in (0 : Int32) (s_N S336 x3) ∧
    ∀ j341 : Int64, j341 = s_G S336 x3 (Int32.toNatClampNeg (0 : Int32)) →
    ∀ j342 : Int64, j342 = Int32.toInt64 x335 →
    ∀ x343 : Int32, x343 = lg_cmp j341 j342 →
    ((x343 = 0 → wA_L_law_b1007 mc ms (kc + c327) (ks + d328) x1 x2 x3 x4 x5 S336 (fun kc ks x1 x2 x3 x4 x5 S => wA_L_law_b28 mc ms  sc n kc ks x1 x2 x3 x4 x5 S) sc) ∧
    (¬ x343 = 0 → False))))) ∧
    (¬ x337 = x330 → False)))))) ∧
    (x106 = 11 → ∀ x346 : Int32, x346 = x5 + (1 : Int32) →
    vp_in x346 sc.1 ∧
    ∀ x348 : Int32, x348 = sc.2 (Int32.toNatClampNeg x346) →
    ∀ x349 : Int32, x349 = x5 + (2 : Int32) →
    vp_in x349 sc.1 ∧
    ∀ x351 : Int32, x351 = sc.2 (Int32.toNatClampNeg x349) →
    ∀ x352 : Int32, x352 = x5 + (3 : Int32) →
    vp_in x352 sc.1 ∧
    ∀ x354 : Int32, x354 = sc.2 (Int32.toNatClampNeg x352) →
    ∃ c355 d356 : Nat, kc + c355 ≤ mc ∧ ks + d356 ≤ ms ∧
    wA_L_day c355 d356 x1 x348 x351 x354 x3 S (fun x358 S357 =>
    ∀ x359 : Int32, x359 = x5 + (1 : Int32) →
    vp_in x359 sc.1 ∧
    ∀ x361 : Int32, x361 = sc.2 (Int32.toNatClampNeg x359) →
    ∀ x362 : Int32, x362 = x5 + (2 : Int32) →
    vp_in x362 sc.1 ∧
    ∀ x364 : Int32, x364 = sc.2 (Int32.toNatClampNeg x362) →
    ∀ x365 : Int32, x365 = x5 + (3 : Int32) →
    vp_in x365 sc.1 ∧
    ∀ x367 : Int32, x367 = sc.2 (Int32.toNatClampNeg x365) →
    s_K S357 x2 = 10 ∧
    w_X8_day x2 x361 x364 x367 S357 (fun x369 S368 =>
    s_K S368 x2 = 10 ∧
    w_X8_thrown x2 S368 (fun x371 S370 =>
    ((x371 = x358 → ((¬ x358 = 0 → wA_L_law_b1087 mc ms (kc + c355) (ks + d356) x1 x2 x3 x4 x5 S370 (fun kc ks x1 x2 x3 x4 x5 S => wA_L_law_b28 mc ms  sc n kc ks x1 x2 x3 x4 x5 S) sc) ∧
    (x358 = 0 → s_K S370 x3 = 14 ∧
    vp_in (0 : Int32) (s_N S370 x3) ∧
    ∀ j375 : Int64, j375 = s_G S370 x3 (Int32.toNatClampNeg (0 : Int32)) →
    ∀ j376 : Int64, j376 = Int32.toInt64 x369 →
    ∀ x377 : Int32, x377 = lg_cmp j375 j376 →
    ((x377 = 0 → wA_L_law_b1087 mc ms (kc + c355) (ks + d356) x1 x2 x3 x4 x5 S370 (fun kc ks x1 x2 x3 x4 x5 S => wA_L_law_b28 mc ms  sc n kc ks x1 x2 x3 x4 x5 S) sc) ∧
    (¬ x377 = 0 → False))))) ∧
    (¬ x371 = x358 → False)))))) ∧
    (x106 = 12 → ∀ x380 : Int32, x380 = x5 + (1 : Int32) →
    vp_in x380 sc.1 ∧
    ∀ x382 : Int32, x382 = sc.2 (Int32.toNatClampNeg x380) →
    ∃ c383 d384 : Nat, kc + c383 ≤ mc ∧ ks + d384 ≤ ms ∧
    wA_L_inspect c383 d384 x1 x382 x3 S (fun x386 S385 =>
    ∀ x387 : Int32, x387 = x5 + (1 : Int32) →
    vp_in x387 sc.1 ∧
    ∀ x389 : Int32, x389 = sc.2 (Int32.toNatClampNeg x387) →
    s_K S385 x2 = 10 ∧
    w_X8_inspect x2 x389 S385 (fun x391 S390 =>
    s_K S390 x2 = 10 ∧
    w_X8_thrown x2 S390 (fun x393 S392 =>
    ((x393 = x386 → ((¬ x386 = 0 → wA_L_law_b1143 mc ms (kc + c383) (ks + d384) x1 x2 x3 x4 x5 S392 (fun kc ks x1 x2 x3 x4 x5 S => wA_L_law_b28 mc ms  sc n kc ks x1 x2 x3 x4 x5 S) sc) ∧
    (x386 = 0 → s_K S392 x3 = 14 ∧
    vp_in (0 : Int32) (s_N S392 x3) ∧
    ∀ j397 : Int64, j397 = s_G S392 x3 (Int32.toNatClampNeg (0 : Int32)) →
    ∀ j398 : Int64, j398 = Int32.toInt64 x391 →
    ∀ x399 : Int32, x399 = lg_cmp j397 j398 →
    ((x399 = 0 → wA_L_law_b1143 mc ms (kc + c383) (ks + d384) x1 x2 x3 x4 x5 S392 (fun kc ks x1 x2 x3 x4 x5 S => wA_L_law_b28 mc ms  sc n kc ks x1 x2 x3 x4 x5 S) sc) ∧
    (¬ x399 = 0 → False))))) ∧
    (¬ x393 = x386 → False)))))) ∧
    (x106 = 13 → ∀ x402 : Int32, x402 = x5 + (1 : Int32) →
    vp_in x402 sc.1 ∧
    ∀ x404 : Int32, x404 = sc.2 (Int32.toNatClampNeg x402) →
    ∀ x405 : Int32, x405 = x5 + (2 : Int32) →
    vp_in x405 sc.1 ∧
    ∀ x407 : Int32, x407 = sc.2 (Int32.toNatClampNeg x405) →
    ∃ c408 d409 : Nat, kc + c408 ≤ mc ∧ ks + d409 ≤ ms ∧
    wA_L_sell c408 d409 x1 x404 x407 x3 S (fun x411 S410 =>
    ∀ x412 : Int32, x412 = x5 + (1 : Int32) →
    vp_in x412 sc.1 ∧
    ∀ x414 : Int32, x414 = sc.2 (Int32.toNatClampNeg x412) →
    ∀ x415 : Int32, x415 = x5 + (2 : Int32) →
    vp_in x415 sc.1 ∧
    ∀ x417 : Int32, x417 = sc.2 (Int32.toNatClampNeg x415) →
    s_K S410 x2 = 10 ∧
    w_X8_sell x2 x414 x417 S410 (fun x419 S418 =>
    s_K S418 x2 = 10 ∧
    w_X8_thrown x2 S418 (fun x421 S420 =>
    ((x421 = x411 → ((¬ x411 = 0 → wA_L_law_b1211 mc ms (kc + c408) (ks + d409) x1 x2 x3 x4 x5 S420 (fun kc ks x1 x2 x3 x4 x5 S => wA_L_law_b28 mc ms  sc n kc ks x1 x2 x3 x4 x5 S) sc) ∧
    (x411 = 0 → s_K S420 x3 = 14 ∧
    vp_in (0 : Int32) (s_N S420 x3) ∧
    ∀ j425 : Int64, j425 = s_G S420 x3 (Int32.toNatClampNeg (0 : Int32)) →
    ∀ j426 : Int64, j426 = Int32.toInt64 x419 →
    ∀ x427 : Int32, x427 = lg_cmp j425 j426 →
    ((x427 = 0 → wA_L_law_b1211 mc ms (kc + c408) (ks + d409) x1 x2 x3 x4 x5 S420 (fun kc ks x1 x2 x3 x4 x5 S => wA_L_law_b28 mc ms  sc n kc ks x1 x2 x3 x4 x5 S) sc) ∧
    (¬ x427 = 0 → False))))) ∧
    (¬ x421 = x411 → False)))))) ∧
    (x106 = 14 → ∀ x430 : Int32, x430 = x5 + (1 : Int32) →
    vp_in x430 sc.1 ∧
    ∀ x432 : Int32, x432 = sc.2 (Int32.toNatClampNeg x430) →
    ∃ c433 d434 : Nat, kc + c433 ≤ mc ∧ ks + d434 ≤ ms ∧
    wA_L_vote c433 d434 x1 x432 x3 S (fun x436 S435 =>
    ∀ x437 : Int32, x437 = x5 + (1 : Int32) →
    vp_in x437 sc.1 ∧
    ∀ x439 : Int32, x439 = sc.2 (Int32.toNatClampNeg x437) →
    s_K S435 x2 = 10 ∧
    w_X8_vote x2 x439 S435 (fun x441 S440 =>
    s_K S440 x2 = 10 ∧
    w_X8_thrown x2 S440 (fun x443 S442 =>
    ((x443 = x436 → ((¬ x436 = 0 → wA_L_law_b1267 mc ms (kc + c433) (ks + d434) x1 x2 x3 x4 x5 S442 (fun kc ks x1 x2 x3 x4 x5 S => wA_L_law_b28 mc ms  sc n kc ks x1 x2 x3 x4 x5 S) sc) ∧
    (x436 = 0 → s_K S442 x3 = 14 ∧
    vp_in (0 : Int32) (s_N S442 x3) ∧
    ∀ j447 : Int64, j447 = s_G S442 x3 (Int32.toNatClampNeg (0 : Int32)) →
    ∀ j448 : Int64, j448 = Int32.toInt64 x441 →
    ∀ x449 : Int32, x449 = lg_cmp j447 j448 →
    ((x449 = 0 → wA_L_law_b1267 mc ms (kc + c433) (ks + d434) x1 x2 x3 x4 x5 S442 (fun kc ks x1 x2 x3 x4 x5 S => wA_L_law_b28 mc ms  sc n kc ks x1 x2 x3 x4 x5 S) sc) ∧
    (¬ x449 = 0 → False))))) ∧
    (¬ x443 = x436 → False)))))) ∧
    (x106 = 15 → ∀ x452 : Int32, x452 = x5 + (1 : Int32) →
    vp_in x452 sc.1 ∧
    ∀ x454 : Int32, x454 = sc.2 (Int32.toNatClampNeg x452) →
    ∀ x455 : Int32, x455 = x5 + (2 : Int32) →
    vp_in x455 sc.1 ∧
    ∀ x457 : Int32, x457 = sc.2 (Int32.toNatClampNeg x455) →
    ∃ c458 d459 : Nat, kc + c458 ≤ mc ∧ ks + d459 ≤ ms ∧
    wA_L_ofField c458 d459 x1 x454 x457 x3 S (fun x461 S460 =>
    ∀ x462 : Int32, x462 = x5 + (1 : Int32) →
    vp_in x462 sc.1 ∧
    ∀ x464 : Int32, x464 = sc.2 (Int32.toNatClampNeg x462) →
    ∀ x465 : Int32, x465 = x5 + (2 : Int32) →
    vp_in x465 sc.1 ∧
    ∀ x467 : Int32, x467 = sc.2 (Int32.toNatClampNeg x465) →
    s_K S460 x2 = 10 ∧
    w_X8_ofField x2 x464 x467 S460 (fun x469 S468 =>
    s_K S468 x2 = 10 ∧
    w_X8_thrown x2 S468 (fun x471 S470 =>
    ((x471 = x461 → ((¬ x461 = 0 → wA_L_law_b1335 mc ms (kc + c458) (ks + d459) x1 x2 x3 x4 x5 S470 (fun kc ks x1 x2 x3 x4 x5 S => wA_L_law_b28 mc ms  sc n kc ks x1 x2 x3 x4 x5 S) sc) ∧
    (x461 = 0 → s_K S470 x3 = 14 ∧
    vp_in (0 : Int32) (s_N S470 x3) ∧
    ∀ j475 : Int64, j475 = s_G S470 x3 (Int32.toNatClampNeg (0 : Int32)) →
    ∀ j476 : Int64, j476 = Int32.toInt64 x469 →
    ∀ x477 : Int32, x477 = lg_cmp j475 j476 →
    ((x477 = 0 → wA_L_law_b1335 mc ms (kc + c458) (ks + d459) x1 x2 x3 x4 x5 S470 (fun kc ks x1 x2 x3 x4 x5 S => wA_L_law_b28 mc ms  sc n kc ks x1 x2 x3 x4 x5 S) sc) ∧
    (¬ x477 = 0 → False))))) ∧
    (¬ x471 = x461 → False)))))) ∧
    (x106 = 16 → ∀ x480 : Int32, x480 = x5 + (1 : Int32) →
    vp_in x480 sc.1 ∧
    ∀ x482 : Int32, x482 = sc.2 (Int32.toNatClampNeg x480) →
    ∀ x483 : Int32, x483 = x5 + (2 : Int32) →
    vp_in x483 sc.1 ∧
    ∀ x485 : Int32, x485 = sc.2 (Int32.toNatClampNeg x483) →
    ∃ c486 d487 : Nat, kc + c486 ≤ mc ∧ ks + d487 ≤ ms ∧
    wA_L_ofOwner c486 d487 x1 x482 x485 x3 S (fun x489 S488 =>
    ∀ x490 : Int32, x490 = x5 + (1 : Int32) →
    vp_in x490 sc.1 ∧
    ∀ x492 : Int32, x492 = sc.2 (Int32.toNatClampNeg x490) →
    ∀ x493 : Int32, x493 = x5 + (2 : Int32) →
    vp_in x493 sc.1 ∧
    ∀ x495 : Int32, x495 = sc.2 (Int32.toNatClampNeg x493) →
    s_K S488 x2 = 10 ∧
    ∃ c496 d497 : Nat, (kc + c486) + c496 ≤ mc ∧ (ks + d487) + d497 ≤ ms ∧
    wA_X8_ofOwner c496 d497 x2 x492 x495 S488 (fun x499 S498 =>
    s_K S498 x2 = 10 ∧
    w_X8_thrown x2 S498 (fun x501 S500 =>
    ((x501 = x489 → ((¬ x489 = 0 → wA_L_law_b1403 mc ms ((kc + c486) + c496) ((ks + d487) + d497) x1 x2 x3 x4 x5 S500 (fun kc ks x1 x2 x3 x4 x5 S => wA_L_law_b28 mc ms  sc n kc ks x1 x2 x3 x4 x5 S) sc) ∧
    (x489 = 0 → s_K S500 x3 = 14 ∧
    vp_in (0 : Int32) (s_N S500 x3) ∧
    ∀ j505 : Int64, j505 = s_G S500 x3 (Int32.toNatClampNeg (0 : Int32)) →
    ∀ j506 : Int64, j506 = Int32.toInt64 x499 →
    ∀ x507 : Int32, x507 = lg_cmp j505 j506 →
    ((x507 = 0 → wA_L_law_b1403 mc ms ((kc + c486) + c496) ((ks + d487) + d497) x1 x2 x3 x4 x5 S500 (fun kc ks x1 x2 x3 x4 x5 S => wA_L_law_b28 mc ms  sc n kc ks x1 x2 x3 x4 x5 S) sc) ∧
    (¬ x507 = 0 → False))))) ∧
    (¬ x501 = x489 → False)))))) ∧
    (x106 = 17 → ∀ x510 : Int32, x510 = x5 + (1 : Int32) →
    vp_in x510 sc.1 ∧
    ∀ x512 : Int32, x512 = sc.2 (Int32.toNatClampNeg x510) →
    ∀ x513 : Int32, x513 = x5 + (2 : Int32) →
    vp_in x513 sc.1 ∧
    ∀ x515 : Int32, x515 = sc.2 (Int32.toNatClampNeg x513) →
    ∃ c516 d517 : Nat, kc + c516 ≤ mc ∧ ks + d517 ≤ ms ∧
    wA_L_ofSociety c516 d517 x1 x512 x515 x3 S (fun x519 S518 =>
    ∀ x520 : Int32, x520 = x5 + (1 : Int32) →
    vp_in x520 sc.1 ∧
    ∀ x522 : Int32, x522 = sc.2 (Int32.toNatClampNeg x520) →
    ∀ x523 : Int32, x523 = x5 + (2 : Int32) →
    vp_in x523 sc.1 ∧
    ∀ x525 : Int32, x525 = sc.2 (Int32.toNatClampNeg x523) →
    s_K S518 x2 = 10 ∧
    ∃ c526 d527 : Nat, (kc + c516) + c526 ≤ mc ∧ (ks + d517) + d527 ≤ ms ∧
    wA_X8_ofSociety c526 d527 x2 x522 x525 S518 (fun x529 S528 =>
    s_K S528 x2 = 10 ∧
    w_X8_thrown x2 S528 (fun x531 S530 =>
    ((x531 = x519 → ((¬ x519 = 0 → wA_L_law_b1471 mc ms ((kc + c516) + c526) ((ks + d517) + d527) x1 x2 x3 x4 x5 S530 (fun kc ks x1 x2 x3 x4 x5 S => wA_L_law_b28 mc ms  sc n kc ks x1 x2 x3 x4 x5 S) sc) ∧
    (x519 = 0 → s_K S530 x3 = 14 ∧
    vp_in (0 : Int32) (s_N S530 x3) ∧
    ∀ j535 : Int64, j535 = s_G S530 x3 (Int32.toNatClampNeg (0 : Int32)) →
    ∀ j536 : Int64, j536 = Int32.toInt64 x529 →
    ∀ x537 : Int32, x537 = lg_cmp j535 j536 →
    ((x537 = 0 → wA_L_law_b1471 mc ms ((kc + c516) + c526) ((ks + d517) + d527) x1 x2 x3 x4 x5 S530 (fun kc ks x1 x2 x3 x4 x5 S => wA_L_law_b28 mc ms  sc n kc ks x1 x2 x3 x4 x5 S) sc) ∧
    (¬ x537 = 0 → False))))) ∧
    (¬ x531 = x519 → False)))))) ∧
    (x106 = 18 → ∀ x540 : Int32, x540 = x5 + (1 : Int32) →
    vp_in x540 sc.1 ∧
    ∀ x542 : Int32, x542 = sc.2 (Int32.toNatClampNeg x540) →
    ∃ c543 d544 : Nat, kc + c543 ≤ mc ∧ ks + d544 ≤ ms ∧
    wA_L_water c543 d544 x1 x542 x3 S (fun x546 S545 =>
    ∀ x547 : Int32, x547 = x5 + (1 : Int32) →
    vp_in x547 sc.1 ∧
    ∀ x549 : Int32, x549 = sc.2 (Int32.toNatClampNeg x547) →
    s_K S545 x2 = 10 ∧
    ∃ c550 d551 : Nat, (kc + c543) + c550 ≤ mc ∧ (ks + d544) + d551 ≤ ms ∧
    wA_X8_water c550 d551 x2 x549 S545 (fun x553 S552 =>
    s_K S552 x2 = 10 ∧
    w_X8_thrown x2 S552 (fun x555 S554 =>
    ((x555 = x546 → ((¬ x546 = 0 → wA_L_law_b1527 mc ms ((kc + c543) + c550) ((ks + d544) + d551) x1 x2 x3 x4 x5 S554 (fun kc ks x1 x2 x3 x4 x5 S => wA_L_law_b28 mc ms  sc n kc ks x1 x2 x3 x4 x5 S) sc) ∧
    (x546 = 0 → s_K S554 x3 = 14 ∧
    vp_in (0 : Int32) (s_N S554 x3) ∧
    ∀ j559 : Int64, j559 = s_G S554 x3 (Int32.toNatClampNeg (0 : Int32)) →
    ∀ j560 : Int64, j560 = Int32.toInt64 x553 →
    ∀ x561 : Int32, x561 = lg_cmp j559 j560 →
    ((x561 = 0 → wA_L_law_b1527 mc ms ((kc + c543) + c550) ((ks + d544) + d551) x1 x2 x3 x4 x5 S554 (fun kc ks x1 x2 x3 x4 x5 S => wA_L_law_b28 mc ms  sc n kc ks x1 x2 x3 x4 x5 S) sc) ∧
    (¬ x561 = 0 → False))))) ∧
    (¬ x555 = x546 → False)))))) ∧
    (x106 = 19 → s_K S x1 = 8 ∧
    w_X6_isClosed x1 S (fun x565 S564 =>
    s_K S564 x2 = 10 ∧
    ∃ c566 d567 : Nat, kc + c566 ≤ mc ∧ ks + d567 ≤ ms ∧
    wA_X8_isClosed c566 d567 x2 S564 (fun x569 S568 =>
    ((x565 = x569 → wA_L_law_b2022 mc ms (kc + c566) (ks + d567) x1 x2 x3 x4 x5 S568 (fun kc ks x1 x2 x3 x4 x5 S => wA_L_law_b28 mc ms  sc n kc ks x1 x2 x3 x4 x5 S) sc) ∧
    (¬ x565 = x569 → False))))) ∧
    (x106 = 20 → ∀ x572 : Int32, x572 = x5 + (1 : Int32) →
    vp_in x572 sc.1 ∧
    ∀ x574 : Int32, x574 = sc.2 (Int32.toNatClampNeg x572) →
    ∀ x575 : Int32, x575 = x5 + (2 : Int32) →
    vp_in x575 sc.1 ∧
    ∀ x577 : Int32, x577 = sc.2 (Int32.toNatClampNeg x575) →
    ((x577 = 0 → wA_L_law_b1564 mc ms kc ks x1 x2 x3 x4 x5 (0 : Int32) x574 x1 S (fun kc ks x1 x2 x3 x4 x5 S => wA_L_law_b28 mc ms  sc n kc ks x1 x2 x3 x4 x5 S) sc) ∧
    (¬ x577 = 0 → wA_L_law_b1564 mc ms kc ks x1 x2 x3 x4 x5 (1 : Int32) x574 x1 S (fun kc ks x1 x2 x3 x4 x5 S => wA_L_law_b28 mc ms  sc n kc ks x1 x2 x3 x4 x5 S) sc))) ∧
    (x106 = 21 → ∀ x580 : Int32, x580 = x5 + (1 : Int32) →
    vp_in x580 sc.1 ∧
    ∀ x582 : Int32, x582 = sc.2 (Int32.toNatClampNeg x580) →
    ∃ c583 d584 : Nat, kc + c583 ≤ mc ∧ ks + d584 ≤ ms ∧
    wA_L_many c583 d584 x1 x582 x3 S (fun x586 S585 =>
    ∀ x587 : Int32, x587 = x5 + (1 : Int32) →
    vp_in x587 sc.1 ∧
    ∀ x589 : Int32, x589 = sc.2 (Int32.toNatClampNeg x587) →
    s_K S585 x2 = 10 ∧
    ∃ c590 d591 : Nat, (kc + c583) + c590 ≤ mc ∧ (ks + d584) + d591 ≤ ms ∧
    wA_X8_many c590 d591 x2 x589 S585 (fun x593 S592 =>
    s_K S592 x2 = 10 ∧
    w_X8_thrown x2 S592 (fun x595 S594 =>
    ((x595 = x586 → ((¬ x586 = 0 → wA_L_law_b1680 mc ms ((kc + c583) + c590) ((ks + d584) + d591) x1 x2 x3 x4 x5 S594 (fun kc ks x1 x2 x3 x4 x5 S => wA_L_law_b28 mc ms  sc n kc ks x1 x2 x3 x4 x5 S) sc) ∧
    (x586 = 0 → s_K S594 x3 = 14 ∧
    vp_in (0 : Int32) (s_N S594 x3) ∧
    ∀ j599 : Int64, j599 = s_G S594 x3 (Int32.toNatClampNeg (0 : Int32)) →
    ∀ j600 : Int64, j600 = Int32.toInt64 x593 →
    ∀ x601 : Int32, x601 = lg_cmp j599 j600 →
    ((x601 = 0 → wA_L_law_b1680 mc ms ((kc + c583) + c590) ((ks + d584) + d591) x1 x2 x3 x4 x5 S594 (fun kc ks x1 x2 x3 x4 x5 S => wA_L_law_b28 mc ms  sc n kc ks x1 x2 x3 x4 x5 S) sc) ∧
    (¬ x601 = 0 → False))))) ∧
    (¬ x595 = x586 → False)))))) ∧
    (x106 = 22 → ∀ x604 : Int32, x604 = x5 + (1 : Int32) →
    vp_in x604 sc.1 ∧
    ∀ x606 : Int32, x606 = sc.2 (Int32.toNatClampNeg x604) →
    ∃ c607 d608 : Nat, kc + c607 ≤ mc ∧ ks + d608 ≤ ms ∧
    wA_L_meanDepth c607 d608 x1 x606 x4 S (fun x610 S609 =>
    ∀ x611 : Int32, x611 = x5 + (1 : Int32) →
    vp_in x611 sc.1 ∧
    ∀ x613 : Int32, x613 = sc.2 (Int32.toNatClampNeg x611) →
    s_K S609 x2 = 10 ∧
    w_X8_meanDepth x2 x613 S609 (fun f615 S614 =>
    s_K S614 x2 = 10 ∧
    w_X8_thrown x2 S614 (fun x617 S616 =>
    ((x617 = x610 → ((¬ x610 = 0 → wA_L_law_b1757 mc ms (kc + c607) (ks + d608) x1 x2 x3 x4 x5 S616 (fun kc ks x1 x2 x3 x4 x5 S => wA_L_law_b28 mc ms  sc n kc ks x1 x2 x3 x4 x5 S) sc) ∧
    (x610 = 0 → s_K S616 x4 = 15 ∧
    vp_in (0 : Int32) (s_N S616 x4) ∧
    ∀ f621 : UInt64, f621 = s_D S616 x4 (Int32.toNatClampNeg (0 : Int32)) →
    ∀ x622 : Int32, x622 = Op.cmpValue (FP.dcmp f621 f615) CmpOp.l →
    ((x622 = 0 → wA_L_law_b1757 mc ms (kc + c607) (ks + d608) x1 x2 x3 x4 x5 S616 (fun kc ks x1 x2 x3 x4 x5 S => wA_L_law_b28 mc ms  sc n kc ks x1 x2 x3 x4 x5 S) sc) ∧
    (¬ x622 = 0 → vp_in (0 : Int32) (s_N S616 x4) ∧
    ∀ f625 : UInt64, f625 = s_D S616 x4 (Int32.toNatClampNeg (0 : Int32)) →
    vp_in (0 : Int32) (s_N S616 x4) ∧
    ∀ f627 : UInt64, f627 = s_D S616 x4 (Int32.toNatClampNeg (0 : Int32)) →
    ∀ x628 : Int32, x628 = Op.cmpValue (FP.dcmp f625 f627) CmpOp.l →
    ((x628 = 0 → wA_L_law_b1755 mc ms (kc + c607) (ks + d608)  S616  sc) ∧
    (¬ x628 = 0 → ∀ x630 : Int32, x630 = Op.cmpValue (FP.dcmp f615 f615) CmpOp.l →
    ((¬ x630 = 0 → wA_L_law_b1757 mc ms (kc + c607) (ks + d608) x1 x2 x3 x4 x5 S616 (fun kc ks x1 x2 x3 x4 x5 S => wA_L_law_b28 mc ms  sc n kc ks x1 x2 x3 x4 x5 S) sc) ∧
    (x630 = 0 → wA_L_law_b1755 mc ms (kc + c607) (ks + d608)  S616  sc))))))))) ∧
    (¬ x617 = x610 → False)))))) ∧
    (x106 = 23 → ∀ x633 : Int32, x633 = x5 + (1 : Int32) →
    vp_in x633 sc.1 ∧
    ∀ x635 : Int32, x635 = sc.2 (Int32.toNatClampNeg x633) →
    ∃ c636 d637 : Nat, kc + c636 ≤ mc ∧ ks + d637 ≤ ms ∧
    wA_L_suspect c636 d637 x1 x635 x3 S (fun x639 S638 =>
    ∀ x640 : Int32, x640 = x5 + (1 : Int32) →
    vp_in x640 sc.1 ∧
    ∀ x642 : Int32, x642 = sc.2 (Int32.toNatClampNeg x640) →
    s_K S638 x2 = 10 ∧
    w_X8_suspect x2 x642 S638 (fun x644 S643 =>
    s_K S643 x2 = 10 ∧
    w_X8_thrown x2 S643 (fun x646 S645 =>
    ((x646 = x639 → ((¬ x639 = 0 → wA_L_law_b1813 mc ms (kc + c636) (ks + d637) x1 x2 x3 x4 x5 S645 (fun kc ks x1 x2 x3 x4 x5 S => wA_L_law_b28 mc ms  sc n kc ks x1 x2 x3 x4 x5 S) sc) ∧
    (x639 = 0 → s_K S645 x3 = 14 ∧
    vp_in (0 : Int32) (s_N S645 x3) ∧
    ∀ j650 : Int64, j650 = s_G S645 x3 (Int32.toNatClampNeg (0 : Int32)) →
    ∀ j651 : Int64, j651 = Int32.toInt64 x644 →
    ∀ x652 : Int32, x652 = lg_cmp j650 j651 →
    ((x652 = 0 → wA_L_law_b1813 mc ms (kc + c636) (ks + d637) x1 x2 x3 x4 x5 S645 (fun kc ks x1 x2 x3 x4 x5 S => wA_L_law_b28 mc ms  sc n kc ks x1 x2 x3 x4 x5 S) sc) ∧
    (¬ x652 = 0 → False))))) ∧
    (¬ x646 = x639 → False)))))) ∧
    (x106 = 24 → ∀ x655 : Int32, x655 = x5 + (1 : Int32) →
    vp_in x655 sc.1 ∧
    ∀ x657 : Int32, x657 = sc.2 (Int32.toNatClampNeg x655) →
    ∀ x658 : Int32, x658 = x5 + (2 : Int32) →
    vp_in x658 sc.1 ∧
    ∀ x660 : Int32, x660 = sc.2 (Int32.toNatClampNeg x658) →
    ∃ c661 d662 : Nat, kc + c661 ≤ mc ∧ ks + d662 ≤ ms ∧
    wA_L_wouldYield c661 d662 x1 x657 x660 x3 S (fun x664 S663 =>
    ∀ x665 : Int32, x665 = x5 + (1 : Int32) →
    vp_in x665 sc.1 ∧
    ∀ x667 : Int32, x667 = sc.2 (Int32.toNatClampNeg x665) →
    ∀ x668 : Int32, x668 = x5 + (2 : Int32) →
    vp_in x668 sc.1 ∧
    ∀ x670 : Int32, x670 = sc.2 (Int32.toNatClampNeg x668) →
    s_K S663 x2 = 10 ∧
    ∃ c671 d672 : Nat, (kc + c661) + c671 ≤ mc ∧ (ks + d662) + d672 ≤ ms ∧
    wA_X8_wouldYield c671 d672 x2 x667 x670 S663 (fun x674 S673 =>
    s_K S673 x2 = 10 ∧
    w_X8_thrown x2 S673 (fun x676 S675 =>
    ((x676 = x664 → ((¬ x664 = 0 → wA_L_law_b1881 mc ms ((kc + c661) + c671) ((ks + d662) + d672) x1 x2 x3 x4 x5 S675 (fun kc ks x1 x2 x3 x4 x5 S => wA_L_law_b28 mc ms  sc n kc ks x1 x2 x3 x4 x5 S) sc) ∧
    (x664 = 0 → s_K S675 x3 = 14 ∧
    vp_in (0 : Int32) (s_N S675 x3) ∧
    ∀ j680 : Int64, j680 = s_G S675 x3 (Int32.toNatClampNeg (0 : Int32)) →
    ∀ j681 : Int64, j681 = Int32.toInt64 x674 →
    ∀ x682 : Int32, x682 = lg_cmp j680 j681 →
    ((x682 = 0 → wA_L_law_b1881 mc ms ((kc + c661) + c671) ((ks + d662) + d672) x1 x2 x3 x4 x5 S675 (fun kc ks x1 x2 x3 x4 x5 S => wA_L_law_b28 mc ms  sc n kc ks x1 x2 x3 x4 x5 S) sc) ∧
    (¬ x682 = 0 → False))))) ∧
    (¬ x676 = x664 → False)))))) ∧
    (x106 = 25 → ∀ x685 : Int32, x685 = x5 + (1 : Int32) →
    vp_in x685 sc.1 ∧
    ∀ x687 : Int32, x687 = sc.2 (Int32.toNatClampNeg x685) →
    ∃ c688 d689 : Nat, kc + c688 ≤ mc ∧ ks + d689 ≤ ms ∧
    wA_L_ripeIn c688 d689 x1 x687 x3 S (fun x691 S690 =>
    ∀ x692 : Int32, x692 = x5 + (1 : Int32) →
    vp_in x692 sc.1 ∧
    ∀ x694 : Int32, x694 = sc.2 (Int32.toNatClampNeg x692) →
    s_K S690 x2 = 10 ∧
    ∃ c695 d696 : Nat, (kc + c688) + c695 ≤ mc ∧ (ks + d689) + d696 ≤ ms ∧
    wA_X8_ripeIn c695 d696 x2 x694 S690 (fun x698 S697 =>
    s_K S697 x2 = 10 ∧
    w_X8_thrown x2 S697 (fun x700 S699 =>
    ((x700 = x691 → ((¬ x691 = 0 → wA_L_law_b1937 mc ms ((kc + c688) + c695) ((ks + d689) + d696) x1 x2 x3 x4 x5 S699 (fun kc ks x1 x2 x3 x4 x5 S => wA_L_law_b28 mc ms  sc n kc ks x1 x2 x3 x4 x5 S) sc) ∧
    (x691 = 0 → s_K S699 x3 = 14 ∧
    vp_in (0 : Int32) (s_N S699 x3) ∧
    ∀ j704 : Int64, j704 = s_G S699 x3 (Int32.toNatClampNeg (0 : Int32)) →
    ∀ j705 : Int64, j705 = Int32.toInt64 x698 →
    ∀ x706 : Int32, x706 = lg_cmp j704 j705 →
    ((x706 = 0 → wA_L_law_b1937 mc ms ((kc + c688) + c695) ((ks + d689) + d696) x1 x2 x3 x4 x5 S699 (fun kc ks x1 x2 x3 x4 x5 S => wA_L_law_b28 mc ms  sc n kc ks x1 x2 x3 x4 x5 S) sc) ∧
    (¬ x706 = 0 → False))))) ∧
    (¬ x700 = x691 → False)))))) ∧
    (x106 = 26 → ∀ x709 : Int32, x709 = x5 + (1 : Int32) →
    vp_in x709 sc.1 ∧
    ∀ x711 : Int32, x711 = sc.2 (Int32.toNatClampNeg x709) →
    ∀ x712 : Int32, x712 = x5 + (2 : Int32) →
    vp_in x712 sc.1 ∧
    ∀ x714 : Int32, x714 = sc.2 (Int32.toNatClampNeg x712) →
    ∃ c715 d716 : Nat, kc + c715 ≤ mc ∧ ks + d716 ≤ ms ∧
    wA_L_plan c715 d716 x1 x711 x714 x3 S (fun x718 S717 =>
    ∀ x719 : Int32, x719 = x5 + (1 : Int32) →
    vp_in x719 sc.1 ∧
    ∀ x721 : Int32, x721 = sc.2 (Int32.toNatClampNeg x719) →
    ∀ x722 : Int32, x722 = x5 + (2 : Int32) →
    vp_in x722 sc.1 ∧
    ∀ x724 : Int32, x724 = sc.2 (Int32.toNatClampNeg x722) →
    s_K S717 x2 = 10 ∧
    ∃ c725 d726 : Nat, (kc + c715) + c725 ≤ mc ∧ (ks + d716) + d726 ≤ ms ∧
    wA_X8_plan c725 d726 x2 x721 x724 S717 (fun x728 S727 =>
    s_K S727 x2 = 10 ∧
    w_X8_thrown x2 S727 (fun x730 S729 =>
    ((x730 = x718 → ((¬ x718 = 0 → wA_L_law_b2005 mc ms ((kc + c715) + c725) ((ks + d716) + d726) x1 x2 x3 x4 x5 S729 (fun kc ks x1 x2 x3 x4 x5 S => wA_L_law_b28 mc ms  sc n kc ks x1 x2 x3 x4 x5 S) sc) ∧
    (x718 = 0 → s_K S729 x3 = 14 ∧
    vp_in (0 : Int32) (s_N S729 x3) ∧
    ∀ j734 : Int64, j734 = s_G S729 x3 (Int32.toNatClampNeg (0 : Int32)) →
    ∀ j735 : Int64, j735 = Int32.toInt64 x728 →
    ∀ x736 : Int32, x736 = lg_cmp j734 j735 →
    ((x736 = 0 → wA_L_law_b2005 mc ms ((kc + c715) + c725) ((ks + d716) + d726) x1 x2 x3 x4 x5 S729 (fun kc ks x1 x2 x3 x4 x5 S => wA_L_law_b28 mc ms  sc n kc ks x1 x2 x3 x4 x5 S) sc) ∧
    (¬ x736 = 0 → False))))) ∧
    (¬ x730 = x718 → False)))))) ∧
    (x106 = 27 → s_K S x1 = 8 ∧
    w_X6_digest x1 S (fun j740 S739 =>
    s_K S739 x2 = 10 ∧
    ∃ c741 d742 : Nat, kc + c741 ≤ mc ∧ ks + d742 ≤ ms ∧
    wA_X8_digest c741 d742 x2 S739 (fun j744 S743 =>
    ∀ x745 : Int32, x745 = lg_cmp j740 j744 →
    ((x745 = 0 → wA_L_law_b2022 mc ms (kc + c741) (ks + d742) x1 x2 x3 x4 x5 S743 (fun kc ks x1 x2 x3 x4 x5 S => wA_L_law_b28 mc ms  sc n kc ks x1 x2 x3 x4 x5 S) sc) ∧
    (¬ x745 = 0 → False))))) ∧
    ((¬ x106 = 0 ∧ ¬ x106 = 1 ∧ ¬ x106 = 2 ∧ ¬ x106 = 3 ∧ ¬ x106 = 4 ∧ ¬ x106 = 5 ∧ ¬ x106 = 6 ∧ ¬ x106 = 7 ∧ ¬ x106 = 8 ∧ ¬ x106 = 9 ∧ ¬ x106 = 10 ∧ ¬ x106 = 11 ∧ ¬ x106 = 12 ∧ ¬ x106 = 13 ∧ ¬ x106 = 14 ∧ ¬ x106 = 15 ∧ ¬ x106 = 16 ∧ ¬ x106 = 17 ∧ ¬ x106 = 18 ∧ ¬ x106 = 19 ∧ ¬ x106 = 20 ∧ ¬ x106 = 21 ∧ ¬ x106 = 22 ∧ ¬ x106 = 23 ∧ ¬ x106 = 24 ∧ ¬ x106 = 25 ∧ ¬ x106 = 26 ∧ ¬ x106 = 27) → wA_L_law_b2022 mc ms kc ks x1 x2 x3 x4 x5 S (fun kc ks x1 x2 x3 x4 x5 S => wA_L_law_b28 mc ms  sc n kc ks x1 x2 x3 x4 x5 S) sc))))
def wA_L_law_b0 (mc ms kc ks : Nat)  (S : sT)  (sc : Nat × (Nat → Int32)) : Prop :=
(kc + 1) ≤ mc ∧ (ks + 2) ≤ ms ∧
    ∀ q101 : Nat, s_fr S q101 →
    ∀ S102 : sT, S102 = s_nw S q101 8 0 →
    ∃ c103 d104 : Nat, (kc + 1) + c103 ≤ mc ∧ (ks + 2) + d104 ≤ ms ∧
    wA_X6_init c103 d104 q101 S102 (fun S105 =>
    (((kc + 1) + c103) + 1) ≤ mc ∧ (((ks + 2) + d104) + 3) ≤ ms ∧
    ∀ q106 : Nat, s_fr S105 q106 →
    ∀ S107 : sT, S107 = s_nw S105 q106 10 0 →
    ∃ c108 d109 : Nat, (((kc + 1) + c103) + 1) + c108 ≤ mc ∧ (((ks + 2) + d104) + 3) + d109 ≤ ms ∧
    wA_X8_init c108 d109 q106 S107 (fun S110 =>
    (((((kc + 1) + c103) + 1) + c108) + 1) ≤ mc ∧ (((((ks + 2) + d104) + 3) + d109) + 1) ≤ ms ∧
    ∀ q111 : Nat, s_fr S110 q111 →
    ∀ S112 : sT, S112 = s_nw S110 q111 14 1 →
    ((((((kc + 1) + c103) + 1) + c108) + 1) + 1) ≤ mc ∧ ((((((ks + 2) + d104) + 3) + d109) + 1) + 1) ≤ ms ∧
    ∀ q113 : Nat, s_fr S112 q113 →
    ∀ S114 : sT, S114 = s_nw S112 q113 15 1 →
    ∃ n9 : Nat, wA_L_law_b28 mc ms  sc n9 ((((((kc + 1) + c103) + 1) + c108) + 1) + 1) ((((((ks + 2) + d104) + 3) + d109) + 1) + 1) q101 q106 q111 q113 (0 : Int32) S114))
def rA_L_law (mc ms : Nat) : Room := x_rm 13 498 mc ms
set_option maxHeartbeats 4000000 in
theorem tA_L_law_b2022 {sc : Nat × (Nat → Int32)} {mc ms : Nat} (C : x_C p s m args c cL_law RL gg) (hml : c.maxLocals = 9) (hst : l.stackTraces = false) (hX : va_X bb sc.1 sc.2 s s.heap) (hbl : bb < s.heap.size) (hbA : ¬ s_A gg bb) (hret : ∀ (pc : Nat) (H : Heap) (ls : Array Slot) (locs : List Loc), decode cL_law pc = .ok (.ireturn, 1) → (∀ q ∈ locs, s_A gg q.base) → W p l e (rA_L_law mc ms) s m args below meth c H locs mc ms QQ (F0 m pc ls [.int 1])) {kc ks : Nat} (hk : kc ≤ mc ∧ ks ≤ ms) {x1 : Nat} {x2 : Nat} {x3 : Nat} {x4 : Nat} {x5 : Int32} {kk28 : Nat → Nat → Nat → Nat → Nat → Nat → Int32 → sT → Prop} {S : sT} (hk28 : ∀ (kc ks : Nat) (x1 : Nat) (x2 : Nat) (x3 : Nat) (x4 : Nat) (x5 : Int32) (S : sT), kc ≤ mc ∧ ks ≤ ms → kk28 kc ks x1 x2 x3 x4 x5 S → x_X p l e (rA_L_law mc ms) s m args below meth c gg 9 kc ks QQ 28 [(0, .ref bb), (1, .ref x1), (2, .ref x2), (3, .ref x3), (4, .ref x4), (5, .int x5)] [] S) (h : wA_L_law_b2022 mc ms kc ks x1 x2 x3 x4 x5 S kk28 sc) : x_X p l e (rA_L_law mc ms) s m args below meth c gg 9 kc ks QQ 2022 [(0, .ref bb), (1, .ref x1), (2, .ref x2), (3, .ref x3), (4, .ref x4), (5, .int x5)] [] S := by
  unfold wA_L_law_b2022 at h
  obtain ⟨hx, hb, -⟩ := id C
  intro H locs ls hR hS hl
  obtain ⟨x101, ex101⟩ : ∃ z : Int32, z = x5 + 5 := ⟨_, rfl⟩
  replace h := h x101 ex101
  refine lv_iinc (v := x101) (lv' := [(5, .int x101), (0, .ref bb), (1, .ref x1), (2, .ref x2), (3, .ref x3), (4, .ref x4)]) hx hb dL_law_2022 hl (k := 5) rfl (by rw [ex101]; rfl) (by decide) rfl (fun ls hl => ?_)
  refine lv_goto (tgt := 28) hx hb dL_law_2025 (by decide) ?_
  exact hk28 kc ks x1 x2 x3 x4 x101 S hk h H locs ls hR hS (lv_sub (l' := [(0, .ref bb), (1, .ref x1), (2, .ref x2), (3, .ref x3), (4, .ref x4), (5, .int x101)]) hl [1, 2, 3, 4, 5, 0] rfl)
set_option maxHeartbeats 4000000 in
theorem tA_L_law_b432 {sc : Nat × (Nat → Int32)} {mc ms : Nat} (C : x_C p s m args c cL_law RL gg) (hml : c.maxLocals = 9) (hst : l.stackTraces = false) (hX : va_X bb sc.1 sc.2 s s.heap) (hbl : bb < s.heap.size) (hbA : ¬ s_A gg bb) (hret : ∀ (pc : Nat) (H : Heap) (ls : Array Slot) (locs : List Loc), decode cL_law pc = .ok (.ireturn, 1) → (∀ q ∈ locs, s_A gg q.base) → W p l e (rA_L_law mc ms) s m args below meth c H locs mc ms QQ (F0 m pc ls [.int 1])) {kc ks : Nat} (hk : kc ≤ mc ∧ ks ≤ ms) {x1 : Nat} {x2 : Nat} {x3 : Nat} {x4 : Nat} {x5 : Int32} {kk28 : Nat → Nat → Nat → Nat → Nat → Nat → Int32 → sT → Prop} {S : sT} (hk28 : ∀ (kc ks : Nat) (x1 : Nat) (x2 : Nat) (x3 : Nat) (x4 : Nat) (x5 : Int32) (S : sT), kc ≤ mc ∧ ks ≤ ms → kk28 kc ks x1 x2 x3 x4 x5 S → x_X p l e (rA_L_law mc ms) s m args below meth c gg 9 kc ks QQ 28 [(0, .ref bb), (1, .ref x1), (2, .ref x2), (3, .ref x3), (4, .ref x4), (5, .int x5)] [] S) (h : wA_L_law_b432 mc ms kc ks x1 x2 x3 x4 x5 S kk28 sc) : x_X p l e (rA_L_law mc ms) s m args below meth c gg 9 kc ks QQ 432 [(0, .ref bb), (1, .ref x1), (2, .ref x2), (3, .ref x3), (4, .ref x4), (5, .int x5)] [] S := by
  unfold wA_L_law_b432 at h
  obtain ⟨hx, hb, -⟩ := id C
  intro H locs ls hR hS hl
  refine lv_goto (tgt := 2022) hx hb dL_law_432 (by decide) ?_
  exact tA_L_law_b2022 C hml hst hX hbl hbA hret hk hk28 h H locs ls hR hS (lv_sub (l' := [(0, .ref bb), (1, .ref x1), (2, .ref x2), (3, .ref x3), (4, .ref x4), (5, .int x5)]) hl [0, 1, 2, 3, 4, 5] rfl)
set_option maxHeartbeats 4000000 in
theorem tA_L_law_b426 {sc : Nat × (Nat → Int32)} {mc ms : Nat} (C : x_C p s m args c cL_law RL gg) (hml : c.maxLocals = 9) (hst : l.stackTraces = false) (hX : va_X bb sc.1 sc.2 s s.heap) (hbl : bb < s.heap.size) (hbA : ¬ s_A gg bb) (hret : ∀ (pc : Nat) (H : Heap) (ls : Array Slot) (locs : List Loc), decode cL_law pc = .ok (.ireturn, 1) → (∀ q ∈ locs, s_A gg q.base) → W p l e (rA_L_law mc ms) s m args below meth c H locs mc ms QQ (F0 m pc ls [.int 1])) {kc ks : Nat} (hk : kc ≤ mc ∧ ks ≤ ms) {x1 : Nat} {x2 : Nat} {x3 : Nat} {x4 : Nat} {x5 : Int32} {y0 : Int64} {y1 : Int64} {kk28 : Nat → Nat → Nat → Nat → Nat → Nat → Int32 → sT → Prop} {S : sT} (hk28 : ∀ (kc ks : Nat) (x1 : Nat) (x2 : Nat) (x3 : Nat) (x4 : Nat) (x5 : Int32) (S : sT), kc ≤ mc ∧ ks ≤ ms → kk28 kc ks x1 x2 x3 x4 x5 S → x_X p l e (rA_L_law mc ms) s m args below meth c gg 9 kc ks QQ 28 [(0, .ref bb), (1, .ref x1), (2, .ref x2), (3, .ref x3), (4, .ref x4), (5, .int x5)] [] S) (h : wA_L_law_b426 mc ms kc ks x1 x2 x3 x4 x5 y0 y1 S kk28 sc) : x_X p l e (rA_L_law mc ms) s m args below meth c gg 9 kc ks QQ 426 [(0, .ref bb), (1, .ref x1), (2, .ref x2), (3, .ref x3), (4, .ref x4), (5, .int x5)] [.long y0, .long y1] S := by
  unfold wA_L_law_b426 at h
  obtain ⟨hx, hb, -⟩ := id C
  intro H locs ls hR hS hl
  refine W.lcmp hx hb dL_law_426 ?_
  refine lv_topi (fun x101 ex101 => ?_)
  replace h := h x101 ex101
  refine lv_if_eq (tgt := 432) hx hb dL_law_427 (by decide) (fun hc102 => ?_) (fun hc102 => ?_)
  · replace h := h.1 hc102
    exact tA_L_law_b432 C hml hst hX hbl hbA hret hk hk28 h H locs ls hR hS (lv_sub (l' := [(0, .ref bb), (1, .ref x1), (2, .ref x2), (3, .ref x3), (4, .ref x4), (5, .int x5)]) hl [0, 1, 2, 3, 4, 5] rfl)
  · replace h := h.2 hc102
    refine lv_iconst (v := 0) hx hb dL_law_430 (by decide) ?_
    exact h.elim
set_option maxHeartbeats 4000000 in
theorem tA_L_law_b392 {sc : Nat × (Nat → Int32)} {mc ms : Nat} (C : x_C p s m args c cL_law RL gg) (hml : c.maxLocals = 9) (hst : l.stackTraces = false) (hX : va_X bb sc.1 sc.2 s s.heap) (hbl : bb < s.heap.size) (hbA : ¬ s_A gg bb) (hret : ∀ (pc : Nat) (H : Heap) (ls : Array Slot) (locs : List Loc), decode cL_law pc = .ok (.ireturn, 1) → (∀ q ∈ locs, s_A gg q.base) → W p l e (rA_L_law mc ms) s m args below meth c H locs mc ms QQ (F0 m pc ls [.int 1])) {kc ks : Nat} (hk : kc ≤ mc ∧ ks ≤ ms) {x1 : Nat} {x2 : Nat} {x3 : Nat} {x4 : Nat} {x5 : Int32} {x6 : Int32} {y0 : Int32} {y1 : Int32} {y2 : Nat} {kk28 : Nat → Nat → Nat → Nat → Nat → Nat → Int32 → sT → Prop} {S : sT} (hk28 : ∀ (kc ks : Nat) (x1 : Nat) (x2 : Nat) (x3 : Nat) (x4 : Nat) (x5 : Int32) (S : sT), kc ≤ mc ∧ ks ≤ ms → kk28 kc ks x1 x2 x3 x4 x5 S → x_X p l e (rA_L_law mc ms) s m args below meth c gg 9 kc ks QQ 28 [(0, .ref bb), (1, .ref x1), (2, .ref x2), (3, .ref x3), (4, .ref x4), (5, .int x5)] [] S) (h : wA_L_law_b392 mc ms kc ks x1 x2 x3 x4 x5 x6 y0 y1 y2 S kk28 sc) : x_X p l e (rA_L_law mc ms) s m args below meth c gg 9 kc ks QQ 392 [(0, .ref bb), (1, .ref x1), (2, .ref x2), (3, .ref x3), (4, .ref x4), (5, .int x5), (6, .int x6)] [.int y0, .int y1, .ref y2] S := by
  unfold wA_L_law_b392 at h
  obtain ⟨hx, hb, -⟩ := id C
  intro H locs ls hR hS hl
  obtain ⟨hK_y2, h⟩ := h
  refine x_ki (x_runV (As := [.int y1, .int y0]) (rest := []) C hml hR hS (m_X8_gate l gg y2 y1 y0 S h) b_X8_gate q_13_3 (by rw [hK_y2]; decide) (s_E_9 hK_y2) rfl rfl rfl rfl ⟨Nat.le_of_ble_eq_true rfl, Nat.le_of_ble_eq_true rfl⟩ rfl hl.1 (Nat.le_of_ble_eq_true rfl) dL_law_392 ⟨hk.1, hk.2⟩) hS (fun x102 S101 H locs hn hR hS => ?_)
  replace h := hn
  clear hn
  refine lv_istore (lv' := [(7, .int x102), (0, .ref bb), (1, .ref x1), (2, .ref x2), (3, .ref x3), (4, .ref x4), (5, .int x5), (6, .int x6)]) hx hb dL_law_395 hl (by decide) rfl (fun ls hl => ?_)
  refine lv_aload_n hx hb dL_law_397 rfl (lv_at hl 3 rfl) ?_
  obtain ⟨hK_x2, h⟩ := h
  refine x_ki (x_runV (As := []) (rest := []) C hml hR hS (m_X8_thrown l gg x2 S101 h) b_X8_thrown q_8_16 (by rw [hK_x2]; decide) (s_E_9 hK_x2) rfl rfl rfl rfl ⟨Nat.le_of_ble_eq_true rfl, Nat.le_of_ble_eq_true rfl⟩ rfl hl.1 (Nat.le_of_ble_eq_true rfl) dL_law_398 ⟨hk.1, hk.2⟩) hS (fun x104 S103 H locs hn hR hS => ?_)
  replace h := hn
  clear hn
  refine lv_iload hx hb dL_law_401 (lv_at hl 7 rfl) ?_
  refine lv_icmp_eq (tgt := 408) hx hb dL_law_403 (by decide) (fun hc105 => ?_) (fun hc105 => ?_)
  · replace h := h.1 hc105
    refine lv_iload hx hb dL_law_408 (lv_at hl 7 rfl) ?_
    refine lv_if_ne (tgt := 432) hx hb dL_law_410 (by decide) (fun hc106 => ?_) (fun hc106 => ?_)
    · replace h := h.1 hc106
      exact tA_L_law_b432 C hml hst hX hbl hbA hret hk hk28 h H locs ls hR hS (lv_sub (l' := [(0, .ref bb), (1, .ref x1), (2, .ref x2), (3, .ref x3), (4, .ref x4), (5, .int x5)]) hl [1, 2, 3, 4, 5, 6] rfl)
    · replace h := h.2 hc106
      refine lv_aload_n hx hb dL_law_413 rfl (lv_at hl 4 rfl) ?_
      refine lv_iconst (v := 0) hx hb dL_law_414 (by decide) ?_
      obtain ⟨hK_x3, h⟩ := h
      obtain ⟨hi107, h⟩ := h
      refine x_lald C hR hK_x3 hi107 dL_law_415 ?_
      refine lv_topl (fun j108 ej108 => ?_)
      replace h := h j108 ej108
      refine lv_iload hx hb dL_law_416 (lv_at hl 0 rfl) ?_
      refine lv_if_eq (tgt := 425) hx hb dL_law_418 (by decide) (fun hc109 => ?_) (fun hc109 => ?_)
      · replace h := h.1 hc109
        refine lv_lconst (v := 0) hx hb dL_law_425 (by decide) ?_
        exact tA_L_law_b426 C hml hst hX hbl hbA hret hk hk28 h H locs ls hR hS (lv_sub (l' := [(0, .ref bb), (1, .ref x1), (2, .ref x2), (3, .ref x3), (4, .ref x4), (5, .int x5)]) hl [1, 2, 3, 4, 5, 6] rfl)
      · replace h := h.2 hc109
        refine lv_lconst (v := 1) hx hb dL_law_421 (by decide) ?_
        refine lv_goto (tgt := 426) hx hb dL_law_422 (by decide) ?_
        exact tA_L_law_b426 C hml hst hX hbl hbA hret hk hk28 h H locs ls hR hS (lv_sub (l' := [(0, .ref bb), (1, .ref x1), (2, .ref x2), (3, .ref x3), (4, .ref x4), (5, .int x5)]) hl [1, 2, 3, 4, 5, 6] rfl)
  · replace h := h.2 hc105
    refine lv_iconst (v := 0) hx hb dL_law_406 (by decide) ?_
    exact h.elim
set_option maxHeartbeats 4000000 in
theorem tA_L_law_b365 {sc : Nat × (Nat → Int32)} {mc ms : Nat} (C : x_C p s m args c cL_law RL gg) (hml : c.maxLocals = 9) (hst : l.stackTraces = false) (hX : va_X bb sc.1 sc.2 s s.heap) (hbl : bb < s.heap.size) (hbA : ¬ s_A gg bb) (hret : ∀ (pc : Nat) (H : Heap) (ls : Array Slot) (locs : List Loc), decode cL_law pc = .ok (.ireturn, 1) → (∀ q ∈ locs, s_A gg q.base) → W p l e (rA_L_law mc ms) s m args below meth c H locs mc ms QQ (F0 m pc ls [.int 1])) {kc ks : Nat} (hk : kc ≤ mc ∧ ks ≤ ms) {x1 : Nat} {x2 : Nat} {x3 : Nat} {x4 : Nat} {x5 : Int32} {y0 : Int32} {y1 : Int32} {y2 : Nat} {kk28 : Nat → Nat → Nat → Nat → Nat → Nat → Int32 → sT → Prop} {S : sT} (hk28 : ∀ (kc ks : Nat) (x1 : Nat) (x2 : Nat) (x3 : Nat) (x4 : Nat) (x5 : Int32) (S : sT), kc ≤ mc ∧ ks ≤ ms → kk28 kc ks x1 x2 x3 x4 x5 S → x_X p l e (rA_L_law mc ms) s m args below meth c gg 9 kc ks QQ 28 [(0, .ref bb), (1, .ref x1), (2, .ref x2), (3, .ref x3), (4, .ref x4), (5, .int x5)] [] S) (h : wA_L_law_b365 mc ms kc ks x1 x2 x3 x4 x5 y0 y1 y2 S kk28 sc) : x_X p l e (rA_L_law mc ms) s m args below meth c gg 9 kc ks QQ 365 [(0, .ref bb), (1, .ref x1), (2, .ref x2), (3, .ref x3), (4, .ref x4), (5, .int x5)] [.int y0, .int y1, .ref y2] S := by
  unfold wA_L_law_b365 at h
  obtain ⟨hx, hb, -⟩ := id C
  intro H locs ls hR hS hl
  refine lv_aload_n hx hb dL_law_365 rfl (lv_at hl 3 rfl) ?_
  obtain ⟨c101, d102, hk1, hk2, h⟩ := h
  refine x_ki (x_runSH (As := [.ref y2, .int y1, .int y0, .ref x3]) (rest := []) C hml hR hS (mA_L_gate l gg c101 d102 y2 y1 y0 x3 S hst h) b_L_gate q_12_14 rfl rfl ⟨Nat.le_of_ble_eq_true rfl, Nat.le_of_ble_eq_true rfl⟩ rfl hl.1 (Nat.le_of_ble_eq_true rfl) dL_law_366 ⟨hk1, hk2⟩) hS (fun x104 S103 H locs hn hR hS => ?_)
  replace h := hn
  clear hn
  have hk : (kc + c101) ≤ mc ∧ (ks + d102) ≤ ms := ⟨hk1, hk2⟩
  refine lv_istore (lv' := [(6, .int x104), (0, .ref bb), (1, .ref x1), (2, .ref x2), (3, .ref x3), (4, .ref x4), (5, .int x5)]) hx hb dL_law_369 hl (by decide) rfl (fun ls hl => ?_)
  refine lv_aload_n hx hb dL_law_371 rfl (lv_at hl 3 rfl) ?_
  refine lv_aload_n hx hb dL_law_372 rfl (lv_at hl 1 rfl) ?_
  refine lv_iload hx hb dL_law_373 (lv_at hl 6 rfl) ?_
  refine lv_iconst (v := 1) hx hb dL_law_375 (by decide) ?_
  refine lv_iadd hx hb dL_law_376 ?_
  refine lv_topi (fun x105 ex105 => ?_)
  replace h := h x105 ex105
  obtain ⟨hi106, h⟩ := h
  refine va_sld hx hb hX hbl hbA hS hi106 dL_law_377 ?_
  refine lv_topi (fun x107 ex107 => ?_)
  replace h := h x107 ex107
  refine lv_aload_n hx hb dL_law_378 rfl (lv_at hl 1 rfl) ?_
  refine lv_iload hx hb dL_law_379 (lv_at hl 6 rfl) ?_
  refine lv_iconst (v := 2) hx hb dL_law_381 (by decide) ?_
  refine lv_iadd hx hb dL_law_382 ?_
  refine lv_topi (fun x108 ex108 => ?_)
  replace h := h x108 ex108
  obtain ⟨hi109, h⟩ := h
  refine va_sld hx hb hX hbl hbA hS hi109 dL_law_383 ?_
  refine lv_topi (fun x110 ex110 => ?_)
  replace h := h x110 ex110
  refine lv_if_eq (tgt := 391) hx hb dL_law_384 (by decide) (fun hc111 => ?_) (fun hc111 => ?_)
  · replace h := h.1 hc111
    refine lv_iconst (v := 0) hx hb dL_law_391 (by decide) ?_
    exact tA_L_law_b392 C hml hst hX hbl hbA hret hk hk28 h H locs ls hR hS (lv_sub (l' := [(0, .ref bb), (1, .ref x1), (2, .ref x2), (3, .ref x3), (4, .ref x4), (5, .int x5), (6, .int x104)]) hl [1, 2, 3, 4, 5, 6, 0] rfl)
  · replace h := h.2 hc111
    refine lv_iconst (v := 1) hx hb dL_law_387 (by decide) ?_
    refine lv_goto (tgt := 392) hx hb dL_law_388 (by decide) ?_
    exact tA_L_law_b392 C hml hst hX hbl hbA hret hk hk28 h H locs ls hR hS (lv_sub (l' := [(0, .ref bb), (1, .ref x1), (2, .ref x2), (3, .ref x3), (4, .ref x4), (5, .int x5), (6, .int x104)]) hl [1, 2, 3, 4, 5, 6, 0] rfl)
set_option maxHeartbeats 4000000 in
theorem tA_L_law_b591 {sc : Nat × (Nat → Int32)} {mc ms : Nat} (C : x_C p s m args c cL_law RL gg) (hml : c.maxLocals = 9) (hst : l.stackTraces = false) (hX : va_X bb sc.1 sc.2 s s.heap) (hbl : bb < s.heap.size) (hbA : ¬ s_A gg bb) (hret : ∀ (pc : Nat) (H : Heap) (ls : Array Slot) (locs : List Loc), decode cL_law pc = .ok (.ireturn, 1) → (∀ q ∈ locs, s_A gg q.base) → W p l e (rA_L_law mc ms) s m args below meth c H locs mc ms QQ (F0 m pc ls [.int 1])) {kc ks : Nat} (hk : kc ≤ mc ∧ ks ≤ ms) {x1 : Nat} {x2 : Nat} {x3 : Nat} {x4 : Nat} {x5 : Int32} {kk28 : Nat → Nat → Nat → Nat → Nat → Nat → Int32 → sT → Prop} {S : sT} (hk28 : ∀ (kc ks : Nat) (x1 : Nat) (x2 : Nat) (x3 : Nat) (x4 : Nat) (x5 : Int32) (S : sT), kc ≤ mc ∧ ks ≤ ms → kk28 kc ks x1 x2 x3 x4 x5 S → x_X p l e (rA_L_law mc ms) s m args below meth c gg 9 kc ks QQ 28 [(0, .ref bb), (1, .ref x1), (2, .ref x2), (3, .ref x3), (4, .ref x4), (5, .int x5)] [] S) (h : wA_L_law_b591 mc ms kc ks x1 x2 x3 x4 x5 S kk28 sc) : x_X p l e (rA_L_law mc ms) s m args below meth c gg 9 kc ks QQ 591 [(0, .ref bb), (1, .ref x1), (2, .ref x2), (3, .ref x3), (4, .ref x4), (5, .int x5)] [] S := by
  unfold wA_L_law_b591 at h
  obtain ⟨hx, hb, -⟩ := id C
  intro H locs ls hR hS hl
  refine lv_goto (tgt := 2022) hx hb dL_law_591 (by decide) ?_
  exact tA_L_law_b2022 C hml hst hX hbl hbA hret hk hk28 h H locs ls hR hS (lv_sub (l' := [(0, .ref bb), (1, .ref x1), (2, .ref x2), (3, .ref x3), (4, .ref x4), (5, .int x5)]) hl [0, 1, 2, 3, 4, 5] rfl)
set_option maxHeartbeats 4000000 in
theorem tA_L_law_b585 {sc : Nat × (Nat → Int32)} {mc ms : Nat} (C : x_C p s m args c cL_law RL gg) (hml : c.maxLocals = 9) (hst : l.stackTraces = false) (hX : va_X bb sc.1 sc.2 s s.heap) (hbl : bb < s.heap.size) (hbA : ¬ s_A gg bb) (hret : ∀ (pc : Nat) (H : Heap) (ls : Array Slot) (locs : List Loc), decode cL_law pc = .ok (.ireturn, 1) → (∀ q ∈ locs, s_A gg q.base) → W p l e (rA_L_law mc ms) s m args below meth c H locs mc ms QQ (F0 m pc ls [.int 1])) {kc ks : Nat} (hk : kc ≤ mc ∧ ks ≤ ms) {x1 : Nat} {x2 : Nat} {x3 : Nat} {x4 : Nat} {x5 : Int32} {y0 : Int64} {y1 : Int64} {kk28 : Nat → Nat → Nat → Nat → Nat → Nat → Int32 → sT → Prop} {S : sT} (hk28 : ∀ (kc ks : Nat) (x1 : Nat) (x2 : Nat) (x3 : Nat) (x4 : Nat) (x5 : Int32) (S : sT), kc ≤ mc ∧ ks ≤ ms → kk28 kc ks x1 x2 x3 x4 x5 S → x_X p l e (rA_L_law mc ms) s m args below meth c gg 9 kc ks QQ 28 [(0, .ref bb), (1, .ref x1), (2, .ref x2), (3, .ref x3), (4, .ref x4), (5, .int x5)] [] S) (h : wA_L_law_b585 mc ms kc ks x1 x2 x3 x4 x5 y0 y1 S kk28 sc) : x_X p l e (rA_L_law mc ms) s m args below meth c gg 9 kc ks QQ 585 [(0, .ref bb), (1, .ref x1), (2, .ref x2), (3, .ref x3), (4, .ref x4), (5, .int x5)] [.long y0, .long y1] S := by
  unfold wA_L_law_b585 at h
  obtain ⟨hx, hb, -⟩ := id C
  intro H locs ls hR hS hl
  refine W.lcmp hx hb dL_law_585 ?_
  refine lv_topi (fun x101 ex101 => ?_)
  replace h := h x101 ex101
  refine lv_if_eq (tgt := 591) hx hb dL_law_586 (by decide) (fun hc102 => ?_) (fun hc102 => ?_)
  · replace h := h.1 hc102
    exact tA_L_law_b591 C hml hst hX hbl hbA hret hk hk28 h H locs ls hR hS (lv_sub (l' := [(0, .ref bb), (1, .ref x1), (2, .ref x2), (3, .ref x3), (4, .ref x4), (5, .int x5)]) hl [0, 1, 2, 3, 4, 5] rfl)
  · replace h := h.2 hc102
    refine lv_iconst (v := 0) hx hb dL_law_589 (by decide) ?_
    exact h.elim
set_option maxHeartbeats 4000000 in
theorem tA_L_law_b551 {sc : Nat × (Nat → Int32)} {mc ms : Nat} (C : x_C p s m args c cL_law RL gg) (hml : c.maxLocals = 9) (hst : l.stackTraces = false) (hX : va_X bb sc.1 sc.2 s s.heap) (hbl : bb < s.heap.size) (hbA : ¬ s_A gg bb) (hret : ∀ (pc : Nat) (H : Heap) (ls : Array Slot) (locs : List Loc), decode cL_law pc = .ok (.ireturn, 1) → (∀ q ∈ locs, s_A gg q.base) → W p l e (rA_L_law mc ms) s m args below meth c H locs mc ms QQ (F0 m pc ls [.int 1])) {kc ks : Nat} (hk : kc ≤ mc ∧ ks ≤ ms) {x1 : Nat} {x2 : Nat} {x3 : Nat} {x4 : Nat} {x5 : Int32} {x6 : Int32} {y0 : Int32} {y1 : Int32} {y2 : Nat} {kk28 : Nat → Nat → Nat → Nat → Nat → Nat → Int32 → sT → Prop} {S : sT} (hk28 : ∀ (kc ks : Nat) (x1 : Nat) (x2 : Nat) (x3 : Nat) (x4 : Nat) (x5 : Int32) (S : sT), kc ≤ mc ∧ ks ≤ ms → kk28 kc ks x1 x2 x3 x4 x5 S → x_X p l e (rA_L_law mc ms) s m args below meth c gg 9 kc ks QQ 28 [(0, .ref bb), (1, .ref x1), (2, .ref x2), (3, .ref x3), (4, .ref x4), (5, .int x5)] [] S) (h : wA_L_law_b551 mc ms kc ks x1 x2 x3 x4 x5 x6 y0 y1 y2 S kk28 sc) : x_X p l e (rA_L_law mc ms) s m args below meth c gg 9 kc ks QQ 551 [(0, .ref bb), (1, .ref x1), (2, .ref x2), (3, .ref x3), (4, .ref x4), (5, .int x5), (6, .int x6)] [.int y0, .int y1, .ref y2] S := by
  unfold wA_L_law_b551 at h
  obtain ⟨hx, hb, -⟩ := id C
  intro H locs ls hR hS hl
  obtain ⟨hK_y2, h⟩ := h
  refine x_ki (x_runV (As := [.int y1, .int y0]) (rest := []) C hml hR hS (m_X8_rotate l gg y2 y1 y0 S h) b_X8_rotate q_14_7 (by rw [hK_y2]; decide) (s_E_9 hK_y2) rfl rfl rfl rfl ⟨Nat.le_of_ble_eq_true rfl, Nat.le_of_ble_eq_true rfl⟩ rfl hl.1 (Nat.le_of_ble_eq_true rfl) dL_law_551 ⟨hk.1, hk.2⟩) hS (fun x102 S101 H locs hn hR hS => ?_)
  replace h := hn
  clear hn
  refine lv_istore (lv' := [(7, .int x102), (0, .ref bb), (1, .ref x1), (2, .ref x2), (3, .ref x3), (4, .ref x4), (5, .int x5), (6, .int x6)]) hx hb dL_law_554 hl (by decide) rfl (fun ls hl => ?_)
  refine lv_aload_n hx hb dL_law_556 rfl (lv_at hl 3 rfl) ?_
  obtain ⟨hK_x2, h⟩ := h
  refine x_ki (x_runV (As := []) (rest := []) C hml hR hS (m_X8_thrown l gg x2 S101 h) b_X8_thrown q_8_16 (by rw [hK_x2]; decide) (s_E_9 hK_x2) rfl rfl rfl rfl ⟨Nat.le_of_ble_eq_true rfl, Nat.le_of_ble_eq_true rfl⟩ rfl hl.1 (Nat.le_of_ble_eq_true rfl) dL_law_557 ⟨hk.1, hk.2⟩) hS (fun x104 S103 H locs hn hR hS => ?_)
  replace h := hn
  clear hn
  refine lv_iload hx hb dL_law_560 (lv_at hl 7 rfl) ?_
  refine lv_icmp_eq (tgt := 567) hx hb dL_law_562 (by decide) (fun hc105 => ?_) (fun hc105 => ?_)
  · replace h := h.1 hc105
    refine lv_iload hx hb dL_law_567 (lv_at hl 7 rfl) ?_
    refine lv_if_ne (tgt := 591) hx hb dL_law_569 (by decide) (fun hc106 => ?_) (fun hc106 => ?_)
    · replace h := h.1 hc106
      exact tA_L_law_b591 C hml hst hX hbl hbA hret hk hk28 h H locs ls hR hS (lv_sub (l' := [(0, .ref bb), (1, .ref x1), (2, .ref x2), (3, .ref x3), (4, .ref x4), (5, .int x5)]) hl [1, 2, 3, 4, 5, 6] rfl)
    · replace h := h.2 hc106
      refine lv_aload_n hx hb dL_law_572 rfl (lv_at hl 4 rfl) ?_
      refine lv_iconst (v := 0) hx hb dL_law_573 (by decide) ?_
      obtain ⟨hK_x3, h⟩ := h
      obtain ⟨hi107, h⟩ := h
      refine x_lald C hR hK_x3 hi107 dL_law_574 ?_
      refine lv_topl (fun j108 ej108 => ?_)
      replace h := h j108 ej108
      refine lv_iload hx hb dL_law_575 (lv_at hl 0 rfl) ?_
      refine lv_if_eq (tgt := 584) hx hb dL_law_577 (by decide) (fun hc109 => ?_) (fun hc109 => ?_)
      · replace h := h.1 hc109
        refine lv_lconst (v := 0) hx hb dL_law_584 (by decide) ?_
        exact tA_L_law_b585 C hml hst hX hbl hbA hret hk hk28 h H locs ls hR hS (lv_sub (l' := [(0, .ref bb), (1, .ref x1), (2, .ref x2), (3, .ref x3), (4, .ref x4), (5, .int x5)]) hl [1, 2, 3, 4, 5, 6] rfl)
      · replace h := h.2 hc109
        refine lv_lconst (v := 1) hx hb dL_law_580 (by decide) ?_
        refine lv_goto (tgt := 585) hx hb dL_law_581 (by decide) ?_
        exact tA_L_law_b585 C hml hst hX hbl hbA hret hk hk28 h H locs ls hR hS (lv_sub (l' := [(0, .ref bb), (1, .ref x1), (2, .ref x2), (3, .ref x3), (4, .ref x4), (5, .int x5)]) hl [1, 2, 3, 4, 5, 6] rfl)
  · replace h := h.2 hc105
    refine lv_iconst (v := 0) hx hb dL_law_565 (by decide) ?_
    exact h.elim
set_option maxHeartbeats 4000000 in
theorem tA_L_law_b524 {sc : Nat × (Nat → Int32)} {mc ms : Nat} (C : x_C p s m args c cL_law RL gg) (hml : c.maxLocals = 9) (hst : l.stackTraces = false) (hX : va_X bb sc.1 sc.2 s s.heap) (hbl : bb < s.heap.size) (hbA : ¬ s_A gg bb) (hret : ∀ (pc : Nat) (H : Heap) (ls : Array Slot) (locs : List Loc), decode cL_law pc = .ok (.ireturn, 1) → (∀ q ∈ locs, s_A gg q.base) → W p l e (rA_L_law mc ms) s m args below meth c H locs mc ms QQ (F0 m pc ls [.int 1])) {kc ks : Nat} (hk : kc ≤ mc ∧ ks ≤ ms) {x1 : Nat} {x2 : Nat} {x3 : Nat} {x4 : Nat} {x5 : Int32} {y0 : Int32} {y1 : Int32} {y2 : Nat} {kk28 : Nat → Nat → Nat → Nat → Nat → Nat → Int32 → sT → Prop} {S : sT} (hk28 : ∀ (kc ks : Nat) (x1 : Nat) (x2 : Nat) (x3 : Nat) (x4 : Nat) (x5 : Int32) (S : sT), kc ≤ mc ∧ ks ≤ ms → kk28 kc ks x1 x2 x3 x4 x5 S → x_X p l e (rA_L_law mc ms) s m args below meth c gg 9 kc ks QQ 28 [(0, .ref bb), (1, .ref x1), (2, .ref x2), (3, .ref x3), (4, .ref x4), (5, .int x5)] [] S) (h : wA_L_law_b524 mc ms kc ks x1 x2 x3 x4 x5 y0 y1 y2 S kk28 sc) : x_X p l e (rA_L_law mc ms) s m args below meth c gg 9 kc ks QQ 524 [(0, .ref bb), (1, .ref x1), (2, .ref x2), (3, .ref x3), (4, .ref x4), (5, .int x5)] [.int y0, .int y1, .ref y2] S := by
  unfold wA_L_law_b524 at h
  obtain ⟨hx, hb, -⟩ := id C
  intro H locs ls hR hS hl
  refine lv_aload_n hx hb dL_law_524 rfl (lv_at hl 3 rfl) ?_
  obtain ⟨c101, d102, hk1, hk2, h⟩ := h
  refine x_ki (x_runSH (As := [.ref y2, .int y1, .int y0, .ref x3]) (rest := []) C hml hR hS (mA_L_rotate l gg c101 d102 y2 y1 y0 x3 S hst h) b_L_rotate q_13_23 rfl rfl ⟨Nat.le_of_ble_eq_true rfl, Nat.le_of_ble_eq_true rfl⟩ rfl hl.1 (Nat.le_of_ble_eq_true rfl) dL_law_525 ⟨hk1, hk2⟩) hS (fun x104 S103 H locs hn hR hS => ?_)
  replace h := hn
  clear hn
  have hk : (kc + c101) ≤ mc ∧ (ks + d102) ≤ ms := ⟨hk1, hk2⟩
  refine lv_istore (lv' := [(6, .int x104), (0, .ref bb), (1, .ref x1), (2, .ref x2), (3, .ref x3), (4, .ref x4), (5, .int x5)]) hx hb dL_law_528 hl (by decide) rfl (fun ls hl => ?_)
  refine lv_aload_n hx hb dL_law_530 rfl (lv_at hl 3 rfl) ?_
  refine lv_aload_n hx hb dL_law_531 rfl (lv_at hl 1 rfl) ?_
  refine lv_iload hx hb dL_law_532 (lv_at hl 6 rfl) ?_
  refine lv_iconst (v := 1) hx hb dL_law_534 (by decide) ?_
  refine lv_iadd hx hb dL_law_535 ?_
  refine lv_topi (fun x105 ex105 => ?_)
  replace h := h x105 ex105
  obtain ⟨hi106, h⟩ := h
  refine va_sld hx hb hX hbl hbA hS hi106 dL_law_536 ?_
  refine lv_topi (fun x107 ex107 => ?_)
  replace h := h x107 ex107
  refine lv_aload_n hx hb dL_law_537 rfl (lv_at hl 1 rfl) ?_
  refine lv_iload hx hb dL_law_538 (lv_at hl 6 rfl) ?_
  refine lv_iconst (v := 2) hx hb dL_law_540 (by decide) ?_
  refine lv_iadd hx hb dL_law_541 ?_
  refine lv_topi (fun x108 ex108 => ?_)
  replace h := h x108 ex108
  obtain ⟨hi109, h⟩ := h
  refine va_sld hx hb hX hbl hbA hS hi109 dL_law_542 ?_
  refine lv_topi (fun x110 ex110 => ?_)
  replace h := h x110 ex110
  refine lv_if_eq (tgt := 550) hx hb dL_law_543 (by decide) (fun hc111 => ?_) (fun hc111 => ?_)
  · replace h := h.1 hc111
    refine lv_iconst (v := 0) hx hb dL_law_550 (by decide) ?_
    exact tA_L_law_b551 C hml hst hX hbl hbA hret hk hk28 h H locs ls hR hS (lv_sub (l' := [(0, .ref bb), (1, .ref x1), (2, .ref x2), (3, .ref x3), (4, .ref x4), (5, .int x5), (6, .int x104)]) hl [1, 2, 3, 4, 5, 6, 0] rfl)
  · replace h := h.2 hc111
    refine lv_iconst (v := 1) hx hb dL_law_546 (by decide) ?_
    refine lv_goto (tgt := 551) hx hb dL_law_547 (by decide) ?_
    exact tA_L_law_b551 C hml hst hX hbl hbA hret hk hk28 h H locs ls hR hS (lv_sub (l' := [(0, .ref bb), (1, .ref x1), (2, .ref x2), (3, .ref x3), (4, .ref x4), (5, .int x5), (6, .int x104)]) hl [1, 2, 3, 4, 5, 6, 0] rfl)
set_option maxHeartbeats 4000000 in
theorem tA_L_law_b867 {sc : Nat × (Nat → Int32)} {mc ms : Nat} (C : x_C p s m args c cL_law RL gg) (hml : c.maxLocals = 9) (hst : l.stackTraces = false) (hX : va_X bb sc.1 sc.2 s s.heap) (hbl : bb < s.heap.size) (hbA : ¬ s_A gg bb) (hret : ∀ (pc : Nat) (H : Heap) (ls : Array Slot) (locs : List Loc), decode cL_law pc = .ok (.ireturn, 1) → (∀ q ∈ locs, s_A gg q.base) → W p l e (rA_L_law mc ms) s m args below meth c H locs mc ms QQ (F0 m pc ls [.int 1])) {kc ks : Nat} (hk : kc ≤ mc ∧ ks ≤ ms) {x1 : Nat} {x2 : Nat} {x3 : Nat} {x4 : Nat} {x5 : Int32} {kk28 : Nat → Nat → Nat → Nat → Nat → Nat → Int32 → sT → Prop} {S : sT} (hk28 : ∀ (kc ks : Nat) (x1 : Nat) (x2 : Nat) (x3 : Nat) (x4 : Nat) (x5 : Int32) (S : sT), kc ≤ mc ∧ ks ≤ ms → kk28 kc ks x1 x2 x3 x4 x5 S → x_X p l e (rA_L_law mc ms) s m args below meth c gg 9 kc ks QQ 28 [(0, .ref bb), (1, .ref x1), (2, .ref x2), (3, .ref x3), (4, .ref x4), (5, .int x5)] [] S) (h : wA_L_law_b867 mc ms kc ks x1 x2 x3 x4 x5 S kk28 sc) : x_X p l e (rA_L_law mc ms) s m args below meth c gg 9 kc ks QQ 867 [(0, .ref bb), (1, .ref x1), (2, .ref x2), (3, .ref x3), (4, .ref x4), (5, .int x5)] [] S := by
  unfold wA_L_law_b867 at h
  obtain ⟨hx, hb, -⟩ := id C
  intro H locs ls hR hS hl
  refine lv_goto (tgt := 2022) hx hb dL_law_867 (by decide) ?_
  exact tA_L_law_b2022 C hml hst hX hbl hbA hret hk hk28 h H locs ls hR hS (lv_sub (l' := [(0, .ref bb), (1, .ref x1), (2, .ref x2), (3, .ref x3), (4, .ref x4), (5, .int x5)]) hl [0, 1, 2, 3, 4, 5] rfl)
set_option maxHeartbeats 4000000 in
theorem tA_L_law_b834 {sc : Nat × (Nat → Int32)} {mc ms : Nat} (C : x_C p s m args c cL_law RL gg) (hml : c.maxLocals = 9) (hst : l.stackTraces = false) (hX : va_X bb sc.1 sc.2 s s.heap) (hbl : bb < s.heap.size) (hbA : ¬ s_A gg bb) (hret : ∀ (pc : Nat) (H : Heap) (ls : Array Slot) (locs : List Loc), decode cL_law pc = .ok (.ireturn, 1) → (∀ q ∈ locs, s_A gg q.base) → W p l e (rA_L_law mc ms) s m args below meth c H locs mc ms QQ (F0 m pc ls [.int 1])) {kc ks : Nat} (hk : kc ≤ mc ∧ ks ≤ ms) {x1 : Nat} {x2 : Nat} {x3 : Nat} {x4 : Nat} {x5 : Int32} {x6 : Int32} {y0 : Int32} {y1 : Int32} {y2 : Nat} {kk28 : Nat → Nat → Nat → Nat → Nat → Nat → Int32 → sT → Prop} {S : sT} (hk28 : ∀ (kc ks : Nat) (x1 : Nat) (x2 : Nat) (x3 : Nat) (x4 : Nat) (x5 : Int32) (S : sT), kc ≤ mc ∧ ks ≤ ms → kk28 kc ks x1 x2 x3 x4 x5 S → x_X p l e (rA_L_law mc ms) s m args below meth c gg 9 kc ks QQ 28 [(0, .ref bb), (1, .ref x1), (2, .ref x2), (3, .ref x3), (4, .ref x4), (5, .int x5)] [] S) (h : wA_L_law_b834 mc ms kc ks x1 x2 x3 x4 x5 x6 y0 y1 y2 S kk28 sc) : x_X p l e (rA_L_law mc ms) s m args below meth c gg 9 kc ks QQ 834 [(0, .ref bb), (1, .ref x1), (2, .ref x2), (3, .ref x3), (4, .ref x4), (5, .int x5), (6, .int x6)] [.int y0, .int y1, .ref y2] S := by
  unfold wA_L_law_b834 at h
  obtain ⟨hx, hb, -⟩ := id C
  intro H locs ls hR hS hl
  obtain ⟨hK_y2, h⟩ := h
  refine x_ki (x_runV (As := [.int y1, .int y0]) (rest := []) C hml hR hS (m_X8_ducks l gg y2 y1 y0 S h) b_X8_ducks q_17_12 (by rw [hK_y2]; decide) (s_E_9 hK_y2) rfl rfl rfl rfl ⟨Nat.le_of_ble_eq_true rfl, Nat.le_of_ble_eq_true rfl⟩ rfl hl.1 (Nat.le_of_ble_eq_true rfl) dL_law_834 ⟨hk.1, hk.2⟩) hS (fun x102 S101 H locs hn hR hS => ?_)
  replace h := hn
  clear hn
  refine lv_istore (lv' := [(7, .int x102), (0, .ref bb), (1, .ref x1), (2, .ref x2), (3, .ref x3), (4, .ref x4), (5, .int x5), (6, .int x6)]) hx hb dL_law_837 hl (by decide) rfl (fun ls hl => ?_)
  refine lv_aload_n hx hb dL_law_839 rfl (lv_at hl 3 rfl) ?_
  obtain ⟨hK_x2, h⟩ := h
  refine x_ki (x_runV (As := []) (rest := []) C hml hR hS (m_X8_thrown l gg x2 S101 h) b_X8_thrown q_8_16 (by rw [hK_x2]; decide) (s_E_9 hK_x2) rfl rfl rfl rfl ⟨Nat.le_of_ble_eq_true rfl, Nat.le_of_ble_eq_true rfl⟩ rfl hl.1 (Nat.le_of_ble_eq_true rfl) dL_law_840 ⟨hk.1, hk.2⟩) hS (fun x104 S103 H locs hn hR hS => ?_)
  replace h := hn
  clear hn
  refine lv_iload hx hb dL_law_843 (lv_at hl 7 rfl) ?_
  refine lv_icmp_eq (tgt := 850) hx hb dL_law_845 (by decide) (fun hc105 => ?_) (fun hc105 => ?_)
  · replace h := h.1 hc105
    refine lv_iload hx hb dL_law_850 (lv_at hl 7 rfl) ?_
    refine lv_if_ne (tgt := 867) hx hb dL_law_852 (by decide) (fun hc106 => ?_) (fun hc106 => ?_)
    · replace h := h.1 hc106
      exact tA_L_law_b867 C hml hst hX hbl hbA hret hk hk28 h H locs ls hR hS (lv_sub (l' := [(0, .ref bb), (1, .ref x1), (2, .ref x2), (3, .ref x3), (4, .ref x4), (5, .int x5)]) hl [1, 2, 3, 4, 5, 6] rfl)
    · replace h := h.2 hc106
      refine lv_aload_n hx hb dL_law_855 rfl (lv_at hl 4 rfl) ?_
      refine lv_iconst (v := 0) hx hb dL_law_856 (by decide) ?_
      obtain ⟨hK_x3, h⟩ := h
      obtain ⟨hi107, h⟩ := h
      refine x_lald C hR hK_x3 hi107 dL_law_857 ?_
      refine lv_topl (fun j108 ej108 => ?_)
      replace h := h j108 ej108
      refine lv_iload hx hb dL_law_858 (lv_at hl 0 rfl) ?_
      refine lv_i2l hx hb dL_law_860 rfl ?_
      refine lv_topl (fun j109 ej109 => ?_)
      replace h := h j109 ej109
      refine W.lcmp hx hb dL_law_861 ?_
      refine lv_topi (fun x110 ex110 => ?_)
      replace h := h x110 ex110
      refine lv_if_eq (tgt := 867) hx hb dL_law_862 (by decide) (fun hc111 => ?_) (fun hc111 => ?_)
      · replace h := h.1 hc111
        exact tA_L_law_b867 C hml hst hX hbl hbA hret hk hk28 h H locs ls hR hS (lv_sub (l' := [(0, .ref bb), (1, .ref x1), (2, .ref x2), (3, .ref x3), (4, .ref x4), (5, .int x5)]) hl [1, 2, 3, 4, 5, 6] rfl)
      · replace h := h.2 hc111
        refine lv_iconst (v := 0) hx hb dL_law_865 (by decide) ?_
        exact h.elim
  · replace h := h.2 hc105
    refine lv_iconst (v := 0) hx hb dL_law_848 (by decide) ?_
    exact h.elim
set_option maxHeartbeats 4000000 in
theorem tA_L_law_b807 {sc : Nat × (Nat → Int32)} {mc ms : Nat} (C : x_C p s m args c cL_law RL gg) (hml : c.maxLocals = 9) (hst : l.stackTraces = false) (hX : va_X bb sc.1 sc.2 s s.heap) (hbl : bb < s.heap.size) (hbA : ¬ s_A gg bb) (hret : ∀ (pc : Nat) (H : Heap) (ls : Array Slot) (locs : List Loc), decode cL_law pc = .ok (.ireturn, 1) → (∀ q ∈ locs, s_A gg q.base) → W p l e (rA_L_law mc ms) s m args below meth c H locs mc ms QQ (F0 m pc ls [.int 1])) {kc ks : Nat} (hk : kc ≤ mc ∧ ks ≤ ms) {x1 : Nat} {x2 : Nat} {x3 : Nat} {x4 : Nat} {x5 : Int32} {y0 : Int32} {y1 : Int32} {y2 : Nat} {kk28 : Nat → Nat → Nat → Nat → Nat → Nat → Int32 → sT → Prop} {S : sT} (hk28 : ∀ (kc ks : Nat) (x1 : Nat) (x2 : Nat) (x3 : Nat) (x4 : Nat) (x5 : Int32) (S : sT), kc ≤ mc ∧ ks ≤ ms → kk28 kc ks x1 x2 x3 x4 x5 S → x_X p l e (rA_L_law mc ms) s m args below meth c gg 9 kc ks QQ 28 [(0, .ref bb), (1, .ref x1), (2, .ref x2), (3, .ref x3), (4, .ref x4), (5, .int x5)] [] S) (h : wA_L_law_b807 mc ms kc ks x1 x2 x3 x4 x5 y0 y1 y2 S kk28 sc) : x_X p l e (rA_L_law mc ms) s m args below meth c gg 9 kc ks QQ 807 [(0, .ref bb), (1, .ref x1), (2, .ref x2), (3, .ref x3), (4, .ref x4), (5, .int x5)] [.int y0, .int y1, .ref y2] S := by
  unfold wA_L_law_b807 at h
  obtain ⟨hx, hb, -⟩ := id C
  intro H locs ls hR hS hl
  refine lv_aload_n hx hb dL_law_807 rfl (lv_at hl 3 rfl) ?_
  obtain ⟨c101, d102, hk1, hk2, h⟩ := h
  refine x_ki (x_runSH (As := [.ref y2, .int y1, .int y0, .ref x3]) (rest := []) C hml hR hS (mA_L_ducks l gg c101 d102 y2 y1 y0 x3 S hst h) b_L_ducks q_17_3 rfl rfl ⟨Nat.le_of_ble_eq_true rfl, Nat.le_of_ble_eq_true rfl⟩ rfl hl.1 (Nat.le_of_ble_eq_true rfl) dL_law_808 ⟨hk1, hk2⟩) hS (fun x104 S103 H locs hn hR hS => ?_)
  replace h := hn
  clear hn
  have hk : (kc + c101) ≤ mc ∧ (ks + d102) ≤ ms := ⟨hk1, hk2⟩
  refine lv_istore (lv' := [(6, .int x104), (0, .ref bb), (1, .ref x1), (2, .ref x2), (3, .ref x3), (4, .ref x4), (5, .int x5)]) hx hb dL_law_811 hl (by decide) rfl (fun ls hl => ?_)
  refine lv_aload_n hx hb dL_law_813 rfl (lv_at hl 3 rfl) ?_
  refine lv_aload_n hx hb dL_law_814 rfl (lv_at hl 1 rfl) ?_
  refine lv_iload hx hb dL_law_815 (lv_at hl 6 rfl) ?_
  refine lv_iconst (v := 1) hx hb dL_law_817 (by decide) ?_
  refine lv_iadd hx hb dL_law_818 ?_
  refine lv_topi (fun x105 ex105 => ?_)
  replace h := h x105 ex105
  obtain ⟨hi106, h⟩ := h
  refine va_sld hx hb hX hbl hbA hS hi106 dL_law_819 ?_
  refine lv_topi (fun x107 ex107 => ?_)
  replace h := h x107 ex107
  refine lv_aload_n hx hb dL_law_820 rfl (lv_at hl 1 rfl) ?_
  refine lv_iload hx hb dL_law_821 (lv_at hl 6 rfl) ?_
  refine lv_iconst (v := 2) hx hb dL_law_823 (by decide) ?_
  refine lv_iadd hx hb dL_law_824 ?_
  refine lv_topi (fun x108 ex108 => ?_)
  replace h := h x108 ex108
  obtain ⟨hi109, h⟩ := h
  refine va_sld hx hb hX hbl hbA hS hi109 dL_law_825 ?_
  refine lv_topi (fun x110 ex110 => ?_)
  replace h := h x110 ex110
  refine lv_if_eq (tgt := 833) hx hb dL_law_826 (by decide) (fun hc111 => ?_) (fun hc111 => ?_)
  · replace h := h.1 hc111
    refine lv_iconst (v := 0) hx hb dL_law_833 (by decide) ?_
    exact tA_L_law_b834 C hml hst hX hbl hbA hret hk hk28 h H locs ls hR hS (lv_sub (l' := [(0, .ref bb), (1, .ref x1), (2, .ref x2), (3, .ref x3), (4, .ref x4), (5, .int x5), (6, .int x104)]) hl [1, 2, 3, 4, 5, 6, 0] rfl)
  · replace h := h.2 hc111
    refine lv_iconst (v := 1) hx hb dL_law_829 (by decide) ?_
    refine lv_goto (tgt := 834) hx hb dL_law_830 (by decide) ?_
    exact tA_L_law_b834 C hml hst hX hbl hbA hret hk hk28 h H locs ls hR hS (lv_sub (l' := [(0, .ref bb), (1, .ref x1), (2, .ref x2), (3, .ref x3), (4, .ref x4), (5, .int x5), (6, .int x104)]) hl [1, 2, 3, 4, 5, 6, 0] rfl)
set_option maxHeartbeats 4000000 in
theorem tA_L_law_b951 {sc : Nat × (Nat → Int32)} {mc ms : Nat} (C : x_C p s m args c cL_law RL gg) (hml : c.maxLocals = 9) (hst : l.stackTraces = false) (hX : va_X bb sc.1 sc.2 s s.heap) (hbl : bb < s.heap.size) (hbA : ¬ s_A gg bb) (hret : ∀ (pc : Nat) (H : Heap) (ls : Array Slot) (locs : List Loc), decode cL_law pc = .ok (.ireturn, 1) → (∀ q ∈ locs, s_A gg q.base) → W p l e (rA_L_law mc ms) s m args below meth c H locs mc ms QQ (F0 m pc ls [.int 1])) {kc ks : Nat} (hk : kc ≤ mc ∧ ks ≤ ms) {x1 : Nat} {x2 : Nat} {x3 : Nat} {x4 : Nat} {x5 : Int32} {kk28 : Nat → Nat → Nat → Nat → Nat → Nat → Int32 → sT → Prop} {S : sT} (hk28 : ∀ (kc ks : Nat) (x1 : Nat) (x2 : Nat) (x3 : Nat) (x4 : Nat) (x5 : Int32) (S : sT), kc ≤ mc ∧ ks ≤ ms → kk28 kc ks x1 x2 x3 x4 x5 S → x_X p l e (rA_L_law mc ms) s m args below meth c gg 9 kc ks QQ 28 [(0, .ref bb), (1, .ref x1), (2, .ref x2), (3, .ref x3), (4, .ref x4), (5, .int x5)] [] S) (h : wA_L_law_b951 mc ms kc ks x1 x2 x3 x4 x5 S kk28 sc) : x_X p l e (rA_L_law mc ms) s m args below meth c gg 9 kc ks QQ 951 [(0, .ref bb), (1, .ref x1), (2, .ref x2), (3, .ref x3), (4, .ref x4), (5, .int x5)] [] S := by
  unfold wA_L_law_b951 at h
  obtain ⟨hx, hb, -⟩ := id C
  intro H locs ls hR hS hl
  refine lv_goto (tgt := 2022) hx hb dL_law_951 (by decide) ?_
  exact tA_L_law_b2022 C hml hst hX hbl hbA hret hk hk28 h H locs ls hR hS (lv_sub (l' := [(0, .ref bb), (1, .ref x1), (2, .ref x2), (3, .ref x3), (4, .ref x4), (5, .int x5)]) hl [0, 1, 2, 3, 4, 5] rfl)
set_option maxHeartbeats 4000000 in
theorem tA_L_law_b918 {sc : Nat × (Nat → Int32)} {mc ms : Nat} (C : x_C p s m args c cL_law RL gg) (hml : c.maxLocals = 9) (hst : l.stackTraces = false) (hX : va_X bb sc.1 sc.2 s s.heap) (hbl : bb < s.heap.size) (hbA : ¬ s_A gg bb) (hret : ∀ (pc : Nat) (H : Heap) (ls : Array Slot) (locs : List Loc), decode cL_law pc = .ok (.ireturn, 1) → (∀ q ∈ locs, s_A gg q.base) → W p l e (rA_L_law mc ms) s m args below meth c H locs mc ms QQ (F0 m pc ls [.int 1])) {kc ks : Nat} (hk : kc ≤ mc ∧ ks ≤ ms) {x1 : Nat} {x2 : Nat} {x3 : Nat} {x4 : Nat} {x5 : Int32} {x6 : Int32} {y0 : Int32} {y1 : Int32} {y2 : Nat} {kk28 : Nat → Nat → Nat → Nat → Nat → Nat → Int32 → sT → Prop} {S : sT} (hk28 : ∀ (kc ks : Nat) (x1 : Nat) (x2 : Nat) (x3 : Nat) (x4 : Nat) (x5 : Int32) (S : sT), kc ≤ mc ∧ ks ≤ ms → kk28 kc ks x1 x2 x3 x4 x5 S → x_X p l e (rA_L_law mc ms) s m args below meth c gg 9 kc ks QQ 28 [(0, .ref bb), (1, .ref x1), (2, .ref x2), (3, .ref x3), (4, .ref x4), (5, .int x5)] [] S) (h : wA_L_law_b918 mc ms kc ks x1 x2 x3 x4 x5 x6 y0 y1 y2 S kk28 sc) : x_X p l e (rA_L_law mc ms) s m args below meth c gg 9 kc ks QQ 918 [(0, .ref bb), (1, .ref x1), (2, .ref x2), (3, .ref x3), (4, .ref x4), (5, .int x5), (6, .int x6)] [.int y0, .int y1, .ref y2] S := by
  unfold wA_L_law_b918 at h
  obtain ⟨hx, hb, -⟩ := id C
  intro H locs ls hR hS hl
  obtain ⟨hK_y2, h⟩ := h
  refine x_ki (x_runV (As := [.int y1, .int y0]) (rest := []) C hml hR hS (m_X8_harvest l gg y2 y1 y0 S h) b_X8_harvest q_19_1 (by rw [hK_y2]; decide) (s_E_9 hK_y2) rfl rfl rfl rfl ⟨Nat.le_of_ble_eq_true rfl, Nat.le_of_ble_eq_true rfl⟩ rfl hl.1 (Nat.le_of_ble_eq_true rfl) dL_law_918 ⟨hk.1, hk.2⟩) hS (fun x102 S101 H locs hn hR hS => ?_)
  replace h := hn
  clear hn
  refine lv_istore (lv' := [(7, .int x102), (0, .ref bb), (1, .ref x1), (2, .ref x2), (3, .ref x3), (4, .ref x4), (5, .int x5), (6, .int x6)]) hx hb dL_law_921 hl (by decide) rfl (fun ls hl => ?_)
  refine lv_aload_n hx hb dL_law_923 rfl (lv_at hl 3 rfl) ?_
  obtain ⟨hK_x2, h⟩ := h
  refine x_ki (x_runV (As := []) (rest := []) C hml hR hS (m_X8_thrown l gg x2 S101 h) b_X8_thrown q_8_16 (by rw [hK_x2]; decide) (s_E_9 hK_x2) rfl rfl rfl rfl ⟨Nat.le_of_ble_eq_true rfl, Nat.le_of_ble_eq_true rfl⟩ rfl hl.1 (Nat.le_of_ble_eq_true rfl) dL_law_924 ⟨hk.1, hk.2⟩) hS (fun x104 S103 H locs hn hR hS => ?_)
  replace h := hn
  clear hn
  refine lv_iload hx hb dL_law_927 (lv_at hl 7 rfl) ?_
  refine lv_icmp_eq (tgt := 934) hx hb dL_law_929 (by decide) (fun hc105 => ?_) (fun hc105 => ?_)
  · replace h := h.1 hc105
    refine lv_iload hx hb dL_law_934 (lv_at hl 7 rfl) ?_
    refine lv_if_ne (tgt := 951) hx hb dL_law_936 (by decide) (fun hc106 => ?_) (fun hc106 => ?_)
    · replace h := h.1 hc106
      exact tA_L_law_b951 C hml hst hX hbl hbA hret hk hk28 h H locs ls hR hS (lv_sub (l' := [(0, .ref bb), (1, .ref x1), (2, .ref x2), (3, .ref x3), (4, .ref x4), (5, .int x5)]) hl [1, 2, 3, 4, 5, 6] rfl)
    · replace h := h.2 hc106
      refine lv_aload_n hx hb dL_law_939 rfl (lv_at hl 4 rfl) ?_
      refine lv_iconst (v := 0) hx hb dL_law_940 (by decide) ?_
      obtain ⟨hK_x3, h⟩ := h
      obtain ⟨hi107, h⟩ := h
      refine x_lald C hR hK_x3 hi107 dL_law_941 ?_
      refine lv_topl (fun j108 ej108 => ?_)
      replace h := h j108 ej108
      refine lv_iload hx hb dL_law_942 (lv_at hl 0 rfl) ?_
      refine lv_i2l hx hb dL_law_944 rfl ?_
      refine lv_topl (fun j109 ej109 => ?_)
      replace h := h j109 ej109
      refine W.lcmp hx hb dL_law_945 ?_
      refine lv_topi (fun x110 ex110 => ?_)
      replace h := h x110 ex110
      refine lv_if_eq (tgt := 951) hx hb dL_law_946 (by decide) (fun hc111 => ?_) (fun hc111 => ?_)
      · replace h := h.1 hc111
        exact tA_L_law_b951 C hml hst hX hbl hbA hret hk hk28 h H locs ls hR hS (lv_sub (l' := [(0, .ref bb), (1, .ref x1), (2, .ref x2), (3, .ref x3), (4, .ref x4), (5, .int x5)]) hl [1, 2, 3, 4, 5, 6] rfl)
      · replace h := h.2 hc111
        refine lv_iconst (v := 0) hx hb dL_law_949 (by decide) ?_
        exact h.elim
  · replace h := h.2 hc105
    refine lv_iconst (v := 0) hx hb dL_law_932 (by decide) ?_
    exact h.elim
set_option maxHeartbeats 4000000 in
theorem tA_L_law_b891 {sc : Nat × (Nat → Int32)} {mc ms : Nat} (C : x_C p s m args c cL_law RL gg) (hml : c.maxLocals = 9) (hst : l.stackTraces = false) (hX : va_X bb sc.1 sc.2 s s.heap) (hbl : bb < s.heap.size) (hbA : ¬ s_A gg bb) (hret : ∀ (pc : Nat) (H : Heap) (ls : Array Slot) (locs : List Loc), decode cL_law pc = .ok (.ireturn, 1) → (∀ q ∈ locs, s_A gg q.base) → W p l e (rA_L_law mc ms) s m args below meth c H locs mc ms QQ (F0 m pc ls [.int 1])) {kc ks : Nat} (hk : kc ≤ mc ∧ ks ≤ ms) {x1 : Nat} {x2 : Nat} {x3 : Nat} {x4 : Nat} {x5 : Int32} {y0 : Int32} {y1 : Int32} {y2 : Nat} {kk28 : Nat → Nat → Nat → Nat → Nat → Nat → Int32 → sT → Prop} {S : sT} (hk28 : ∀ (kc ks : Nat) (x1 : Nat) (x2 : Nat) (x3 : Nat) (x4 : Nat) (x5 : Int32) (S : sT), kc ≤ mc ∧ ks ≤ ms → kk28 kc ks x1 x2 x3 x4 x5 S → x_X p l e (rA_L_law mc ms) s m args below meth c gg 9 kc ks QQ 28 [(0, .ref bb), (1, .ref x1), (2, .ref x2), (3, .ref x3), (4, .ref x4), (5, .int x5)] [] S) (h : wA_L_law_b891 mc ms kc ks x1 x2 x3 x4 x5 y0 y1 y2 S kk28 sc) : x_X p l e (rA_L_law mc ms) s m args below meth c gg 9 kc ks QQ 891 [(0, .ref bb), (1, .ref x1), (2, .ref x2), (3, .ref x3), (4, .ref x4), (5, .int x5)] [.int y0, .int y1, .ref y2] S := by
  unfold wA_L_law_b891 at h
  obtain ⟨hx, hb, -⟩ := id C
  intro H locs ls hR hS hl
  refine lv_aload_n hx hb dL_law_891 rfl (lv_at hl 3 rfl) ?_
  obtain ⟨c101, d102, hk1, hk2, h⟩ := h
  refine x_ki (x_runSH (As := [.ref y2, .int y1, .int y0, .ref x3]) (rest := []) C hml hR hS (mA_L_harvest l gg c101 d102 y2 y1 y0 x3 S hst h) b_L_harvest q_17_16 rfl rfl ⟨Nat.le_of_ble_eq_true rfl, Nat.le_of_ble_eq_true rfl⟩ rfl hl.1 (Nat.le_of_ble_eq_true rfl) dL_law_892 ⟨hk1, hk2⟩) hS (fun x104 S103 H locs hn hR hS => ?_)
  replace h := hn
  clear hn
  have hk : (kc + c101) ≤ mc ∧ (ks + d102) ≤ ms := ⟨hk1, hk2⟩
  refine lv_istore (lv' := [(6, .int x104), (0, .ref bb), (1, .ref x1), (2, .ref x2), (3, .ref x3), (4, .ref x4), (5, .int x5)]) hx hb dL_law_895 hl (by decide) rfl (fun ls hl => ?_)
  refine lv_aload_n hx hb dL_law_897 rfl (lv_at hl 3 rfl) ?_
  refine lv_aload_n hx hb dL_law_898 rfl (lv_at hl 1 rfl) ?_
  refine lv_iload hx hb dL_law_899 (lv_at hl 6 rfl) ?_
  refine lv_iconst (v := 1) hx hb dL_law_901 (by decide) ?_
  refine lv_iadd hx hb dL_law_902 ?_
  refine lv_topi (fun x105 ex105 => ?_)
  replace h := h x105 ex105
  obtain ⟨hi106, h⟩ := h
  refine va_sld hx hb hX hbl hbA hS hi106 dL_law_903 ?_
  refine lv_topi (fun x107 ex107 => ?_)
  replace h := h x107 ex107
  refine lv_aload_n hx hb dL_law_904 rfl (lv_at hl 1 rfl) ?_
  refine lv_iload hx hb dL_law_905 (lv_at hl 6 rfl) ?_
  refine lv_iconst (v := 2) hx hb dL_law_907 (by decide) ?_
  refine lv_iadd hx hb dL_law_908 ?_
  refine lv_topi (fun x108 ex108 => ?_)
  replace h := h x108 ex108
  obtain ⟨hi109, h⟩ := h
  refine va_sld hx hb hX hbl hbA hS hi109 dL_law_909 ?_
  refine lv_topi (fun x110 ex110 => ?_)
  replace h := h x110 ex110
  refine lv_if_eq (tgt := 917) hx hb dL_law_910 (by decide) (fun hc111 => ?_) (fun hc111 => ?_)
  · replace h := h.1 hc111
    refine lv_iconst (v := 0) hx hb dL_law_917 (by decide) ?_
    exact tA_L_law_b918 C hml hst hX hbl hbA hret hk hk28 h H locs ls hR hS (lv_sub (l' := [(0, .ref bb), (1, .ref x1), (2, .ref x2), (3, .ref x3), (4, .ref x4), (5, .int x5), (6, .int x104)]) hl [1, 2, 3, 4, 5, 6, 0] rfl)
  · replace h := h.2 hc111
    refine lv_iconst (v := 1) hx hb dL_law_913 (by decide) ?_
    refine lv_goto (tgt := 918) hx hb dL_law_914 (by decide) ?_
    exact tA_L_law_b918 C hml hst hX hbl hbA hret hk hk28 h H locs ls hR hS (lv_sub (l' := [(0, .ref bb), (1, .ref x1), (2, .ref x2), (3, .ref x3), (4, .ref x4), (5, .int x5), (6, .int x104)]) hl [1, 2, 3, 4, 5, 6, 0] rfl)
set_option maxHeartbeats 4000000 in
theorem tA_L_law_b1624 {sc : Nat × (Nat → Int32)} {mc ms : Nat} (C : x_C p s m args c cL_law RL gg) (hml : c.maxLocals = 9) (hst : l.stackTraces = false) (hX : va_X bb sc.1 sc.2 s s.heap) (hbl : bb < s.heap.size) (hbA : ¬ s_A gg bb) (hret : ∀ (pc : Nat) (H : Heap) (ls : Array Slot) (locs : List Loc), decode cL_law pc = .ok (.ireturn, 1) → (∀ q ∈ locs, s_A gg q.base) → W p l e (rA_L_law mc ms) s m args below meth c H locs mc ms QQ (F0 m pc ls [.int 1])) {kc ks : Nat} (hk : kc ≤ mc ∧ ks ≤ ms) {x1 : Nat} {x2 : Nat} {x3 : Nat} {x4 : Nat} {x5 : Int32} {kk28 : Nat → Nat → Nat → Nat → Nat → Nat → Int32 → sT → Prop} {S : sT} (hk28 : ∀ (kc ks : Nat) (x1 : Nat) (x2 : Nat) (x3 : Nat) (x4 : Nat) (x5 : Int32) (S : sT), kc ≤ mc ∧ ks ≤ ms → kk28 kc ks x1 x2 x3 x4 x5 S → x_X p l e (rA_L_law mc ms) s m args below meth c gg 9 kc ks QQ 28 [(0, .ref bb), (1, .ref x1), (2, .ref x2), (3, .ref x3), (4, .ref x4), (5, .int x5)] [] S) (h : wA_L_law_b1624 mc ms kc ks x1 x2 x3 x4 x5 S kk28 sc) : x_X p l e (rA_L_law mc ms) s m args below meth c gg 9 kc ks QQ 1624 [(0, .ref bb), (1, .ref x1), (2, .ref x2), (3, .ref x3), (4, .ref x4), (5, .int x5)] [] S := by
  unfold wA_L_law_b1624 at h
  obtain ⟨hx, hb, -⟩ := id C
  intro H locs ls hR hS hl
  refine lv_goto (tgt := 2022) hx hb dL_law_1624 (by decide) ?_
  exact tA_L_law_b2022 C hml hst hX hbl hbA hret hk hk28 h H locs ls hR hS (lv_sub (l' := [(0, .ref bb), (1, .ref x1), (2, .ref x2), (3, .ref x3), (4, .ref x4), (5, .int x5)]) hl [0, 1, 2, 3, 4, 5] rfl)
set_option maxHeartbeats 4000000 in
theorem tA_L_law_b1591 {sc : Nat × (Nat → Int32)} {mc ms : Nat} (C : x_C p s m args c cL_law RL gg) (hml : c.maxLocals = 9) (hst : l.stackTraces = false) (hX : va_X bb sc.1 sc.2 s s.heap) (hbl : bb < s.heap.size) (hbA : ¬ s_A gg bb) (hret : ∀ (pc : Nat) (H : Heap) (ls : Array Slot) (locs : List Loc), decode cL_law pc = .ok (.ireturn, 1) → (∀ q ∈ locs, s_A gg q.base) → W p l e (rA_L_law mc ms) s m args below meth c H locs mc ms QQ (F0 m pc ls [.int 1])) {kc ks : Nat} (hk : kc ≤ mc ∧ ks ≤ ms) {x1 : Nat} {x2 : Nat} {x3 : Nat} {x4 : Nat} {x5 : Int32} {x6 : Int32} {y0 : Int32} {y1 : Int32} {y2 : Nat} {kk28 : Nat → Nat → Nat → Nat → Nat → Nat → Int32 → sT → Prop} {S : sT} (hk28 : ∀ (kc ks : Nat) (x1 : Nat) (x2 : Nat) (x3 : Nat) (x4 : Nat) (x5 : Int32) (S : sT), kc ≤ mc ∧ ks ≤ ms → kk28 kc ks x1 x2 x3 x4 x5 S → x_X p l e (rA_L_law mc ms) s m args below meth c gg 9 kc ks QQ 28 [(0, .ref bb), (1, .ref x1), (2, .ref x2), (3, .ref x3), (4, .ref x4), (5, .int x5)] [] S) (h : wA_L_law_b1591 mc ms kc ks x1 x2 x3 x4 x5 x6 y0 y1 y2 S kk28 sc) : x_X p l e (rA_L_law mc ms) s m args below meth c gg 9 kc ks QQ 1591 [(0, .ref bb), (1, .ref x1), (2, .ref x2), (3, .ref x3), (4, .ref x4), (5, .int x5), (6, .int x6)] [.int y0, .int y1, .ref y2] S := by
  unfold wA_L_law_b1591 at h
  obtain ⟨hx, hb, -⟩ := id C
  intro H locs ls hR hS hl
  obtain ⟨hK_y2, h⟩ := h
  refine x_ki (x_runV (As := [.int y1, .int y0]) (rest := []) C hml hR hS (m_X8_thought l gg y2 y1 y0 S h) b_X8_thought q_36_7 (by rw [hK_y2]; decide) (s_E_9 hK_y2) rfl rfl rfl rfl ⟨Nat.le_of_ble_eq_true rfl, Nat.le_of_ble_eq_true rfl⟩ rfl hl.1 (Nat.le_of_ble_eq_true rfl) dL_law_1591 ⟨hk.1, hk.2⟩) hS (fun x102 S101 H locs hn hR hS => ?_)
  replace h := hn
  clear hn
  refine lv_istore (lv' := [(7, .int x102), (0, .ref bb), (1, .ref x1), (2, .ref x2), (3, .ref x3), (4, .ref x4), (5, .int x5), (6, .int x6)]) hx hb dL_law_1594 hl (by decide) rfl (fun ls hl => ?_)
  refine lv_aload_n hx hb dL_law_1596 rfl (lv_at hl 3 rfl) ?_
  obtain ⟨hK_x2, h⟩ := h
  refine x_ki (x_runV (As := []) (rest := []) C hml hR hS (m_X8_thrown l gg x2 S101 h) b_X8_thrown q_8_16 (by rw [hK_x2]; decide) (s_E_9 hK_x2) rfl rfl rfl rfl ⟨Nat.le_of_ble_eq_true rfl, Nat.le_of_ble_eq_true rfl⟩ rfl hl.1 (Nat.le_of_ble_eq_true rfl) dL_law_1597 ⟨hk.1, hk.2⟩) hS (fun x104 S103 H locs hn hR hS => ?_)
  replace h := hn
  clear hn
  refine lv_iload hx hb dL_law_1600 (lv_at hl 7 rfl) ?_
  refine lv_icmp_eq (tgt := 1607) hx hb dL_law_1602 (by decide) (fun hc105 => ?_) (fun hc105 => ?_)
  · replace h := h.1 hc105
    refine lv_iload hx hb dL_law_1607 (lv_at hl 7 rfl) ?_
    refine lv_if_ne (tgt := 1624) hx hb dL_law_1609 (by decide) (fun hc106 => ?_) (fun hc106 => ?_)
    · replace h := h.1 hc106
      exact tA_L_law_b1624 C hml hst hX hbl hbA hret hk hk28 h H locs ls hR hS (lv_sub (l' := [(0, .ref bb), (1, .ref x1), (2, .ref x2), (3, .ref x3), (4, .ref x4), (5, .int x5)]) hl [1, 2, 3, 4, 5, 6] rfl)
    · replace h := h.2 hc106
      refine lv_aload_n hx hb dL_law_1612 rfl (lv_at hl 4 rfl) ?_
      refine lv_iconst (v := 0) hx hb dL_law_1613 (by decide) ?_
      obtain ⟨hK_x3, h⟩ := h
      obtain ⟨hi107, h⟩ := h
      refine x_lald C hR hK_x3 hi107 dL_law_1614 ?_
      refine lv_topl (fun j108 ej108 => ?_)
      replace h := h j108 ej108
      refine lv_iload hx hb dL_law_1615 (lv_at hl 0 rfl) ?_
      refine lv_i2l hx hb dL_law_1617 rfl ?_
      refine lv_topl (fun j109 ej109 => ?_)
      replace h := h j109 ej109
      refine W.lcmp hx hb dL_law_1618 ?_
      refine lv_topi (fun x110 ex110 => ?_)
      replace h := h x110 ex110
      refine lv_if_eq (tgt := 1624) hx hb dL_law_1619 (by decide) (fun hc111 => ?_) (fun hc111 => ?_)
      · replace h := h.1 hc111
        exact tA_L_law_b1624 C hml hst hX hbl hbA hret hk hk28 h H locs ls hR hS (lv_sub (l' := [(0, .ref bb), (1, .ref x1), (2, .ref x2), (3, .ref x3), (4, .ref x4), (5, .int x5)]) hl [1, 2, 3, 4, 5, 6] rfl)
      · replace h := h.2 hc111
        refine lv_iconst (v := 0) hx hb dL_law_1622 (by decide) ?_
        exact h.elim
  · replace h := h.2 hc105
    refine lv_iconst (v := 0) hx hb dL_law_1605 (by decide) ?_
    exact h.elim
set_option maxHeartbeats 4000000 in
theorem tA_L_law_b1564 {sc : Nat × (Nat → Int32)} {mc ms : Nat} (C : x_C p s m args c cL_law RL gg) (hml : c.maxLocals = 9) (hst : l.stackTraces = false) (hX : va_X bb sc.1 sc.2 s s.heap) (hbl : bb < s.heap.size) (hbA : ¬ s_A gg bb) (hret : ∀ (pc : Nat) (H : Heap) (ls : Array Slot) (locs : List Loc), decode cL_law pc = .ok (.ireturn, 1) → (∀ q ∈ locs, s_A gg q.base) → W p l e (rA_L_law mc ms) s m args below meth c H locs mc ms QQ (F0 m pc ls [.int 1])) {kc ks : Nat} (hk : kc ≤ mc ∧ ks ≤ ms) {x1 : Nat} {x2 : Nat} {x3 : Nat} {x4 : Nat} {x5 : Int32} {y0 : Int32} {y1 : Int32} {y2 : Nat} {kk28 : Nat → Nat → Nat → Nat → Nat → Nat → Int32 → sT → Prop} {S : sT} (hk28 : ∀ (kc ks : Nat) (x1 : Nat) (x2 : Nat) (x3 : Nat) (x4 : Nat) (x5 : Int32) (S : sT), kc ≤ mc ∧ ks ≤ ms → kk28 kc ks x1 x2 x3 x4 x5 S → x_X p l e (rA_L_law mc ms) s m args below meth c gg 9 kc ks QQ 28 [(0, .ref bb), (1, .ref x1), (2, .ref x2), (3, .ref x3), (4, .ref x4), (5, .int x5)] [] S) (h : wA_L_law_b1564 mc ms kc ks x1 x2 x3 x4 x5 y0 y1 y2 S kk28 sc) : x_X p l e (rA_L_law mc ms) s m args below meth c gg 9 kc ks QQ 1564 [(0, .ref bb), (1, .ref x1), (2, .ref x2), (3, .ref x3), (4, .ref x4), (5, .int x5)] [.int y0, .int y1, .ref y2] S := by
  unfold wA_L_law_b1564 at h
  obtain ⟨hx, hb, -⟩ := id C
  intro H locs ls hR hS hl
  refine lv_aload_n hx hb dL_law_1564 rfl (lv_at hl 3 rfl) ?_
  obtain ⟨c101, d102, hk1, hk2, h⟩ := h
  refine x_ki (x_runSH (As := [.ref y2, .int y1, .int y0, .ref x3]) (rest := []) C hml hR hS (mA_L_thought l gg c101 d102 y2 y1 y0 x3 S hst h) b_L_thought q_35_22 rfl rfl ⟨Nat.le_of_ble_eq_true rfl, Nat.le_of_ble_eq_true rfl⟩ rfl hl.1 (Nat.le_of_ble_eq_true rfl) dL_law_1565 ⟨hk1, hk2⟩) hS (fun x104 S103 H locs hn hR hS => ?_)
  replace h := hn
  clear hn
  have hk : (kc + c101) ≤ mc ∧ (ks + d102) ≤ ms := ⟨hk1, hk2⟩
  refine lv_istore (lv' := [(6, .int x104), (0, .ref bb), (1, .ref x1), (2, .ref x2), (3, .ref x3), (4, .ref x4), (5, .int x5)]) hx hb dL_law_1568 hl (by decide) rfl (fun ls hl => ?_)
  refine lv_aload_n hx hb dL_law_1570 rfl (lv_at hl 3 rfl) ?_
  refine lv_aload_n hx hb dL_law_1571 rfl (lv_at hl 1 rfl) ?_
  refine lv_iload hx hb dL_law_1572 (lv_at hl 6 rfl) ?_
  refine lv_iconst (v := 1) hx hb dL_law_1574 (by decide) ?_
  refine lv_iadd hx hb dL_law_1575 ?_
  refine lv_topi (fun x105 ex105 => ?_)
  replace h := h x105 ex105
  obtain ⟨hi106, h⟩ := h
  refine va_sld hx hb hX hbl hbA hS hi106 dL_law_1576 ?_
  refine lv_topi (fun x107 ex107 => ?_)
  replace h := h x107 ex107
  refine lv_aload_n hx hb dL_law_1577 rfl (lv_at hl 1 rfl) ?_
  refine lv_iload hx hb dL_law_1578 (lv_at hl 6 rfl) ?_
  refine lv_iconst (v := 2) hx hb dL_law_1580 (by decide) ?_
  refine lv_iadd hx hb dL_law_1581 ?_
  refine lv_topi (fun x108 ex108 => ?_)
  replace h := h x108 ex108
  obtain ⟨hi109, h⟩ := h
  refine va_sld hx hb hX hbl hbA hS hi109 dL_law_1582 ?_
  refine lv_topi (fun x110 ex110 => ?_)
  replace h := h x110 ex110
  refine lv_if_eq (tgt := 1590) hx hb dL_law_1583 (by decide) (fun hc111 => ?_) (fun hc111 => ?_)
  · replace h := h.1 hc111
    refine lv_iconst (v := 0) hx hb dL_law_1590 (by decide) ?_
    exact tA_L_law_b1591 C hml hst hX hbl hbA hret hk hk28 h H locs ls hR hS (lv_sub (l' := [(0, .ref bb), (1, .ref x1), (2, .ref x2), (3, .ref x3), (4, .ref x4), (5, .int x5), (6, .int x104)]) hl [1, 2, 3, 4, 5, 6, 0] rfl)
  · replace h := h.2 hc111
    refine lv_iconst (v := 1) hx hb dL_law_1586 (by decide) ?_
    refine lv_goto (tgt := 1591) hx hb dL_law_1587 (by decide) ?_
    exact tA_L_law_b1591 C hml hst hX hbl hbA hret hk hk28 h H locs ls hR hS (lv_sub (l' := [(0, .ref bb), (1, .ref x1), (2, .ref x2), (3, .ref x3), (4, .ref x4), (5, .int x5), (6, .int x104)]) hl [1, 2, 3, 4, 5, 6, 0] rfl)
set_option maxHeartbeats 4000000 in
theorem tA_L_law_b647 {sc : Nat × (Nat → Int32)} {mc ms : Nat} (C : x_C p s m args c cL_law RL gg) (hml : c.maxLocals = 9) (hst : l.stackTraces = false) (hX : va_X bb sc.1 sc.2 s s.heap) (hbl : bb < s.heap.size) (hbA : ¬ s_A gg bb) (hret : ∀ (pc : Nat) (H : Heap) (ls : Array Slot) (locs : List Loc), decode cL_law pc = .ok (.ireturn, 1) → (∀ q ∈ locs, s_A gg q.base) → W p l e (rA_L_law mc ms) s m args below meth c H locs mc ms QQ (F0 m pc ls [.int 1])) {kc ks : Nat} (hk : kc ≤ mc ∧ ks ≤ ms) {x1 : Nat} {x2 : Nat} {x3 : Nat} {x4 : Nat} {x5 : Int32} {kk28 : Nat → Nat → Nat → Nat → Nat → Nat → Int32 → sT → Prop} {S : sT} (hk28 : ∀ (kc ks : Nat) (x1 : Nat) (x2 : Nat) (x3 : Nat) (x4 : Nat) (x5 : Int32) (S : sT), kc ≤ mc ∧ ks ≤ ms → kk28 kc ks x1 x2 x3 x4 x5 S → x_X p l e (rA_L_law mc ms) s m args below meth c gg 9 kc ks QQ 28 [(0, .ref bb), (1, .ref x1), (2, .ref x2), (3, .ref x3), (4, .ref x4), (5, .int x5)] [] S) (h : wA_L_law_b647 mc ms kc ks x1 x2 x3 x4 x5 S kk28 sc) : x_X p l e (rA_L_law mc ms) s m args below meth c gg 9 kc ks QQ 647 [(0, .ref bb), (1, .ref x1), (2, .ref x2), (3, .ref x3), (4, .ref x4), (5, .int x5)] [] S := by
  unfold wA_L_law_b647 at h
  obtain ⟨hx, hb, -⟩ := id C
  intro H locs ls hR hS hl
  refine lv_goto (tgt := 2022) hx hb dL_law_647 (by decide) ?_
  exact tA_L_law_b2022 C hml hst hX hbl hbA hret hk hk28 h H locs ls hR hS (lv_sub (l' := [(0, .ref bb), (1, .ref x1), (2, .ref x2), (3, .ref x3), (4, .ref x4), (5, .int x5)]) hl [0, 1, 2, 3, 4, 5] rfl)
set_option maxHeartbeats 4000000 in
theorem tA_L_law_b1007 {sc : Nat × (Nat → Int32)} {mc ms : Nat} (C : x_C p s m args c cL_law RL gg) (hml : c.maxLocals = 9) (hst : l.stackTraces = false) (hX : va_X bb sc.1 sc.2 s s.heap) (hbl : bb < s.heap.size) (hbA : ¬ s_A gg bb) (hret : ∀ (pc : Nat) (H : Heap) (ls : Array Slot) (locs : List Loc), decode cL_law pc = .ok (.ireturn, 1) → (∀ q ∈ locs, s_A gg q.base) → W p l e (rA_L_law mc ms) s m args below meth c H locs mc ms QQ (F0 m pc ls [.int 1])) {kc ks : Nat} (hk : kc ≤ mc ∧ ks ≤ ms) {x1 : Nat} {x2 : Nat} {x3 : Nat} {x4 : Nat} {x5 : Int32} {kk28 : Nat → Nat → Nat → Nat → Nat → Nat → Int32 → sT → Prop} {S : sT} (hk28 : ∀ (kc ks : Nat) (x1 : Nat) (x2 : Nat) (x3 : Nat) (x4 : Nat) (x5 : Int32) (S : sT), kc ≤ mc ∧ ks ≤ ms → kk28 kc ks x1 x2 x3 x4 x5 S → x_X p l e (rA_L_law mc ms) s m args below meth c gg 9 kc ks QQ 28 [(0, .ref bb), (1, .ref x1), (2, .ref x2), (3, .ref x3), (4, .ref x4), (5, .int x5)] [] S) (h : wA_L_law_b1007 mc ms kc ks x1 x2 x3 x4 x5 S kk28 sc) : x_X p l e (rA_L_law mc ms) s m args below meth c gg 9 kc ks QQ 1007 [(0, .ref bb), (1, .ref x1), (2, .ref x2), (3, .ref x3), (4, .ref x4), (5, .int x5)] [] S := by
  unfold wA_L_law_b1007 at h
  obtain ⟨hx, hb, -⟩ := id C
  intro H locs ls hR hS hl
  refine lv_goto (tgt := 2022) hx hb dL_law_1007 (by decide) ?_
  exact tA_L_law_b2022 C hml hst hX hbl hbA hret hk hk28 h H locs ls hR hS (lv_sub (l' := [(0, .ref bb), (1, .ref x1), (2, .ref x2), (3, .ref x3), (4, .ref x4), (5, .int x5)]) hl [0, 1, 2, 3, 4, 5] rfl)
set_option maxHeartbeats 4000000 in
theorem tA_L_law_b1143 {sc : Nat × (Nat → Int32)} {mc ms : Nat} (C : x_C p s m args c cL_law RL gg) (hml : c.maxLocals = 9) (hst : l.stackTraces = false) (hX : va_X bb sc.1 sc.2 s s.heap) (hbl : bb < s.heap.size) (hbA : ¬ s_A gg bb) (hret : ∀ (pc : Nat) (H : Heap) (ls : Array Slot) (locs : List Loc), decode cL_law pc = .ok (.ireturn, 1) → (∀ q ∈ locs, s_A gg q.base) → W p l e (rA_L_law mc ms) s m args below meth c H locs mc ms QQ (F0 m pc ls [.int 1])) {kc ks : Nat} (hk : kc ≤ mc ∧ ks ≤ ms) {x1 : Nat} {x2 : Nat} {x3 : Nat} {x4 : Nat} {x5 : Int32} {kk28 : Nat → Nat → Nat → Nat → Nat → Nat → Int32 → sT → Prop} {S : sT} (hk28 : ∀ (kc ks : Nat) (x1 : Nat) (x2 : Nat) (x3 : Nat) (x4 : Nat) (x5 : Int32) (S : sT), kc ≤ mc ∧ ks ≤ ms → kk28 kc ks x1 x2 x3 x4 x5 S → x_X p l e (rA_L_law mc ms) s m args below meth c gg 9 kc ks QQ 28 [(0, .ref bb), (1, .ref x1), (2, .ref x2), (3, .ref x3), (4, .ref x4), (5, .int x5)] [] S) (h : wA_L_law_b1143 mc ms kc ks x1 x2 x3 x4 x5 S kk28 sc) : x_X p l e (rA_L_law mc ms) s m args below meth c gg 9 kc ks QQ 1143 [(0, .ref bb), (1, .ref x1), (2, .ref x2), (3, .ref x3), (4, .ref x4), (5, .int x5)] [] S := by
  unfold wA_L_law_b1143 at h
  obtain ⟨hx, hb, -⟩ := id C
  intro H locs ls hR hS hl
  refine lv_goto (tgt := 2022) hx hb dL_law_1143 (by decide) ?_
  exact tA_L_law_b2022 C hml hst hX hbl hbA hret hk hk28 h H locs ls hR hS (lv_sub (l' := [(0, .ref bb), (1, .ref x1), (2, .ref x2), (3, .ref x3), (4, .ref x4), (5, .int x5)]) hl [0, 1, 2, 3, 4, 5] rfl)
set_option maxHeartbeats 4000000 in
theorem tA_L_law_b1267 {sc : Nat × (Nat → Int32)} {mc ms : Nat} (C : x_C p s m args c cL_law RL gg) (hml : c.maxLocals = 9) (hst : l.stackTraces = false) (hX : va_X bb sc.1 sc.2 s s.heap) (hbl : bb < s.heap.size) (hbA : ¬ s_A gg bb) (hret : ∀ (pc : Nat) (H : Heap) (ls : Array Slot) (locs : List Loc), decode cL_law pc = .ok (.ireturn, 1) → (∀ q ∈ locs, s_A gg q.base) → W p l e (rA_L_law mc ms) s m args below meth c H locs mc ms QQ (F0 m pc ls [.int 1])) {kc ks : Nat} (hk : kc ≤ mc ∧ ks ≤ ms) {x1 : Nat} {x2 : Nat} {x3 : Nat} {x4 : Nat} {x5 : Int32} {kk28 : Nat → Nat → Nat → Nat → Nat → Nat → Int32 → sT → Prop} {S : sT} (hk28 : ∀ (kc ks : Nat) (x1 : Nat) (x2 : Nat) (x3 : Nat) (x4 : Nat) (x5 : Int32) (S : sT), kc ≤ mc ∧ ks ≤ ms → kk28 kc ks x1 x2 x3 x4 x5 S → x_X p l e (rA_L_law mc ms) s m args below meth c gg 9 kc ks QQ 28 [(0, .ref bb), (1, .ref x1), (2, .ref x2), (3, .ref x3), (4, .ref x4), (5, .int x5)] [] S) (h : wA_L_law_b1267 mc ms kc ks x1 x2 x3 x4 x5 S kk28 sc) : x_X p l e (rA_L_law mc ms) s m args below meth c gg 9 kc ks QQ 1267 [(0, .ref bb), (1, .ref x1), (2, .ref x2), (3, .ref x3), (4, .ref x4), (5, .int x5)] [] S := by
  unfold wA_L_law_b1267 at h
  obtain ⟨hx, hb, -⟩ := id C
  intro H locs ls hR hS hl
  refine lv_goto (tgt := 2022) hx hb dL_law_1267 (by decide) ?_
  exact tA_L_law_b2022 C hml hst hX hbl hbA hret hk hk28 h H locs ls hR hS (lv_sub (l' := [(0, .ref bb), (1, .ref x1), (2, .ref x2), (3, .ref x3), (4, .ref x4), (5, .int x5)]) hl [0, 1, 2, 3, 4, 5] rfl)
set_option maxHeartbeats 4000000 in
theorem tA_L_law_b1527 {sc : Nat × (Nat → Int32)} {mc ms : Nat} (C : x_C p s m args c cL_law RL gg) (hml : c.maxLocals = 9) (hst : l.stackTraces = false) (hX : va_X bb sc.1 sc.2 s s.heap) (hbl : bb < s.heap.size) (hbA : ¬ s_A gg bb) (hret : ∀ (pc : Nat) (H : Heap) (ls : Array Slot) (locs : List Loc), decode cL_law pc = .ok (.ireturn, 1) → (∀ q ∈ locs, s_A gg q.base) → W p l e (rA_L_law mc ms) s m args below meth c H locs mc ms QQ (F0 m pc ls [.int 1])) {kc ks : Nat} (hk : kc ≤ mc ∧ ks ≤ ms) {x1 : Nat} {x2 : Nat} {x3 : Nat} {x4 : Nat} {x5 : Int32} {kk28 : Nat → Nat → Nat → Nat → Nat → Nat → Int32 → sT → Prop} {S : sT} (hk28 : ∀ (kc ks : Nat) (x1 : Nat) (x2 : Nat) (x3 : Nat) (x4 : Nat) (x5 : Int32) (S : sT), kc ≤ mc ∧ ks ≤ ms → kk28 kc ks x1 x2 x3 x4 x5 S → x_X p l e (rA_L_law mc ms) s m args below meth c gg 9 kc ks QQ 28 [(0, .ref bb), (1, .ref x1), (2, .ref x2), (3, .ref x3), (4, .ref x4), (5, .int x5)] [] S) (h : wA_L_law_b1527 mc ms kc ks x1 x2 x3 x4 x5 S kk28 sc) : x_X p l e (rA_L_law mc ms) s m args below meth c gg 9 kc ks QQ 1527 [(0, .ref bb), (1, .ref x1), (2, .ref x2), (3, .ref x3), (4, .ref x4), (5, .int x5)] [] S := by
  unfold wA_L_law_b1527 at h
  obtain ⟨hx, hb, -⟩ := id C
  intro H locs ls hR hS hl
  refine lv_goto (tgt := 2022) hx hb dL_law_1527 (by decide) ?_
  exact tA_L_law_b2022 C hml hst hX hbl hbA hret hk hk28 h H locs ls hR hS (lv_sub (l' := [(0, .ref bb), (1, .ref x1), (2, .ref x2), (3, .ref x3), (4, .ref x4), (5, .int x5)]) hl [0, 1, 2, 3, 4, 5] rfl)
set_option maxHeartbeats 4000000 in
theorem tA_L_law_b1680 {sc : Nat × (Nat → Int32)} {mc ms : Nat} (C : x_C p s m args c cL_law RL gg) (hml : c.maxLocals = 9) (hst : l.stackTraces = false) (hX : va_X bb sc.1 sc.2 s s.heap) (hbl : bb < s.heap.size) (hbA : ¬ s_A gg bb) (hret : ∀ (pc : Nat) (H : Heap) (ls : Array Slot) (locs : List Loc), decode cL_law pc = .ok (.ireturn, 1) → (∀ q ∈ locs, s_A gg q.base) → W p l e (rA_L_law mc ms) s m args below meth c H locs mc ms QQ (F0 m pc ls [.int 1])) {kc ks : Nat} (hk : kc ≤ mc ∧ ks ≤ ms) {x1 : Nat} {x2 : Nat} {x3 : Nat} {x4 : Nat} {x5 : Int32} {kk28 : Nat → Nat → Nat → Nat → Nat → Nat → Int32 → sT → Prop} {S : sT} (hk28 : ∀ (kc ks : Nat) (x1 : Nat) (x2 : Nat) (x3 : Nat) (x4 : Nat) (x5 : Int32) (S : sT), kc ≤ mc ∧ ks ≤ ms → kk28 kc ks x1 x2 x3 x4 x5 S → x_X p l e (rA_L_law mc ms) s m args below meth c gg 9 kc ks QQ 28 [(0, .ref bb), (1, .ref x1), (2, .ref x2), (3, .ref x3), (4, .ref x4), (5, .int x5)] [] S) (h : wA_L_law_b1680 mc ms kc ks x1 x2 x3 x4 x5 S kk28 sc) : x_X p l e (rA_L_law mc ms) s m args below meth c gg 9 kc ks QQ 1680 [(0, .ref bb), (1, .ref x1), (2, .ref x2), (3, .ref x3), (4, .ref x4), (5, .int x5)] [] S := by
  unfold wA_L_law_b1680 at h
  obtain ⟨hx, hb, -⟩ := id C
  intro H locs ls hR hS hl
  refine lv_goto (tgt := 2022) hx hb dL_law_1680 (by decide) ?_
  exact tA_L_law_b2022 C hml hst hX hbl hbA hret hk hk28 h H locs ls hR hS (lv_sub (l' := [(0, .ref bb), (1, .ref x1), (2, .ref x2), (3, .ref x3), (4, .ref x4), (5, .int x5)]) hl [0, 1, 2, 3, 4, 5] rfl)
set_option maxHeartbeats 4000000 in
theorem tA_L_law_b1757 {sc : Nat × (Nat → Int32)} {mc ms : Nat} (C : x_C p s m args c cL_law RL gg) (hml : c.maxLocals = 9) (hst : l.stackTraces = false) (hX : va_X bb sc.1 sc.2 s s.heap) (hbl : bb < s.heap.size) (hbA : ¬ s_A gg bb) (hret : ∀ (pc : Nat) (H : Heap) (ls : Array Slot) (locs : List Loc), decode cL_law pc = .ok (.ireturn, 1) → (∀ q ∈ locs, s_A gg q.base) → W p l e (rA_L_law mc ms) s m args below meth c H locs mc ms QQ (F0 m pc ls [.int 1])) {kc ks : Nat} (hk : kc ≤ mc ∧ ks ≤ ms) {x1 : Nat} {x2 : Nat} {x3 : Nat} {x4 : Nat} {x5 : Int32} {kk28 : Nat → Nat → Nat → Nat → Nat → Nat → Int32 → sT → Prop} {S : sT} (hk28 : ∀ (kc ks : Nat) (x1 : Nat) (x2 : Nat) (x3 : Nat) (x4 : Nat) (x5 : Int32) (S : sT), kc ≤ mc ∧ ks ≤ ms → kk28 kc ks x1 x2 x3 x4 x5 S → x_X p l e (rA_L_law mc ms) s m args below meth c gg 9 kc ks QQ 28 [(0, .ref bb), (1, .ref x1), (2, .ref x2), (3, .ref x3), (4, .ref x4), (5, .int x5)] [] S) (h : wA_L_law_b1757 mc ms kc ks x1 x2 x3 x4 x5 S kk28 sc) : x_X p l e (rA_L_law mc ms) s m args below meth c gg 9 kc ks QQ 1757 [(0, .ref bb), (1, .ref x1), (2, .ref x2), (3, .ref x3), (4, .ref x4), (5, .int x5)] [] S := by
  unfold wA_L_law_b1757 at h
  obtain ⟨hx, hb, -⟩ := id C
  intro H locs ls hR hS hl
  refine lv_goto (tgt := 2022) hx hb dL_law_1757 (by decide) ?_
  exact tA_L_law_b2022 C hml hst hX hbl hbA hret hk hk28 h H locs ls hR hS (lv_sub (l' := [(0, .ref bb), (1, .ref x1), (2, .ref x2), (3, .ref x3), (4, .ref x4), (5, .int x5)]) hl [0, 1, 2, 3, 4, 5] rfl)
set_option maxHeartbeats 4000000 in
theorem tA_L_law_b1813 {sc : Nat × (Nat → Int32)} {mc ms : Nat} (C : x_C p s m args c cL_law RL gg) (hml : c.maxLocals = 9) (hst : l.stackTraces = false) (hX : va_X bb sc.1 sc.2 s s.heap) (hbl : bb < s.heap.size) (hbA : ¬ s_A gg bb) (hret : ∀ (pc : Nat) (H : Heap) (ls : Array Slot) (locs : List Loc), decode cL_law pc = .ok (.ireturn, 1) → (∀ q ∈ locs, s_A gg q.base) → W p l e (rA_L_law mc ms) s m args below meth c H locs mc ms QQ (F0 m pc ls [.int 1])) {kc ks : Nat} (hk : kc ≤ mc ∧ ks ≤ ms) {x1 : Nat} {x2 : Nat} {x3 : Nat} {x4 : Nat} {x5 : Int32} {kk28 : Nat → Nat → Nat → Nat → Nat → Nat → Int32 → sT → Prop} {S : sT} (hk28 : ∀ (kc ks : Nat) (x1 : Nat) (x2 : Nat) (x3 : Nat) (x4 : Nat) (x5 : Int32) (S : sT), kc ≤ mc ∧ ks ≤ ms → kk28 kc ks x1 x2 x3 x4 x5 S → x_X p l e (rA_L_law mc ms) s m args below meth c gg 9 kc ks QQ 28 [(0, .ref bb), (1, .ref x1), (2, .ref x2), (3, .ref x3), (4, .ref x4), (5, .int x5)] [] S) (h : wA_L_law_b1813 mc ms kc ks x1 x2 x3 x4 x5 S kk28 sc) : x_X p l e (rA_L_law mc ms) s m args below meth c gg 9 kc ks QQ 1813 [(0, .ref bb), (1, .ref x1), (2, .ref x2), (3, .ref x3), (4, .ref x4), (5, .int x5)] [] S := by
  unfold wA_L_law_b1813 at h
  obtain ⟨hx, hb, -⟩ := id C
  intro H locs ls hR hS hl
  refine lv_goto (tgt := 2022) hx hb dL_law_1813 (by decide) ?_
  exact tA_L_law_b2022 C hml hst hX hbl hbA hret hk hk28 h H locs ls hR hS (lv_sub (l' := [(0, .ref bb), (1, .ref x1), (2, .ref x2), (3, .ref x3), (4, .ref x4), (5, .int x5)]) hl [0, 1, 2, 3, 4, 5] rfl)
set_option maxHeartbeats 4000000 in
theorem tA_L_law_b1937 {sc : Nat × (Nat → Int32)} {mc ms : Nat} (C : x_C p s m args c cL_law RL gg) (hml : c.maxLocals = 9) (hst : l.stackTraces = false) (hX : va_X bb sc.1 sc.2 s s.heap) (hbl : bb < s.heap.size) (hbA : ¬ s_A gg bb) (hret : ∀ (pc : Nat) (H : Heap) (ls : Array Slot) (locs : List Loc), decode cL_law pc = .ok (.ireturn, 1) → (∀ q ∈ locs, s_A gg q.base) → W p l e (rA_L_law mc ms) s m args below meth c H locs mc ms QQ (F0 m pc ls [.int 1])) {kc ks : Nat} (hk : kc ≤ mc ∧ ks ≤ ms) {x1 : Nat} {x2 : Nat} {x3 : Nat} {x4 : Nat} {x5 : Int32} {kk28 : Nat → Nat → Nat → Nat → Nat → Nat → Int32 → sT → Prop} {S : sT} (hk28 : ∀ (kc ks : Nat) (x1 : Nat) (x2 : Nat) (x3 : Nat) (x4 : Nat) (x5 : Int32) (S : sT), kc ≤ mc ∧ ks ≤ ms → kk28 kc ks x1 x2 x3 x4 x5 S → x_X p l e (rA_L_law mc ms) s m args below meth c gg 9 kc ks QQ 28 [(0, .ref bb), (1, .ref x1), (2, .ref x2), (3, .ref x3), (4, .ref x4), (5, .int x5)] [] S) (h : wA_L_law_b1937 mc ms kc ks x1 x2 x3 x4 x5 S kk28 sc) : x_X p l e (rA_L_law mc ms) s m args below meth c gg 9 kc ks QQ 1937 [(0, .ref bb), (1, .ref x1), (2, .ref x2), (3, .ref x3), (4, .ref x4), (5, .int x5)] [] S := by
  unfold wA_L_law_b1937 at h
  obtain ⟨hx, hb, -⟩ := id C
  intro H locs ls hR hS hl
  refine lv_goto (tgt := 2022) hx hb dL_law_1937 (by decide) ?_
  exact tA_L_law_b2022 C hml hst hX hbl hbA hret hk hk28 h H locs ls hR hS (lv_sub (l' := [(0, .ref bb), (1, .ref x1), (2, .ref x2), (3, .ref x3), (4, .ref x4), (5, .int x5)]) hl [0, 1, 2, 3, 4, 5] rfl)
set_option maxHeartbeats 4000000 in
theorem tA_L_law_b500 {sc : Nat × (Nat → Int32)} {mc ms : Nat} (C : x_C p s m args c cL_law RL gg) (hml : c.maxLocals = 9) (hst : l.stackTraces = false) (hX : va_X bb sc.1 sc.2 s s.heap) (hbl : bb < s.heap.size) (hbA : ¬ s_A gg bb) (hret : ∀ (pc : Nat) (H : Heap) (ls : Array Slot) (locs : List Loc), decode cL_law pc = .ok (.ireturn, 1) → (∀ q ∈ locs, s_A gg q.base) → W p l e (rA_L_law mc ms) s m args below meth c H locs mc ms QQ (F0 m pc ls [.int 1])) {kc ks : Nat} (hk : kc ≤ mc ∧ ks ≤ ms) {x1 : Nat} {x2 : Nat} {x3 : Nat} {x4 : Nat} {x5 : Int32} {kk28 : Nat → Nat → Nat → Nat → Nat → Nat → Int32 → sT → Prop} {S : sT} (hk28 : ∀ (kc ks : Nat) (x1 : Nat) (x2 : Nat) (x3 : Nat) (x4 : Nat) (x5 : Int32) (S : sT), kc ≤ mc ∧ ks ≤ ms → kk28 kc ks x1 x2 x3 x4 x5 S → x_X p l e (rA_L_law mc ms) s m args below meth c gg 9 kc ks QQ 28 [(0, .ref bb), (1, .ref x1), (2, .ref x2), (3, .ref x3), (4, .ref x4), (5, .int x5)] [] S) (h : wA_L_law_b500 mc ms kc ks x1 x2 x3 x4 x5 S kk28 sc) : x_X p l e (rA_L_law mc ms) s m args below meth c gg 9 kc ks QQ 500 [(0, .ref bb), (1, .ref x1), (2, .ref x2), (3, .ref x3), (4, .ref x4), (5, .int x5)] [] S := by
  unfold wA_L_law_b500 at h
  obtain ⟨hx, hb, -⟩ := id C
  intro H locs ls hR hS hl
  refine lv_goto (tgt := 2022) hx hb dL_law_500 (by decide) ?_
  exact tA_L_law_b2022 C hml hst hX hbl hbA hret hk hk28 h H locs ls hR hS (lv_sub (l' := [(0, .ref bb), (1, .ref x1), (2, .ref x2), (3, .ref x3), (4, .ref x4), (5, .int x5)]) hl [0, 1, 2, 3, 4, 5] rfl)
set_option maxHeartbeats 4000000 in
theorem tA_L_law_b715 {sc : Nat × (Nat → Int32)} {mc ms : Nat} (C : x_C p s m args c cL_law RL gg) (hml : c.maxLocals = 9) (hst : l.stackTraces = false) (hX : va_X bb sc.1 sc.2 s s.heap) (hbl : bb < s.heap.size) (hbA : ¬ s_A gg bb) (hret : ∀ (pc : Nat) (H : Heap) (ls : Array Slot) (locs : List Loc), decode cL_law pc = .ok (.ireturn, 1) → (∀ q ∈ locs, s_A gg q.base) → W p l e (rA_L_law mc ms) s m args below meth c H locs mc ms QQ (F0 m pc ls [.int 1])) {kc ks : Nat} (hk : kc ≤ mc ∧ ks ≤ ms) {x1 : Nat} {x2 : Nat} {x3 : Nat} {x4 : Nat} {x5 : Int32} {kk28 : Nat → Nat → Nat → Nat → Nat → Nat → Int32 → sT → Prop} {S : sT} (hk28 : ∀ (kc ks : Nat) (x1 : Nat) (x2 : Nat) (x3 : Nat) (x4 : Nat) (x5 : Int32) (S : sT), kc ≤ mc ∧ ks ≤ ms → kk28 kc ks x1 x2 x3 x4 x5 S → x_X p l e (rA_L_law mc ms) s m args below meth c gg 9 kc ks QQ 28 [(0, .ref bb), (1, .ref x1), (2, .ref x2), (3, .ref x3), (4, .ref x4), (5, .int x5)] [] S) (h : wA_L_law_b715 mc ms kc ks x1 x2 x3 x4 x5 S kk28 sc) : x_X p l e (rA_L_law mc ms) s m args below meth c gg 9 kc ks QQ 715 [(0, .ref bb), (1, .ref x1), (2, .ref x2), (3, .ref x3), (4, .ref x4), (5, .int x5)] [] S := by
  unfold wA_L_law_b715 at h
  obtain ⟨hx, hb, -⟩ := id C
  intro H locs ls hR hS hl
  refine lv_goto (tgt := 2022) hx hb dL_law_715 (by decide) ?_
  exact tA_L_law_b2022 C hml hst hX hbl hbA hret hk hk28 h H locs ls hR hS (lv_sub (l' := [(0, .ref bb), (1, .ref x1), (2, .ref x2), (3, .ref x3), (4, .ref x4), (5, .int x5)]) hl [0, 1, 2, 3, 4, 5] rfl)
set_option maxHeartbeats 4000000 in
theorem tA_L_law_b783 {sc : Nat × (Nat → Int32)} {mc ms : Nat} (C : x_C p s m args c cL_law RL gg) (hml : c.maxLocals = 9) (hst : l.stackTraces = false) (hX : va_X bb sc.1 sc.2 s s.heap) (hbl : bb < s.heap.size) (hbA : ¬ s_A gg bb) (hret : ∀ (pc : Nat) (H : Heap) (ls : Array Slot) (locs : List Loc), decode cL_law pc = .ok (.ireturn, 1) → (∀ q ∈ locs, s_A gg q.base) → W p l e (rA_L_law mc ms) s m args below meth c H locs mc ms QQ (F0 m pc ls [.int 1])) {kc ks : Nat} (hk : kc ≤ mc ∧ ks ≤ ms) {x1 : Nat} {x2 : Nat} {x3 : Nat} {x4 : Nat} {x5 : Int32} {kk28 : Nat → Nat → Nat → Nat → Nat → Nat → Int32 → sT → Prop} {S : sT} (hk28 : ∀ (kc ks : Nat) (x1 : Nat) (x2 : Nat) (x3 : Nat) (x4 : Nat) (x5 : Int32) (S : sT), kc ≤ mc ∧ ks ≤ ms → kk28 kc ks x1 x2 x3 x4 x5 S → x_X p l e (rA_L_law mc ms) s m args below meth c gg 9 kc ks QQ 28 [(0, .ref bb), (1, .ref x1), (2, .ref x2), (3, .ref x3), (4, .ref x4), (5, .int x5)] [] S) (h : wA_L_law_b783 mc ms kc ks x1 x2 x3 x4 x5 S kk28 sc) : x_X p l e (rA_L_law mc ms) s m args below meth c gg 9 kc ks QQ 783 [(0, .ref bb), (1, .ref x1), (2, .ref x2), (3, .ref x3), (4, .ref x4), (5, .int x5)] [] S := by
  unfold wA_L_law_b783 at h
  obtain ⟨hx, hb, -⟩ := id C
  intro H locs ls hR hS hl
  refine lv_goto (tgt := 2022) hx hb dL_law_783 (by decide) ?_
  exact tA_L_law_b2022 C hml hst hX hbl hbA hret hk hk28 h H locs ls hR hS (lv_sub (l' := [(0, .ref bb), (1, .ref x1), (2, .ref x2), (3, .ref x3), (4, .ref x4), (5, .int x5)]) hl [0, 1, 2, 3, 4, 5] rfl)
set_option maxHeartbeats 4000000 in
theorem tA_L_law_b1211 {sc : Nat × (Nat → Int32)} {mc ms : Nat} (C : x_C p s m args c cL_law RL gg) (hml : c.maxLocals = 9) (hst : l.stackTraces = false) (hX : va_X bb sc.1 sc.2 s s.heap) (hbl : bb < s.heap.size) (hbA : ¬ s_A gg bb) (hret : ∀ (pc : Nat) (H : Heap) (ls : Array Slot) (locs : List Loc), decode cL_law pc = .ok (.ireturn, 1) → (∀ q ∈ locs, s_A gg q.base) → W p l e (rA_L_law mc ms) s m args below meth c H locs mc ms QQ (F0 m pc ls [.int 1])) {kc ks : Nat} (hk : kc ≤ mc ∧ ks ≤ ms) {x1 : Nat} {x2 : Nat} {x3 : Nat} {x4 : Nat} {x5 : Int32} {kk28 : Nat → Nat → Nat → Nat → Nat → Nat → Int32 → sT → Prop} {S : sT} (hk28 : ∀ (kc ks : Nat) (x1 : Nat) (x2 : Nat) (x3 : Nat) (x4 : Nat) (x5 : Int32) (S : sT), kc ≤ mc ∧ ks ≤ ms → kk28 kc ks x1 x2 x3 x4 x5 S → x_X p l e (rA_L_law mc ms) s m args below meth c gg 9 kc ks QQ 28 [(0, .ref bb), (1, .ref x1), (2, .ref x2), (3, .ref x3), (4, .ref x4), (5, .int x5)] [] S) (h : wA_L_law_b1211 mc ms kc ks x1 x2 x3 x4 x5 S kk28 sc) : x_X p l e (rA_L_law mc ms) s m args below meth c gg 9 kc ks QQ 1211 [(0, .ref bb), (1, .ref x1), (2, .ref x2), (3, .ref x3), (4, .ref x4), (5, .int x5)] [] S := by
  unfold wA_L_law_b1211 at h
  obtain ⟨hx, hb, -⟩ := id C
  intro H locs ls hR hS hl
  refine lv_goto (tgt := 2022) hx hb dL_law_1211 (by decide) ?_
  exact tA_L_law_b2022 C hml hst hX hbl hbA hret hk hk28 h H locs ls hR hS (lv_sub (l' := [(0, .ref bb), (1, .ref x1), (2, .ref x2), (3, .ref x3), (4, .ref x4), (5, .int x5)]) hl [0, 1, 2, 3, 4, 5] rfl)
set_option maxHeartbeats 4000000 in
theorem tA_L_law_b1335 {sc : Nat × (Nat → Int32)} {mc ms : Nat} (C : x_C p s m args c cL_law RL gg) (hml : c.maxLocals = 9) (hst : l.stackTraces = false) (hX : va_X bb sc.1 sc.2 s s.heap) (hbl : bb < s.heap.size) (hbA : ¬ s_A gg bb) (hret : ∀ (pc : Nat) (H : Heap) (ls : Array Slot) (locs : List Loc), decode cL_law pc = .ok (.ireturn, 1) → (∀ q ∈ locs, s_A gg q.base) → W p l e (rA_L_law mc ms) s m args below meth c H locs mc ms QQ (F0 m pc ls [.int 1])) {kc ks : Nat} (hk : kc ≤ mc ∧ ks ≤ ms) {x1 : Nat} {x2 : Nat} {x3 : Nat} {x4 : Nat} {x5 : Int32} {kk28 : Nat → Nat → Nat → Nat → Nat → Nat → Int32 → sT → Prop} {S : sT} (hk28 : ∀ (kc ks : Nat) (x1 : Nat) (x2 : Nat) (x3 : Nat) (x4 : Nat) (x5 : Int32) (S : sT), kc ≤ mc ∧ ks ≤ ms → kk28 kc ks x1 x2 x3 x4 x5 S → x_X p l e (rA_L_law mc ms) s m args below meth c gg 9 kc ks QQ 28 [(0, .ref bb), (1, .ref x1), (2, .ref x2), (3, .ref x3), (4, .ref x4), (5, .int x5)] [] S) (h : wA_L_law_b1335 mc ms kc ks x1 x2 x3 x4 x5 S kk28 sc) : x_X p l e (rA_L_law mc ms) s m args below meth c gg 9 kc ks QQ 1335 [(0, .ref bb), (1, .ref x1), (2, .ref x2), (3, .ref x3), (4, .ref x4), (5, .int x5)] [] S := by
  unfold wA_L_law_b1335 at h
  obtain ⟨hx, hb, -⟩ := id C
  intro H locs ls hR hS hl
  refine lv_goto (tgt := 2022) hx hb dL_law_1335 (by decide) ?_
  exact tA_L_law_b2022 C hml hst hX hbl hbA hret hk hk28 h H locs ls hR hS (lv_sub (l' := [(0, .ref bb), (1, .ref x1), (2, .ref x2), (3, .ref x3), (4, .ref x4), (5, .int x5)]) hl [0, 1, 2, 3, 4, 5] rfl)
set_option maxHeartbeats 4000000 in
theorem tA_L_law_b1403 {sc : Nat × (Nat → Int32)} {mc ms : Nat} (C : x_C p s m args c cL_law RL gg) (hml : c.maxLocals = 9) (hst : l.stackTraces = false) (hX : va_X bb sc.1 sc.2 s s.heap) (hbl : bb < s.heap.size) (hbA : ¬ s_A gg bb) (hret : ∀ (pc : Nat) (H : Heap) (ls : Array Slot) (locs : List Loc), decode cL_law pc = .ok (.ireturn, 1) → (∀ q ∈ locs, s_A gg q.base) → W p l e (rA_L_law mc ms) s m args below meth c H locs mc ms QQ (F0 m pc ls [.int 1])) {kc ks : Nat} (hk : kc ≤ mc ∧ ks ≤ ms) {x1 : Nat} {x2 : Nat} {x3 : Nat} {x4 : Nat} {x5 : Int32} {kk28 : Nat → Nat → Nat → Nat → Nat → Nat → Int32 → sT → Prop} {S : sT} (hk28 : ∀ (kc ks : Nat) (x1 : Nat) (x2 : Nat) (x3 : Nat) (x4 : Nat) (x5 : Int32) (S : sT), kc ≤ mc ∧ ks ≤ ms → kk28 kc ks x1 x2 x3 x4 x5 S → x_X p l e (rA_L_law mc ms) s m args below meth c gg 9 kc ks QQ 28 [(0, .ref bb), (1, .ref x1), (2, .ref x2), (3, .ref x3), (4, .ref x4), (5, .int x5)] [] S) (h : wA_L_law_b1403 mc ms kc ks x1 x2 x3 x4 x5 S kk28 sc) : x_X p l e (rA_L_law mc ms) s m args below meth c gg 9 kc ks QQ 1403 [(0, .ref bb), (1, .ref x1), (2, .ref x2), (3, .ref x3), (4, .ref x4), (5, .int x5)] [] S := by
  unfold wA_L_law_b1403 at h
  obtain ⟨hx, hb, -⟩ := id C
  intro H locs ls hR hS hl
  refine lv_goto (tgt := 2022) hx hb dL_law_1403 (by decide) ?_
  exact tA_L_law_b2022 C hml hst hX hbl hbA hret hk hk28 h H locs ls hR hS (lv_sub (l' := [(0, .ref bb), (1, .ref x1), (2, .ref x2), (3, .ref x3), (4, .ref x4), (5, .int x5)]) hl [0, 1, 2, 3, 4, 5] rfl)
set_option maxHeartbeats 4000000 in
theorem tA_L_law_b1471 {sc : Nat × (Nat → Int32)} {mc ms : Nat} (C : x_C p s m args c cL_law RL gg) (hml : c.maxLocals = 9) (hst : l.stackTraces = false) (hX : va_X bb sc.1 sc.2 s s.heap) (hbl : bb < s.heap.size) (hbA : ¬ s_A gg bb) (hret : ∀ (pc : Nat) (H : Heap) (ls : Array Slot) (locs : List Loc), decode cL_law pc = .ok (.ireturn, 1) → (∀ q ∈ locs, s_A gg q.base) → W p l e (rA_L_law mc ms) s m args below meth c H locs mc ms QQ (F0 m pc ls [.int 1])) {kc ks : Nat} (hk : kc ≤ mc ∧ ks ≤ ms) {x1 : Nat} {x2 : Nat} {x3 : Nat} {x4 : Nat} {x5 : Int32} {kk28 : Nat → Nat → Nat → Nat → Nat → Nat → Int32 → sT → Prop} {S : sT} (hk28 : ∀ (kc ks : Nat) (x1 : Nat) (x2 : Nat) (x3 : Nat) (x4 : Nat) (x5 : Int32) (S : sT), kc ≤ mc ∧ ks ≤ ms → kk28 kc ks x1 x2 x3 x4 x5 S → x_X p l e (rA_L_law mc ms) s m args below meth c gg 9 kc ks QQ 28 [(0, .ref bb), (1, .ref x1), (2, .ref x2), (3, .ref x3), (4, .ref x4), (5, .int x5)] [] S) (h : wA_L_law_b1471 mc ms kc ks x1 x2 x3 x4 x5 S kk28 sc) : x_X p l e (rA_L_law mc ms) s m args below meth c gg 9 kc ks QQ 1471 [(0, .ref bb), (1, .ref x1), (2, .ref x2), (3, .ref x3), (4, .ref x4), (5, .int x5)] [] S := by
  unfold wA_L_law_b1471 at h
  obtain ⟨hx, hb, -⟩ := id C
  intro H locs ls hR hS hl
  refine lv_goto (tgt := 2022) hx hb dL_law_1471 (by decide) ?_
  exact tA_L_law_b2022 C hml hst hX hbl hbA hret hk hk28 h H locs ls hR hS (lv_sub (l' := [(0, .ref bb), (1, .ref x1), (2, .ref x2), (3, .ref x3), (4, .ref x4), (5, .int x5)]) hl [0, 1, 2, 3, 4, 5] rfl)
set_option maxHeartbeats 4000000 in
theorem tA_L_law_b1881 {sc : Nat × (Nat → Int32)} {mc ms : Nat} (C : x_C p s m args c cL_law RL gg) (hml : c.maxLocals = 9) (hst : l.stackTraces = false) (hX : va_X bb sc.1 sc.2 s s.heap) (hbl : bb < s.heap.size) (hbA : ¬ s_A gg bb) (hret : ∀ (pc : Nat) (H : Heap) (ls : Array Slot) (locs : List Loc), decode cL_law pc = .ok (.ireturn, 1) → (∀ q ∈ locs, s_A gg q.base) → W p l e (rA_L_law mc ms) s m args below meth c H locs mc ms QQ (F0 m pc ls [.int 1])) {kc ks : Nat} (hk : kc ≤ mc ∧ ks ≤ ms) {x1 : Nat} {x2 : Nat} {x3 : Nat} {x4 : Nat} {x5 : Int32} {kk28 : Nat → Nat → Nat → Nat → Nat → Nat → Int32 → sT → Prop} {S : sT} (hk28 : ∀ (kc ks : Nat) (x1 : Nat) (x2 : Nat) (x3 : Nat) (x4 : Nat) (x5 : Int32) (S : sT), kc ≤ mc ∧ ks ≤ ms → kk28 kc ks x1 x2 x3 x4 x5 S → x_X p l e (rA_L_law mc ms) s m args below meth c gg 9 kc ks QQ 28 [(0, .ref bb), (1, .ref x1), (2, .ref x2), (3, .ref x3), (4, .ref x4), (5, .int x5)] [] S) (h : wA_L_law_b1881 mc ms kc ks x1 x2 x3 x4 x5 S kk28 sc) : x_X p l e (rA_L_law mc ms) s m args below meth c gg 9 kc ks QQ 1881 [(0, .ref bb), (1, .ref x1), (2, .ref x2), (3, .ref x3), (4, .ref x4), (5, .int x5)] [] S := by
  unfold wA_L_law_b1881 at h
  obtain ⟨hx, hb, -⟩ := id C
  intro H locs ls hR hS hl
  refine lv_goto (tgt := 2022) hx hb dL_law_1881 (by decide) ?_
  exact tA_L_law_b2022 C hml hst hX hbl hbA hret hk hk28 h H locs ls hR hS (lv_sub (l' := [(0, .ref bb), (1, .ref x1), (2, .ref x2), (3, .ref x3), (4, .ref x4), (5, .int x5)]) hl [0, 1, 2, 3, 4, 5] rfl)
set_option maxHeartbeats 4000000 in
theorem tA_L_law_b2005 {sc : Nat × (Nat → Int32)} {mc ms : Nat} (C : x_C p s m args c cL_law RL gg) (hml : c.maxLocals = 9) (hst : l.stackTraces = false) (hX : va_X bb sc.1 sc.2 s s.heap) (hbl : bb < s.heap.size) (hbA : ¬ s_A gg bb) (hret : ∀ (pc : Nat) (H : Heap) (ls : Array Slot) (locs : List Loc), decode cL_law pc = .ok (.ireturn, 1) → (∀ q ∈ locs, s_A gg q.base) → W p l e (rA_L_law mc ms) s m args below meth c H locs mc ms QQ (F0 m pc ls [.int 1])) {kc ks : Nat} (hk : kc ≤ mc ∧ ks ≤ ms) {x1 : Nat} {x2 : Nat} {x3 : Nat} {x4 : Nat} {x5 : Int32} {kk28 : Nat → Nat → Nat → Nat → Nat → Nat → Int32 → sT → Prop} {S : sT} (hk28 : ∀ (kc ks : Nat) (x1 : Nat) (x2 : Nat) (x3 : Nat) (x4 : Nat) (x5 : Int32) (S : sT), kc ≤ mc ∧ ks ≤ ms → kk28 kc ks x1 x2 x3 x4 x5 S → x_X p l e (rA_L_law mc ms) s m args below meth c gg 9 kc ks QQ 28 [(0, .ref bb), (1, .ref x1), (2, .ref x2), (3, .ref x3), (4, .ref x4), (5, .int x5)] [] S) (h : wA_L_law_b2005 mc ms kc ks x1 x2 x3 x4 x5 S kk28 sc) : x_X p l e (rA_L_law mc ms) s m args below meth c gg 9 kc ks QQ 2005 [(0, .ref bb), (1, .ref x1), (2, .ref x2), (3, .ref x3), (4, .ref x4), (5, .int x5)] [] S := by
  unfold wA_L_law_b2005 at h
  obtain ⟨hx, hb, -⟩ := id C
  intro H locs ls hR hS hl
  refine lv_goto (tgt := 2022) hx hb dL_law_2005 (by decide) ?_
  exact tA_L_law_b2022 C hml hst hX hbl hbA hret hk hk28 h H locs ls hR hS (lv_sub (l' := [(0, .ref bb), (1, .ref x1), (2, .ref x2), (3, .ref x3), (4, .ref x4), (5, .int x5)]) hl [0, 1, 2, 3, 4, 5] rfl)
set_option maxHeartbeats 4000000 in
theorem tA_L_law_b1755 {sc : Nat × (Nat → Int32)} {mc ms : Nat} (C : x_C p s m args c cL_law RL gg) (hml : c.maxLocals = 9) (hst : l.stackTraces = false) (hX : va_X bb sc.1 sc.2 s s.heap) (hbl : bb < s.heap.size) (hbA : ¬ s_A gg bb) (hret : ∀ (pc : Nat) (H : Heap) (ls : Array Slot) (locs : List Loc), decode cL_law pc = .ok (.ireturn, 1) → (∀ q ∈ locs, s_A gg q.base) → W p l e (rA_L_law mc ms) s m args below meth c H locs mc ms QQ (F0 m pc ls [.int 1])) {kc ks : Nat} (hk : kc ≤ mc ∧ ks ≤ ms)   {S : sT}  (h : wA_L_law_b1755 mc ms kc ks  S  sc) : x_X p l e (rA_L_law mc ms) s m args below meth c gg 9 kc ks QQ 1755 [] [] S := by
  unfold wA_L_law_b1755 at h
  obtain ⟨hx, hb, -⟩ := id C
  intro H locs ls hR hS hl
  refine lv_iconst (v := 0) hx hb dL_law_1755 (by decide) ?_
  exact h.elim
set_option maxHeartbeats 4000000 in
theorem tA_L_law_b341 {sc : Nat × (Nat → Int32)} {mc ms : Nat} (C : x_C p s m args c cL_law RL gg) (hml : c.maxLocals = 9) (hst : l.stackTraces = false) (hX : va_X bb sc.1 sc.2 s s.heap) (hbl : bb < s.heap.size) (hbA : ¬ s_A gg bb) (hret : ∀ (pc : Nat) (H : Heap) (ls : Array Slot) (locs : List Loc), decode cL_law pc = .ok (.ireturn, 1) → (∀ q ∈ locs, s_A gg q.base) → W p l e (rA_L_law mc ms) s m args below meth c H locs mc ms QQ (F0 m pc ls [.int 1])) {kc ks : Nat} (hk : kc ≤ mc ∧ ks ≤ ms) {x1 : Nat} {x2 : Nat} {x3 : Nat} {x4 : Nat} {x5 : Int32} {kk28 : Nat → Nat → Nat → Nat → Nat → Nat → Int32 → sT → Prop} {S : sT} (hk28 : ∀ (kc ks : Nat) (x1 : Nat) (x2 : Nat) (x3 : Nat) (x4 : Nat) (x5 : Int32) (S : sT), kc ≤ mc ∧ ks ≤ ms → kk28 kc ks x1 x2 x3 x4 x5 S → x_X p l e (rA_L_law mc ms) s m args below meth c gg 9 kc ks QQ 28 [(0, .ref bb), (1, .ref x1), (2, .ref x2), (3, .ref x3), (4, .ref x4), (5, .int x5)] [] S) (h : wA_L_law_b341 mc ms kc ks x1 x2 x3 x4 x5 S kk28 sc) : x_X p l e (rA_L_law mc ms) s m args below meth c gg 9 kc ks QQ 341 [(0, .ref bb), (1, .ref x1), (2, .ref x2), (3, .ref x3), (4, .ref x4), (5, .int x5)] [] S := by
  unfold wA_L_law_b341 at h
  obtain ⟨hx, hb, -⟩ := id C
  intro H locs ls hR hS hl
  refine lv_goto (tgt := 2022) hx hb dL_law_341 (by decide) ?_
  exact tA_L_law_b2022 C hml hst hX hbl hbA hret hk hk28 h H locs ls hR hS (lv_sub (l' := [(0, .ref bb), (1, .ref x1), (2, .ref x2), (3, .ref x3), (4, .ref x4), (5, .int x5)]) hl [0, 1, 2, 3, 4, 5] rfl)
set_option maxHeartbeats 4000000 in
theorem tA_L_law_b1087 {sc : Nat × (Nat → Int32)} {mc ms : Nat} (C : x_C p s m args c cL_law RL gg) (hml : c.maxLocals = 9) (hst : l.stackTraces = false) (hX : va_X bb sc.1 sc.2 s s.heap) (hbl : bb < s.heap.size) (hbA : ¬ s_A gg bb) (hret : ∀ (pc : Nat) (H : Heap) (ls : Array Slot) (locs : List Loc), decode cL_law pc = .ok (.ireturn, 1) → (∀ q ∈ locs, s_A gg q.base) → W p l e (rA_L_law mc ms) s m args below meth c H locs mc ms QQ (F0 m pc ls [.int 1])) {kc ks : Nat} (hk : kc ≤ mc ∧ ks ≤ ms) {x1 : Nat} {x2 : Nat} {x3 : Nat} {x4 : Nat} {x5 : Int32} {kk28 : Nat → Nat → Nat → Nat → Nat → Nat → Int32 → sT → Prop} {S : sT} (hk28 : ∀ (kc ks : Nat) (x1 : Nat) (x2 : Nat) (x3 : Nat) (x4 : Nat) (x5 : Int32) (S : sT), kc ≤ mc ∧ ks ≤ ms → kk28 kc ks x1 x2 x3 x4 x5 S → x_X p l e (rA_L_law mc ms) s m args below meth c gg 9 kc ks QQ 28 [(0, .ref bb), (1, .ref x1), (2, .ref x2), (3, .ref x3), (4, .ref x4), (5, .int x5)] [] S) (h : wA_L_law_b1087 mc ms kc ks x1 x2 x3 x4 x5 S kk28 sc) : x_X p l e (rA_L_law mc ms) s m args below meth c gg 9 kc ks QQ 1087 [(0, .ref bb), (1, .ref x1), (2, .ref x2), (3, .ref x3), (4, .ref x4), (5, .int x5)] [] S := by
  unfold wA_L_law_b1087 at h
  obtain ⟨hx, hb, -⟩ := id C
  intro H locs ls hR hS hl
  refine lv_goto (tgt := 2022) hx hb dL_law_1087 (by decide) ?_
  exact tA_L_law_b2022 C hml hst hX hbl hbA hret hk hk28 h H locs ls hR hS (lv_sub (l' := [(0, .ref bb), (1, .ref x1), (2, .ref x2), (3, .ref x3), (4, .ref x4), (5, .int x5)]) hl [0, 1, 2, 3, 4, 5] rfl)
set_option maxHeartbeats 4000000 in
theorem tA_L_law_b261 {sc : Nat × (Nat → Int32)} {mc ms : Nat} (C : x_C p s m args c cL_law RL gg) (hml : c.maxLocals = 9) (hst : l.stackTraces = false) (hX : va_X bb sc.1 sc.2 s s.heap) (hbl : bb < s.heap.size) (hbA : ¬ s_A gg bb) (hret : ∀ (pc : Nat) (H : Heap) (ls : Array Slot) (locs : List Loc), decode cL_law pc = .ok (.ireturn, 1) → (∀ q ∈ locs, s_A gg q.base) → W p l e (rA_L_law mc ms) s m args below meth c H locs mc ms QQ (F0 m pc ls [.int 1])) {kc ks : Nat} (hk : kc ≤ mc ∧ ks ≤ ms) {x1 : Nat} {x2 : Nat} {x3 : Nat} {x4 : Nat} {x5 : Int32} {kk28 : Nat → Nat → Nat → Nat → Nat → Nat → Int32 → sT → Prop} {S : sT} (hk28 : ∀ (kc ks : Nat) (x1 : Nat) (x2 : Nat) (x3 : Nat) (x4 : Nat) (x5 : Int32) (S : sT), kc ≤ mc ∧ ks ≤ ms → kk28 kc ks x1 x2 x3 x4 x5 S → x_X p l e (rA_L_law mc ms) s m args below meth c gg 9 kc ks QQ 28 [(0, .ref bb), (1, .ref x1), (2, .ref x2), (3, .ref x3), (4, .ref x4), (5, .int x5)] [] S) (h : wA_L_law_b261 mc ms kc ks x1 x2 x3 x4 x5 S kk28 sc) : x_X p l e (rA_L_law mc ms) s m args below meth c gg 9 kc ks QQ 261 [(0, .ref bb), (1, .ref x1), (2, .ref x2), (3, .ref x3), (4, .ref x4), (5, .int x5)] [] S := by
  unfold wA_L_law_b261 at h
  obtain ⟨hx, hb, -⟩ := id C
  intro H locs ls hR hS hl
  refine lv_goto (tgt := 2022) hx hb dL_law_261 (by decide) ?_
  exact tA_L_law_b2022 C hml hst hX hbl hbA hret hk hk28 h H locs ls hR hS (lv_sub (l' := [(0, .ref bb), (1, .ref x1), (2, .ref x2), (3, .ref x3), (4, .ref x4), (5, .int x5)]) hl [0, 1, 2, 3, 4, 5] rfl)
set_option maxHeartbeats 4000000 in
theorem tA_L_law_b28 {sc : Nat × (Nat → Int32)} {mc ms : Nat} (C : x_C p s m args c cL_law RL gg) (hml : c.maxLocals = 9) (hst : l.stackTraces = false) (hX : va_X bb sc.1 sc.2 s s.heap) (hbl : bb < s.heap.size) (hbA : ¬ s_A gg bb) (hret : ∀ (pc : Nat) (H : Heap) (ls : Array Slot) (locs : List Loc), decode cL_law pc = .ok (.ireturn, 1) → (∀ q ∈ locs, s_A gg q.base) → W p l e (rA_L_law mc ms) s m args below meth c H locs mc ms QQ (F0 m pc ls [.int 1]))   : ∀ (n : Nat) (kc ks : Nat) (x1 : Nat) (x2 : Nat) (x3 : Nat) (x4 : Nat) (x5 : Int32) (S : sT), kc ≤ mc ∧ ks ≤ ms → wA_L_law_b28 mc ms  sc n kc ks x1 x2 x3 x4 x5 S → x_X p l e (rA_L_law mc ms) s m args below meth c gg 9 kc ks QQ 28 [(0, .ref bb), (1, .ref x1), (2, .ref x2), (3, .ref x3), (4, .ref x4), (5, .int x5)] [] S := by
  obtain ⟨hx, hb, -⟩ := id C
  intro n
  induction n with
  | zero => intro kc ks x1 x2 x3 x4 x5 S hk h; exact absurd h id
  | succ n ih =>
    intro kc ks x1 x2 x3 x4 x5 S hk h H locs ls hR hS hl
    unfold wA_L_law_b28 at h
    refine lv_iload hx hb dL_law_28 (lv_at hl 5 rfl) ?_
    refine lv_aload_n hx hb dL_law_30 rfl (lv_at hl 0 rfl) ?_
    refine va_slen hx hb hX hbl hbA hS dL_law_31 ?_
    refine lv_topi (fun x101 ex101 => ?_)
    replace h := h x101 ex101
    refine lv_iconst (v := 5) hx hb dL_law_32 (by decide) ?_
    refine lv_isub hx hb dL_law_33 ?_
    refine lv_topi (fun x102 ex102 => ?_)
    replace h := h x102 ex102
    refine lv_icmp_gt (tgt := 2028) hx hb dL_law_34 (by decide) (fun hc103 => ?_) (fun hc103 => ?_)
    · replace h := h.1 hc103
      refine lv_iconst (v := 1) hx hb dL_law_2028 (by decide) ?_
      exact W.widen (k := mc) (n := ms) hk.1 hk.2 (hret _ _ _ _ dL_law_2029 hS.2.2)
    · replace h := h.2 hc103
      refine lv_aload_n hx hb dL_law_37 rfl (lv_at hl 0 rfl) ?_
      refine lv_iload hx hb dL_law_38 (lv_at hl 5 rfl) ?_
      obtain ⟨hi104, h⟩ := h
      refine va_sld hx hb hX hbl hbA hS hi104 dL_law_40 ?_
      refine lv_topi (fun x105 ex105 => ?_)
      replace h := h x105 ex105
      refine lv_bipush (v := 31) hx hb dL_law_41 (by decide) ?_
      refine lv_iand hx hb dL_law_43 ?_
      refine lv_topi (fun x106 ex106 => ?_)
      replace h := h x106 ex106
      by_cases hc107 : x106 = 0
      · have h := h.1 hc107
        refine lv_tableIn (off := 128) (tgt := 172) hx hb dL_law_44 (by rw [hc107]; decide) (by rw [hc107]; decide) (by rw [hc107]; rfl) (by decide) ?_
        refine lv_aload_n hx hb dL_law_172 rfl (lv_at hl 1 rfl) ?_
        refine lv_aload_n hx hb dL_law_173 rfl (lv_at hl 0 rfl) ?_
        refine lv_iload hx hb dL_law_174 (lv_at hl 5 rfl) ?_
        refine lv_iconst (v := 1) hx hb dL_law_176 (by decide) ?_
        refine lv_iadd hx hb dL_law_177 ?_
        refine lv_topi (fun x108 ex108 => ?_)
        replace h := h x108 ex108
        obtain ⟨hi109, h⟩ := h
        refine va_sld hx hb hX hbl hbA hS hi109 dL_law_178 ?_
        refine lv_topi (fun x110 ex110 => ?_)
        replace h := h x110 ex110
        refine lv_aload_n hx hb dL_law_179 rfl (lv_at hl 0 rfl) ?_
        refine lv_iload hx hb dL_law_180 (lv_at hl 5 rfl) ?_
        refine lv_iconst (v := 2) hx hb dL_law_182 (by decide) ?_
        refine lv_iadd hx hb dL_law_183 ?_
        refine lv_topi (fun x111 ex111 => ?_)
        replace h := h x111 ex111
        obtain ⟨hi112, h⟩ := h
        refine va_sld hx hb hX hbl hbA hS hi112 dL_law_184 ?_
        refine lv_topi (fun x113 ex113 => ?_)
        replace h := h x113 ex113
        refine lv_aload_n hx hb dL_law_185 rfl (lv_at hl 0 rfl) ?_
        refine lv_iload hx hb dL_law_186 (lv_at hl 5 rfl) ?_
        refine lv_iconst (v := 3) hx hb dL_law_188 (by decide) ?_
        refine lv_iadd hx hb dL_law_189 ?_
        refine lv_topi (fun x114 ex114 => ?_)
        replace h := h x114 ex114
        obtain ⟨hi115, h⟩ := h
        refine va_sld hx hb hX hbl hbA hS hi115 dL_law_190 ?_
        refine lv_topi (fun x116 ex116 => ?_)
        replace h := h x116 ex116
        refine lv_aload_n hx hb dL_law_191 rfl (lv_at hl 0 rfl) ?_
        refine lv_iload hx hb dL_law_192 (lv_at hl 5 rfl) ?_
        refine lv_iconst (v := 4) hx hb dL_law_194 (by decide) ?_
        refine lv_iadd hx hb dL_law_195 ?_
        refine lv_topi (fun x117 ex117 => ?_)
        replace h := h x117 ex117
        obtain ⟨hi118, h⟩ := h
        refine va_sld hx hb hX hbl hbA hS hi118 dL_law_196 ?_
        refine lv_topi (fun x119 ex119 => ?_)
        replace h := h x119 ex119
        refine lv_aload_n hx hb dL_law_197 rfl (lv_at hl 3 rfl) ?_
        obtain ⟨c120, d121, hk1, hk2, h⟩ := h
        refine x_ki (x_runSH (As := [.ref x1, .int x110, .int x113, .int x116, .int x119, .ref x3]) (rest := []) C hml hR hS (mA_L_society l gg c120 d121 x1 x110 x113 x116 x119 x3 S hst h) b_L_society q_3_20 rfl rfl ⟨Nat.le_of_ble_eq_true rfl, Nat.le_of_ble_eq_true rfl⟩ rfl hl.1 (Nat.le_of_ble_eq_true rfl) dL_law_198 ⟨hk1, hk2⟩) hS (fun x123 S122 H locs hn hR hS => ?_)
        replace h := hn
        clear hn
        have hk : (kc + c120) ≤ mc ∧ (ks + d121) ≤ ms := ⟨hk1, hk2⟩
        refine lv_istore (lv' := [(6, .int x123), (0, .ref bb), (1, .ref x1), (2, .ref x2), (3, .ref x3), (4, .ref x4), (5, .int x5)]) hx hb dL_law_201 hl (by decide) rfl (fun ls hl => ?_)
        refine lv_aload_n hx hb dL_law_203 rfl (lv_at hl 3 rfl) ?_
        refine lv_aload_n hx hb dL_law_204 rfl (lv_at hl 1 rfl) ?_
        refine lv_iload hx hb dL_law_205 (lv_at hl 6 rfl) ?_
        refine lv_iconst (v := 1) hx hb dL_law_207 (by decide) ?_
        refine lv_iadd hx hb dL_law_208 ?_
        refine lv_topi (fun x124 ex124 => ?_)
        replace h := h x124 ex124
        obtain ⟨hi125, h⟩ := h
        refine va_sld hx hb hX hbl hbA hS hi125 dL_law_209 ?_
        refine lv_topi (fun x126 ex126 => ?_)
        replace h := h x126 ex126
        refine lv_aload_n hx hb dL_law_210 rfl (lv_at hl 1 rfl) ?_
        refine lv_iload hx hb dL_law_211 (lv_at hl 6 rfl) ?_
        refine lv_iconst (v := 2) hx hb dL_law_213 (by decide) ?_
        refine lv_iadd hx hb dL_law_214 ?_
        refine lv_topi (fun x127 ex127 => ?_)
        replace h := h x127 ex127
        obtain ⟨hi128, h⟩ := h
        refine va_sld hx hb hX hbl hbA hS hi128 dL_law_215 ?_
        refine lv_topi (fun x129 ex129 => ?_)
        replace h := h x129 ex129
        refine lv_aload_n hx hb dL_law_216 rfl (lv_at hl 1 rfl) ?_
        refine lv_iload hx hb dL_law_217 (lv_at hl 6 rfl) ?_
        refine lv_iconst (v := 3) hx hb dL_law_219 (by decide) ?_
        refine lv_iadd hx hb dL_law_220 ?_
        refine lv_topi (fun x130 ex130 => ?_)
        replace h := h x130 ex130
        obtain ⟨hi131, h⟩ := h
        refine va_sld hx hb hX hbl hbA hS hi131 dL_law_221 ?_
        refine lv_topi (fun x132 ex132 => ?_)
        replace h := h x132 ex132
        refine lv_aload_n hx hb dL_law_222 rfl (lv_at hl 1 rfl) ?_
        refine lv_iload hx hb dL_law_223 (lv_at hl 6 rfl) ?_
        refine lv_iconst (v := 4) hx hb dL_law_225 (by decide) ?_
        refine lv_iadd hx hb dL_law_226 ?_
        refine lv_topi (fun x133 ex133 => ?_)
        replace h := h x133 ex133
        obtain ⟨hi134, h⟩ := h
        refine va_sld hx hb hX hbl hbA hS hi134 dL_law_227 ?_
        refine lv_topi (fun x135 ex135 => ?_)
        replace h := h x135 ex135
        obtain ⟨hK_x2, h⟩ := h
        obtain ⟨c136, d137, hk1, hk2, h⟩ := h
        refine x_ki (x_runV (As := [.int x126, .int x129, .int x132, .int x135]) (rest := []) C hml hR hS (mA_X8_society l gg c136 d137 x2 x126 x129 x132 x135 S122 h) b_X8_society q_7_21 (by rw [hK_x2]; decide) (s_E_9 hK_x2) rfl rfl rfl rfl ⟨Nat.le_of_ble_eq_true rfl, Nat.le_of_ble_eq_true rfl⟩ rfl hl.1 (Nat.le_of_ble_eq_true rfl) dL_law_228 ⟨hk1, hk2⟩) hS (fun x139 S138 H locs hn hR hS => ?_)
        replace h := hn
        clear hn
        have hk : ((kc + c120) + c136) ≤ mc ∧ ((ks + d121) + d137) ≤ ms := ⟨hk1, hk2⟩
        refine lv_istore (lv' := [(7, .int x139), (6, .int x123), (0, .ref bb), (1, .ref x1), (2, .ref x2), (3, .ref x3), (4, .ref x4), (5, .int x5)]) hx hb dL_law_231 hl (by decide) rfl (fun ls hl => ?_)
        refine lv_aload_n hx hb dL_law_233 rfl (lv_at hl 4 rfl) ?_
        obtain ⟨hK_x2, h⟩ := h
        refine x_ki (x_runV (As := []) (rest := []) C hml hR hS (m_X8_thrown l gg x2 S138 h) b_X8_thrown q_8_16 (by rw [hK_x2]; decide) (s_E_9 hK_x2) rfl rfl rfl rfl ⟨Nat.le_of_ble_eq_true rfl, Nat.le_of_ble_eq_true rfl⟩ rfl hl.1 (Nat.le_of_ble_eq_true rfl) dL_law_234 ⟨hk.1, hk.2⟩) hS (fun x141 S140 H locs hn hR hS => ?_)
        replace h := hn
        clear hn
        refine lv_iload hx hb dL_law_237 (lv_at hl 1 rfl) ?_
        refine lv_icmp_eq (tgt := 244) hx hb dL_law_239 (by decide) (fun hc142 => ?_) (fun hc142 => ?_)
        · replace h := h.1 hc142
          refine lv_iload hx hb dL_law_244 (lv_at hl 1 rfl) ?_
          refine lv_if_ne (tgt := 261) hx hb dL_law_246 (by decide) (fun hc143 => ?_) (fun hc143 => ?_)
          · replace h := h.1 hc143
            exact tA_L_law_b261 C hml hst hX hbl hbA hret hk (fun kc ks x1 x2 x3 x4 x5 S hk h => ih kc ks x1 x2 x3 x4 x5 S hk h) h H locs ls hR hS (lv_sub (l' := [(0, .ref bb), (1, .ref x1), (2, .ref x2), (3, .ref x3), (4, .ref x4), (5, .int x5)]) hl [2, 3, 4, 5, 6, 7] rfl)
          · replace h := h.2 hc143
            refine lv_aload_n hx hb dL_law_249 rfl (lv_at hl 5 rfl) ?_
            refine lv_iconst (v := 0) hx hb dL_law_250 (by decide) ?_
            obtain ⟨hK_x3, h⟩ := h
            obtain ⟨hi144, h⟩ := h
            refine x_lald C hR hK_x3 hi144 dL_law_251 ?_
            refine lv_topl (fun j145 ej145 => ?_)
            replace h := h j145 ej145
            refine lv_iload hx hb dL_law_252 (lv_at hl 0 rfl) ?_
            refine lv_i2l hx hb dL_law_254 rfl ?_
            refine lv_topl (fun j146 ej146 => ?_)
            replace h := h j146 ej146
            refine W.lcmp hx hb dL_law_255 ?_
            refine lv_topi (fun x147 ex147 => ?_)
            replace h := h x147 ex147
            refine lv_if_eq (tgt := 261) hx hb dL_law_256 (by decide) (fun hc148 => ?_) (fun hc148 => ?_)
            · replace h := h.1 hc148
              exact tA_L_law_b261 C hml hst hX hbl hbA hret hk (fun kc ks x1 x2 x3 x4 x5 S hk h => ih kc ks x1 x2 x3 x4 x5 S hk h) h H locs ls hR hS (lv_sub (l' := [(0, .ref bb), (1, .ref x1), (2, .ref x2), (3, .ref x3), (4, .ref x4), (5, .int x5)]) hl [2, 3, 4, 5, 6, 7] rfl)
            · replace h := h.2 hc148
              refine lv_iconst (v := 0) hx hb dL_law_259 (by decide) ?_
              exact h.elim
        · replace h := h.2 hc142
          refine lv_iconst (v := 0) hx hb dL_law_242 (by decide) ?_
          exact h.elim
      · by_cases hc149 : x106 = 1
        · have h := h.2.1 hc149
          refine lv_tableIn (off := 220) (tgt := 264) hx hb dL_law_44 (by rw [hc149]; decide) (by rw [hc149]; decide) (by rw [hc149]; rfl) (by decide) ?_
          refine lv_aload_n hx hb dL_law_264 rfl (lv_at hl 1 rfl) ?_
          refine lv_aload_n hx hb dL_law_265 rfl (lv_at hl 0 rfl) ?_
          refine lv_iload hx hb dL_law_266 (lv_at hl 5 rfl) ?_
          refine lv_iconst (v := 1) hx hb dL_law_268 (by decide) ?_
          refine lv_iadd hx hb dL_law_269 ?_
          refine lv_topi (fun x150 ex150 => ?_)
          replace h := h x150 ex150
          obtain ⟨hi151, h⟩ := h
          refine va_sld hx hb hX hbl hbA hS hi151 dL_law_270 ?_
          refine lv_topi (fun x152 ex152 => ?_)
          replace h := h x152 ex152
          refine lv_aload_n hx hb dL_law_271 rfl (lv_at hl 0 rfl) ?_
          refine lv_iload hx hb dL_law_272 (lv_at hl 5 rfl) ?_
          refine lv_iconst (v := 2) hx hb dL_law_274 (by decide) ?_
          refine lv_iadd hx hb dL_law_275 ?_
          refine lv_topi (fun x153 ex153 => ?_)
          replace h := h x153 ex153
          obtain ⟨hi154, h⟩ := h
          refine va_sld hx hb hX hbl hbA hS hi154 dL_law_276 ?_
          refine lv_topi (fun x155 ex155 => ?_)
          replace h := h x155 ex155
          refine lv_aload_n hx hb dL_law_277 rfl (lv_at hl 0 rfl) ?_
          refine lv_iload hx hb dL_law_278 (lv_at hl 5 rfl) ?_
          refine lv_iconst (v := 3) hx hb dL_law_280 (by decide) ?_
          refine lv_iadd hx hb dL_law_281 ?_
          refine lv_topi (fun x156 ex156 => ?_)
          replace h := h x156 ex156
          obtain ⟨hi157, h⟩ := h
          refine va_sld hx hb hX hbl hbA hS hi157 dL_law_282 ?_
          refine lv_topi (fun x158 ex158 => ?_)
          replace h := h x158 ex158
          refine lv_aload_n hx hb dL_law_283 rfl (lv_at hl 3 rfl) ?_
          obtain ⟨c159, d160, hk1, hk2, h⟩ := h
          refine x_ki (x_runSH (As := [.ref x1, .int x152, .int x155, .int x158, .ref x3]) (rest := []) C hml hR hS (mA_L_field l gg c159 d160 x1 x152 x155 x158 x3 S hst h) b_L_field q_8_20 rfl rfl ⟨Nat.le_of_ble_eq_true rfl, Nat.le_of_ble_eq_true rfl⟩ rfl hl.1 (Nat.le_of_ble_eq_true rfl) dL_law_284 ⟨hk1, hk2⟩) hS (fun x162 S161 H locs hn hR hS => ?_)
          replace h := hn
          clear hn
          have hk : (kc + c159) ≤ mc ∧ (ks + d160) ≤ ms := ⟨hk1, hk2⟩
          refine lv_istore (lv' := [(6, .int x162), (0, .ref bb), (1, .ref x1), (2, .ref x2), (3, .ref x3), (4, .ref x4), (5, .int x5)]) hx hb dL_law_287 hl (by decide) rfl (fun ls hl => ?_)
          refine lv_aload_n hx hb dL_law_289 rfl (lv_at hl 3 rfl) ?_
          refine lv_aload_n hx hb dL_law_290 rfl (lv_at hl 1 rfl) ?_
          refine lv_iload hx hb dL_law_291 (lv_at hl 6 rfl) ?_
          refine lv_iconst (v := 1) hx hb dL_law_293 (by decide) ?_
          refine lv_iadd hx hb dL_law_294 ?_
          refine lv_topi (fun x163 ex163 => ?_)
          replace h := h x163 ex163
          obtain ⟨hi164, h⟩ := h
          refine va_sld hx hb hX hbl hbA hS hi164 dL_law_295 ?_
          refine lv_topi (fun x165 ex165 => ?_)
          replace h := h x165 ex165
          refine lv_aload_n hx hb dL_law_296 rfl (lv_at hl 1 rfl) ?_
          refine lv_iload hx hb dL_law_297 (lv_at hl 6 rfl) ?_
          refine lv_iconst (v := 2) hx hb dL_law_299 (by decide) ?_
          refine lv_iadd hx hb dL_law_300 ?_
          refine lv_topi (fun x166 ex166 => ?_)
          replace h := h x166 ex166
          obtain ⟨hi167, h⟩ := h
          refine va_sld hx hb hX hbl hbA hS hi167 dL_law_301 ?_
          refine lv_topi (fun x168 ex168 => ?_)
          replace h := h x168 ex168
          refine lv_aload_n hx hb dL_law_302 rfl (lv_at hl 1 rfl) ?_
          refine lv_iload hx hb dL_law_303 (lv_at hl 6 rfl) ?_
          refine lv_iconst (v := 3) hx hb dL_law_305 (by decide) ?_
          refine lv_iadd hx hb dL_law_306 ?_
          refine lv_topi (fun x169 ex169 => ?_)
          replace h := h x169 ex169
          obtain ⟨hi170, h⟩ := h
          refine va_sld hx hb hX hbl hbA hS hi170 dL_law_307 ?_
          refine lv_topi (fun x171 ex171 => ?_)
          replace h := h x171 ex171
          obtain ⟨hK_x2, h⟩ := h
          obtain ⟨c172, d173, hk1, hk2, h⟩ := h
          refine x_ki (x_runV (As := [.int x165, .int x168, .int x171]) (rest := []) C hml hR hS (mA_X8_field l gg c172 d173 x2 x165 x168 x171 S161 h) b_X8_field q_12_6 (by rw [hK_x2]; decide) (s_E_9 hK_x2) rfl rfl rfl rfl ⟨Nat.le_of_ble_eq_true rfl, Nat.le_of_ble_eq_true rfl⟩ rfl hl.1 (Nat.le_of_ble_eq_true rfl) dL_law_308 ⟨hk1, hk2⟩) hS (fun x175 S174 H locs hn hR hS => ?_)
          replace h := hn
          clear hn
          have hk : ((kc + c159) + c172) ≤ mc ∧ ((ks + d160) + d173) ≤ ms := ⟨hk1, hk2⟩
          refine lv_istore (lv' := [(7, .int x175), (6, .int x162), (0, .ref bb), (1, .ref x1), (2, .ref x2), (3, .ref x3), (4, .ref x4), (5, .int x5)]) hx hb dL_law_311 hl (by decide) rfl (fun ls hl => ?_)
          refine lv_aload_n hx hb dL_law_313 rfl (lv_at hl 4 rfl) ?_
          obtain ⟨hK_x2, h⟩ := h
          refine x_ki (x_runV (As := []) (rest := []) C hml hR hS (m_X8_thrown l gg x2 S174 h) b_X8_thrown q_8_16 (by rw [hK_x2]; decide) (s_E_9 hK_x2) rfl rfl rfl rfl ⟨Nat.le_of_ble_eq_true rfl, Nat.le_of_ble_eq_true rfl⟩ rfl hl.1 (Nat.le_of_ble_eq_true rfl) dL_law_314 ⟨hk.1, hk.2⟩) hS (fun x177 S176 H locs hn hR hS => ?_)
          replace h := hn
          clear hn
          refine lv_iload hx hb dL_law_317 (lv_at hl 1 rfl) ?_
          refine lv_icmp_eq (tgt := 324) hx hb dL_law_319 (by decide) (fun hc178 => ?_) (fun hc178 => ?_)
          · replace h := h.1 hc178
            refine lv_iload hx hb dL_law_324 (lv_at hl 1 rfl) ?_
            refine lv_if_ne (tgt := 341) hx hb dL_law_326 (by decide) (fun hc179 => ?_) (fun hc179 => ?_)
            · replace h := h.1 hc179
              exact tA_L_law_b341 C hml hst hX hbl hbA hret hk (fun kc ks x1 x2 x3 x4 x5 S hk h => ih kc ks x1 x2 x3 x4 x5 S hk h) h H locs ls hR hS (lv_sub (l' := [(0, .ref bb), (1, .ref x1), (2, .ref x2), (3, .ref x3), (4, .ref x4), (5, .int x5)]) hl [2, 3, 4, 5, 6, 7] rfl)
            · replace h := h.2 hc179
              refine lv_aload_n hx hb dL_law_329 rfl (lv_at hl 5 rfl) ?_
              refine lv_iconst (v := 0) hx hb dL_law_330 (by decide) ?_
              obtain ⟨hK_x3, h⟩ := h
              obtain ⟨hi180, h⟩ := h
              refine x_lald C hR hK_x3 hi180 dL_law_331 ?_
              refine lv_topl (fun j181 ej181 => ?_)
              replace h := h j181 ej181
              refine lv_iload hx hb dL_law_332 (lv_at hl 0 rfl) ?_
              refine lv_i2l hx hb dL_law_334 rfl ?_
              refine lv_topl (fun j182 ej182 => ?_)
              replace h := h j182 ej182
              refine W.lcmp hx hb dL_law_335 ?_
              refine lv_topi (fun x183 ex183 => ?_)
              replace h := h x183 ex183
              refine lv_if_eq (tgt := 341) hx hb dL_law_336 (by decide) (fun hc184 => ?_) (fun hc184 => ?_)
              · replace h := h.1 hc184
                exact tA_L_law_b341 C hml hst hX hbl hbA hret hk (fun kc ks x1 x2 x3 x4 x5 S hk h => ih kc ks x1 x2 x3 x4 x5 S hk h) h H locs ls hR hS (lv_sub (l' := [(0, .ref bb), (1, .ref x1), (2, .ref x2), (3, .ref x3), (4, .ref x4), (5, .int x5)]) hl [2, 3, 4, 5, 6, 7] rfl)
              · replace h := h.2 hc184
                refine lv_iconst (v := 0) hx hb dL_law_339 (by decide) ?_
                exact h.elim
          · replace h := h.2 hc178
            refine lv_iconst (v := 0) hx hb dL_law_322 (by decide) ?_
            exact h.elim
        · by_cases hc185 : x106 = 2
          · have h := h.2.2.1 hc185
            refine lv_tableIn (off := 300) (tgt := 344) hx hb dL_law_44 (by rw [hc185]; decide) (by rw [hc185]; decide) (by rw [hc185]; rfl) (by decide) ?_
            refine lv_aload_n hx hb dL_law_344 rfl (lv_at hl 1 rfl) ?_
            refine lv_aload_n hx hb dL_law_345 rfl (lv_at hl 0 rfl) ?_
            refine lv_iload hx hb dL_law_346 (lv_at hl 5 rfl) ?_
            refine lv_iconst (v := 1) hx hb dL_law_348 (by decide) ?_
            refine lv_iadd hx hb dL_law_349 ?_
            refine lv_topi (fun x186 ex186 => ?_)
            replace h := h x186 ex186
            obtain ⟨hi187, h⟩ := h
            refine va_sld hx hb hX hbl hbA hS hi187 dL_law_350 ?_
            refine lv_topi (fun x188 ex188 => ?_)
            replace h := h x188 ex188
            refine lv_aload_n hx hb dL_law_351 rfl (lv_at hl 0 rfl) ?_
            refine lv_iload hx hb dL_law_352 (lv_at hl 5 rfl) ?_
            refine lv_iconst (v := 2) hx hb dL_law_354 (by decide) ?_
            refine lv_iadd hx hb dL_law_355 ?_
            refine lv_topi (fun x189 ex189 => ?_)
            replace h := h x189 ex189
            obtain ⟨hi190, h⟩ := h
            refine va_sld hx hb hX hbl hbA hS hi190 dL_law_356 ?_
            refine lv_topi (fun x191 ex191 => ?_)
            replace h := h x191 ex191
            refine lv_if_eq (tgt := 364) hx hb dL_law_357 (by decide) (fun hc192 => ?_) (fun hc192 => ?_)
            · replace h := h.1 hc192
              refine lv_iconst (v := 0) hx hb dL_law_364 (by decide) ?_
              exact tA_L_law_b365 C hml hst hX hbl hbA hret hk (fun kc ks x1 x2 x3 x4 x5 S hk h => ih kc ks x1 x2 x3 x4 x5 S hk h) h H locs ls hR hS (lv_sub (l' := [(0, .ref bb), (1, .ref x1), (2, .ref x2), (3, .ref x3), (4, .ref x4), (5, .int x5)]) hl [0, 1, 2, 3, 4, 5] rfl)
            · replace h := h.2 hc192
              refine lv_iconst (v := 1) hx hb dL_law_360 (by decide) ?_
              refine lv_goto (tgt := 365) hx hb dL_law_361 (by decide) ?_
              exact tA_L_law_b365 C hml hst hX hbl hbA hret hk (fun kc ks x1 x2 x3 x4 x5 S hk h => ih kc ks x1 x2 x3 x4 x5 S hk h) h H locs ls hR hS (lv_sub (l' := [(0, .ref bb), (1, .ref x1), (2, .ref x2), (3, .ref x3), (4, .ref x4), (5, .int x5)]) hl [0, 1, 2, 3, 4, 5] rfl)
          · by_cases hc193 : x106 = 3
            · have h := h.2.2.2.1 hc193
              refine lv_tableIn (off := 391) (tgt := 435) hx hb dL_law_44 (by rw [hc193]; decide) (by rw [hc193]; decide) (by rw [hc193]; rfl) (by decide) ?_
              refine lv_aload_n hx hb dL_law_435 rfl (lv_at hl 1 rfl) ?_
              refine lv_aload_n hx hb dL_law_436 rfl (lv_at hl 0 rfl) ?_
              refine lv_iload hx hb dL_law_437 (lv_at hl 5 rfl) ?_
              refine lv_iconst (v := 1) hx hb dL_law_439 (by decide) ?_
              refine lv_iadd hx hb dL_law_440 ?_
              refine lv_topi (fun x194 ex194 => ?_)
              replace h := h x194 ex194
              obtain ⟨hi195, h⟩ := h
              refine va_sld hx hb hX hbl hbA hS hi195 dL_law_441 ?_
              refine lv_topi (fun x196 ex196 => ?_)
              replace h := h x196 ex196
              refine lv_aload_n hx hb dL_law_442 rfl (lv_at hl 0 rfl) ?_
              refine lv_iload hx hb dL_law_443 (lv_at hl 5 rfl) ?_
              refine lv_iconst (v := 2) hx hb dL_law_445 (by decide) ?_
              refine lv_iadd hx hb dL_law_446 ?_
              refine lv_topi (fun x197 ex197 => ?_)
              replace h := h x197 ex197
              obtain ⟨hi198, h⟩ := h
              refine va_sld hx hb hX hbl hbA hS hi198 dL_law_447 ?_
              refine lv_topi (fun x199 ex199 => ?_)
              replace h := h x199 ex199
              refine lv_aload_n hx hb dL_law_448 rfl (lv_at hl 3 rfl) ?_
              obtain ⟨c200, d201, hk1, hk2, h⟩ := h
              refine x_ki (x_runSH (As := [.ref x1, .int x196, .int x199, .ref x3]) (rest := []) C hml hR hS (mA_L_stones l gg c200 d201 x1 x196 x199 x3 S hst h) b_L_stones q_13_11 rfl rfl ⟨Nat.le_of_ble_eq_true rfl, Nat.le_of_ble_eq_true rfl⟩ rfl hl.1 (Nat.le_of_ble_eq_true rfl) dL_law_449 ⟨hk1, hk2⟩) hS (fun x203 S202 H locs hn hR hS => ?_)
              replace h := hn
              clear hn
              have hk : (kc + c200) ≤ mc ∧ (ks + d201) ≤ ms := ⟨hk1, hk2⟩
              refine lv_istore (lv' := [(6, .int x203), (0, .ref bb), (1, .ref x1), (2, .ref x2), (3, .ref x3), (4, .ref x4), (5, .int x5)]) hx hb dL_law_452 hl (by decide) rfl (fun ls hl => ?_)
              refine lv_aload_n hx hb dL_law_454 rfl (lv_at hl 3 rfl) ?_
              refine lv_aload_n hx hb dL_law_455 rfl (lv_at hl 1 rfl) ?_
              refine lv_iload hx hb dL_law_456 (lv_at hl 6 rfl) ?_
              refine lv_iconst (v := 1) hx hb dL_law_458 (by decide) ?_
              refine lv_iadd hx hb dL_law_459 ?_
              refine lv_topi (fun x204 ex204 => ?_)
              replace h := h x204 ex204
              obtain ⟨hi205, h⟩ := h
              refine va_sld hx hb hX hbl hbA hS hi205 dL_law_460 ?_
              refine lv_topi (fun x206 ex206 => ?_)
              replace h := h x206 ex206
              refine lv_aload_n hx hb dL_law_461 rfl (lv_at hl 1 rfl) ?_
              refine lv_iload hx hb dL_law_462 (lv_at hl 6 rfl) ?_
              refine lv_iconst (v := 2) hx hb dL_law_464 (by decide) ?_
              refine lv_iadd hx hb dL_law_465 ?_
              refine lv_topi (fun x207 ex207 => ?_)
              replace h := h x207 ex207
              obtain ⟨hi208, h⟩ := h
              refine va_sld hx hb hX hbl hbA hS hi208 dL_law_466 ?_
              refine lv_topi (fun x209 ex209 => ?_)
              replace h := h x209 ex209
              obtain ⟨hK_x2, h⟩ := h
              refine x_ki (x_runV (As := [.int x206, .int x209]) (rest := []) C hml hR hS (m_X8_stones l gg x2 x206 x209 S202 h) b_X8_stones q_13_19 (by rw [hK_x2]; decide) (s_E_9 hK_x2) rfl rfl rfl rfl ⟨Nat.le_of_ble_eq_true rfl, Nat.le_of_ble_eq_true rfl⟩ rfl hl.1 (Nat.le_of_ble_eq_true rfl) dL_law_467 ⟨hk.1, hk.2⟩) hS (fun x211 S210 H locs hn hR hS => ?_)
              replace h := hn
              clear hn
              refine lv_istore (lv' := [(7, .int x211), (6, .int x203), (0, .ref bb), (1, .ref x1), (2, .ref x2), (3, .ref x3), (4, .ref x4), (5, .int x5)]) hx hb dL_law_470 hl (by decide) rfl (fun ls hl => ?_)
              refine lv_aload_n hx hb dL_law_472 rfl (lv_at hl 4 rfl) ?_
              obtain ⟨hK_x2, h⟩ := h
              refine x_ki (x_runV (As := []) (rest := []) C hml hR hS (m_X8_thrown l gg x2 S210 h) b_X8_thrown q_8_16 (by rw [hK_x2]; decide) (s_E_9 hK_x2) rfl rfl rfl rfl ⟨Nat.le_of_ble_eq_true rfl, Nat.le_of_ble_eq_true rfl⟩ rfl hl.1 (Nat.le_of_ble_eq_true rfl) dL_law_473 ⟨hk.1, hk.2⟩) hS (fun x213 S212 H locs hn hR hS => ?_)
              replace h := hn
              clear hn
              refine lv_iload hx hb dL_law_476 (lv_at hl 1 rfl) ?_
              refine lv_icmp_eq (tgt := 483) hx hb dL_law_478 (by decide) (fun hc214 => ?_) (fun hc214 => ?_)
              · replace h := h.1 hc214
                refine lv_iload hx hb dL_law_483 (lv_at hl 1 rfl) ?_
                refine lv_if_ne (tgt := 500) hx hb dL_law_485 (by decide) (fun hc215 => ?_) (fun hc215 => ?_)
                · replace h := h.1 hc215
                  exact tA_L_law_b500 C hml hst hX hbl hbA hret hk (fun kc ks x1 x2 x3 x4 x5 S hk h => ih kc ks x1 x2 x3 x4 x5 S hk h) h H locs ls hR hS (lv_sub (l' := [(0, .ref bb), (1, .ref x1), (2, .ref x2), (3, .ref x3), (4, .ref x4), (5, .int x5)]) hl [2, 3, 4, 5, 6, 7] rfl)
                · replace h := h.2 hc215
                  refine lv_aload_n hx hb dL_law_488 rfl (lv_at hl 5 rfl) ?_
                  refine lv_iconst (v := 0) hx hb dL_law_489 (by decide) ?_
                  obtain ⟨hK_x3, h⟩ := h
                  obtain ⟨hi216, h⟩ := h
                  refine x_lald C hR hK_x3 hi216 dL_law_490 ?_
                  refine lv_topl (fun j217 ej217 => ?_)
                  replace h := h j217 ej217
                  refine lv_iload hx hb dL_law_491 (lv_at hl 0 rfl) ?_
                  refine lv_i2l hx hb dL_law_493 rfl ?_
                  refine lv_topl (fun j218 ej218 => ?_)
                  replace h := h j218 ej218
                  refine W.lcmp hx hb dL_law_494 ?_
                  refine lv_topi (fun x219 ex219 => ?_)
                  replace h := h x219 ex219
                  refine lv_if_eq (tgt := 500) hx hb dL_law_495 (by decide) (fun hc220 => ?_) (fun hc220 => ?_)
                  · replace h := h.1 hc220
                    exact tA_L_law_b500 C hml hst hX hbl hbA hret hk (fun kc ks x1 x2 x3 x4 x5 S hk h => ih kc ks x1 x2 x3 x4 x5 S hk h) h H locs ls hR hS (lv_sub (l' := [(0, .ref bb), (1, .ref x1), (2, .ref x2), (3, .ref x3), (4, .ref x4), (5, .int x5)]) hl [2, 3, 4, 5, 6, 7] rfl)
                  · replace h := h.2 hc220
                    refine lv_iconst (v := 0) hx hb dL_law_498 (by decide) ?_
                    exact h.elim
              · replace h := h.2 hc214
                refine lv_iconst (v := 0) hx hb dL_law_481 (by decide) ?_
                exact h.elim
            · by_cases hc221 : x106 = 4
              · have h := h.2.2.2.2.1 hc221
                refine lv_tableIn (off := 459) (tgt := 503) hx hb dL_law_44 (by rw [hc221]; decide) (by rw [hc221]; decide) (by rw [hc221]; rfl) (by decide) ?_
                refine lv_aload_n hx hb dL_law_503 rfl (lv_at hl 1 rfl) ?_
                refine lv_aload_n hx hb dL_law_504 rfl (lv_at hl 0 rfl) ?_
                refine lv_iload hx hb dL_law_505 (lv_at hl 5 rfl) ?_
                refine lv_iconst (v := 1) hx hb dL_law_507 (by decide) ?_
                refine lv_iadd hx hb dL_law_508 ?_
                refine lv_topi (fun x222 ex222 => ?_)
                replace h := h x222 ex222
                obtain ⟨hi223, h⟩ := h
                refine va_sld hx hb hX hbl hbA hS hi223 dL_law_509 ?_
                refine lv_topi (fun x224 ex224 => ?_)
                replace h := h x224 ex224
                refine lv_aload_n hx hb dL_law_510 rfl (lv_at hl 0 rfl) ?_
                refine lv_iload hx hb dL_law_511 (lv_at hl 5 rfl) ?_
                refine lv_iconst (v := 2) hx hb dL_law_513 (by decide) ?_
                refine lv_iadd hx hb dL_law_514 ?_
                refine lv_topi (fun x225 ex225 => ?_)
                replace h := h x225 ex225
                obtain ⟨hi226, h⟩ := h
                refine va_sld hx hb hX hbl hbA hS hi226 dL_law_515 ?_
                refine lv_topi (fun x227 ex227 => ?_)
                replace h := h x227 ex227
                refine lv_if_eq (tgt := 523) hx hb dL_law_516 (by decide) (fun hc228 => ?_) (fun hc228 => ?_)
                · replace h := h.1 hc228
                  refine lv_iconst (v := 0) hx hb dL_law_523 (by decide) ?_
                  exact tA_L_law_b524 C hml hst hX hbl hbA hret hk (fun kc ks x1 x2 x3 x4 x5 S hk h => ih kc ks x1 x2 x3 x4 x5 S hk h) h H locs ls hR hS (lv_sub (l' := [(0, .ref bb), (1, .ref x1), (2, .ref x2), (3, .ref x3), (4, .ref x4), (5, .int x5)]) hl [0, 1, 2, 3, 4, 5] rfl)
                · replace h := h.2 hc228
                  refine lv_iconst (v := 1) hx hb dL_law_519 (by decide) ?_
                  refine lv_goto (tgt := 524) hx hb dL_law_520 (by decide) ?_
                  exact tA_L_law_b524 C hml hst hX hbl hbA hret hk (fun kc ks x1 x2 x3 x4 x5 S hk h => ih kc ks x1 x2 x3 x4 x5 S hk h) h H locs ls hR hS (lv_sub (l' := [(0, .ref bb), (1, .ref x1), (2, .ref x2), (3, .ref x3), (4, .ref x4), (5, .int x5)]) hl [0, 1, 2, 3, 4, 5] rfl)
              · by_cases hc229 : x106 = 5
                · have h := h.2.2.2.2.2.1 hc229
                  refine lv_tableIn (off := 550) (tgt := 594) hx hb dL_law_44 (by rw [hc229]; decide) (by rw [hc229]; decide) (by rw [hc229]; rfl) (by decide) ?_
                  refine lv_aload_n hx hb dL_law_594 rfl (lv_at hl 1 rfl) ?_
                  refine lv_aload_n hx hb dL_law_595 rfl (lv_at hl 0 rfl) ?_
                  refine lv_iload hx hb dL_law_596 (lv_at hl 5 rfl) ?_
                  refine lv_iconst (v := 1) hx hb dL_law_598 (by decide) ?_
                  refine lv_iadd hx hb dL_law_599 ?_
                  refine lv_topi (fun x230 ex230 => ?_)
                  replace h := h x230 ex230
                  obtain ⟨hi231, h⟩ := h
                  refine va_sld hx hb hX hbl hbA hS hi231 dL_law_600 ?_
                  refine lv_topi (fun x232 ex232 => ?_)
                  replace h := h x232 ex232
                  refine lv_aload_n hx hb dL_law_601 rfl (lv_at hl 3 rfl) ?_
                  obtain ⟨c233, d234, hk1, hk2, h⟩ := h
                  refine x_ki (x_runSH (As := [.ref x1, .int x232, .ref x3]) (rest := []) C hml hR hS (mA_L_puddle l gg c233 d234 x1 x232 x3 S hst h) b_L_puddle q_14_11 rfl rfl ⟨Nat.le_of_ble_eq_true rfl, Nat.le_of_ble_eq_true rfl⟩ rfl hl.1 (Nat.le_of_ble_eq_true rfl) dL_law_602 ⟨hk1, hk2⟩) hS (fun x236 S235 H locs hn hR hS => ?_)
                  replace h := hn
                  clear hn
                  have hk : (kc + c233) ≤ mc ∧ (ks + d234) ≤ ms := ⟨hk1, hk2⟩
                  refine lv_istore (lv' := [(6, .int x236), (0, .ref bb), (1, .ref x1), (2, .ref x2), (3, .ref x3), (4, .ref x4), (5, .int x5)]) hx hb dL_law_605 hl (by decide) rfl (fun ls hl => ?_)
                  refine lv_aload_n hx hb dL_law_607 rfl (lv_at hl 3 rfl) ?_
                  refine lv_aload_n hx hb dL_law_608 rfl (lv_at hl 1 rfl) ?_
                  refine lv_iload hx hb dL_law_609 (lv_at hl 6 rfl) ?_
                  refine lv_iconst (v := 1) hx hb dL_law_611 (by decide) ?_
                  refine lv_iadd hx hb dL_law_612 ?_
                  refine lv_topi (fun x237 ex237 => ?_)
                  replace h := h x237 ex237
                  obtain ⟨hi238, h⟩ := h
                  refine va_sld hx hb hX hbl hbA hS hi238 dL_law_613 ?_
                  refine lv_topi (fun x239 ex239 => ?_)
                  replace h := h x239 ex239
                  obtain ⟨hK_x2, h⟩ := h
                  refine x_ki (x_runV (As := [.int x239]) (rest := []) C hml hR hS (m_X8_puddle l gg x2 x239 S235 h) b_X8_puddle q_14_22 (by rw [hK_x2]; decide) (s_E_9 hK_x2) rfl rfl rfl rfl ⟨Nat.le_of_ble_eq_true rfl, Nat.le_of_ble_eq_true rfl⟩ rfl hl.1 (Nat.le_of_ble_eq_true rfl) dL_law_614 ⟨hk.1, hk.2⟩) hS (fun x241 S240 H locs hn hR hS => ?_)
                  replace h := hn
                  clear hn
                  refine lv_istore (lv' := [(7, .int x241), (6, .int x236), (0, .ref bb), (1, .ref x1), (2, .ref x2), (3, .ref x3), (4, .ref x4), (5, .int x5)]) hx hb dL_law_617 hl (by decide) rfl (fun ls hl => ?_)
                  refine lv_aload_n hx hb dL_law_619 rfl (lv_at hl 4 rfl) ?_
                  obtain ⟨hK_x2, h⟩ := h
                  refine x_ki (x_runV (As := []) (rest := []) C hml hR hS (m_X8_thrown l gg x2 S240 h) b_X8_thrown q_8_16 (by rw [hK_x2]; decide) (s_E_9 hK_x2) rfl rfl rfl rfl ⟨Nat.le_of_ble_eq_true rfl, Nat.le_of_ble_eq_true rfl⟩ rfl hl.1 (Nat.le_of_ble_eq_true rfl) dL_law_620 ⟨hk.1, hk.2⟩) hS (fun x243 S242 H locs hn hR hS => ?_)
                  replace h := hn
                  clear hn
                  refine lv_iload hx hb dL_law_623 (lv_at hl 1 rfl) ?_
                  refine lv_icmp_eq (tgt := 630) hx hb dL_law_625 (by decide) (fun hc244 => ?_) (fun hc244 => ?_)
                  · replace h := h.1 hc244
                    refine lv_iload hx hb dL_law_630 (lv_at hl 1 rfl) ?_
                    refine lv_if_ne (tgt := 647) hx hb dL_law_632 (by decide) (fun hc245 => ?_) (fun hc245 => ?_)
                    · replace h := h.1 hc245
                      exact tA_L_law_b647 C hml hst hX hbl hbA hret hk (fun kc ks x1 x2 x3 x4 x5 S hk h => ih kc ks x1 x2 x3 x4 x5 S hk h) h H locs ls hR hS (lv_sub (l' := [(0, .ref bb), (1, .ref x1), (2, .ref x2), (3, .ref x3), (4, .ref x4), (5, .int x5)]) hl [2, 3, 4, 5, 6, 7] rfl)
                    · replace h := h.2 hc245
                      refine lv_aload_n hx hb dL_law_635 rfl (lv_at hl 5 rfl) ?_
                      refine lv_iconst (v := 0) hx hb dL_law_636 (by decide) ?_
                      obtain ⟨hK_x3, h⟩ := h
                      obtain ⟨hi246, h⟩ := h
                      refine x_lald C hR hK_x3 hi246 dL_law_637 ?_
                      refine lv_topl (fun j247 ej247 => ?_)
                      replace h := h j247 ej247
                      refine lv_iload hx hb dL_law_638 (lv_at hl 0 rfl) ?_
                      refine lv_i2l hx hb dL_law_640 rfl ?_
                      refine lv_topl (fun j248 ej248 => ?_)
                      replace h := h j248 ej248
                      refine W.lcmp hx hb dL_law_641 ?_
                      refine lv_topi (fun x249 ex249 => ?_)
                      replace h := h x249 ex249
                      refine lv_if_eq (tgt := 647) hx hb dL_law_642 (by decide) (fun hc250 => ?_) (fun hc250 => ?_)
                      · replace h := h.1 hc250
                        exact tA_L_law_b647 C hml hst hX hbl hbA hret hk (fun kc ks x1 x2 x3 x4 x5 S hk h => ih kc ks x1 x2 x3 x4 x5 S hk h) h H locs ls hR hS (lv_sub (l' := [(0, .ref bb), (1, .ref x1), (2, .ref x2), (3, .ref x3), (4, .ref x4), (5, .int x5)]) hl [2, 3, 4, 5, 6, 7] rfl)
                      · replace h := h.2 hc250
                        refine lv_iconst (v := 0) hx hb dL_law_645 (by decide) ?_
                        exact h.elim
                  · replace h := h.2 hc244
                    refine lv_iconst (v := 0) hx hb dL_law_628 (by decide) ?_
                    exact h.elim
                · by_cases hc251 : x106 = 6
                  · have h := h.2.2.2.2.2.2.1 hc251
                    refine lv_tableIn (off := 606) (tgt := 650) hx hb dL_law_44 (by rw [hc251]; decide) (by rw [hc251]; decide) (by rw [hc251]; rfl) (by decide) ?_
                    refine lv_aload_n hx hb dL_law_650 rfl (lv_at hl 1 rfl) ?_
                    refine lv_aload_n hx hb dL_law_651 rfl (lv_at hl 0 rfl) ?_
                    refine lv_iload hx hb dL_law_652 (lv_at hl 5 rfl) ?_
                    refine lv_iconst (v := 1) hx hb dL_law_654 (by decide) ?_
                    refine lv_iadd hx hb dL_law_655 ?_
                    refine lv_topi (fun x252 ex252 => ?_)
                    replace h := h x252 ex252
                    obtain ⟨hi253, h⟩ := h
                    refine va_sld hx hb hX hbl hbA hS hi253 dL_law_656 ?_
                    refine lv_topi (fun x254 ex254 => ?_)
                    replace h := h x254 ex254
                    refine lv_aload_n hx hb dL_law_657 rfl (lv_at hl 0 rfl) ?_
                    refine lv_iload hx hb dL_law_658 (lv_at hl 5 rfl) ?_
                    refine lv_iconst (v := 2) hx hb dL_law_660 (by decide) ?_
                    refine lv_iadd hx hb dL_law_661 ?_
                    refine lv_topi (fun x255 ex255 => ?_)
                    replace h := h x255 ex255
                    obtain ⟨hi256, h⟩ := h
                    refine va_sld hx hb hX hbl hbA hS hi256 dL_law_662 ?_
                    refine lv_topi (fun x257 ex257 => ?_)
                    replace h := h x257 ex257
                    refine lv_aload_n hx hb dL_law_663 rfl (lv_at hl 3 rfl) ?_
                    obtain ⟨c258, d259, hk1, hk2, h⟩ := h
                    refine x_ki (x_runSH (As := [.ref x1, .int x254, .int x257, .ref x3]) (rest := []) C hml hR hS (mA_L_plant l gg c258 d259 x1 x254 x257 x3 S hst h) b_L_plant q_15_2 rfl rfl ⟨Nat.le_of_ble_eq_true rfl, Nat.le_of_ble_eq_true rfl⟩ rfl hl.1 (Nat.le_of_ble_eq_true rfl) dL_law_664 ⟨hk1, hk2⟩) hS (fun x261 S260 H locs hn hR hS => ?_)
                    replace h := hn
                    clear hn
                    have hk : (kc + c258) ≤ mc ∧ (ks + d259) ≤ ms := ⟨hk1, hk2⟩
                    refine lv_istore (lv' := [(6, .int x261), (0, .ref bb), (1, .ref x1), (2, .ref x2), (3, .ref x3), (4, .ref x4), (5, .int x5)]) hx hb dL_law_667 hl (by decide) rfl (fun ls hl => ?_)
                    refine lv_aload_n hx hb dL_law_669 rfl (lv_at hl 3 rfl) ?_
                    refine lv_aload_n hx hb dL_law_670 rfl (lv_at hl 1 rfl) ?_
                    refine lv_iload hx hb dL_law_671 (lv_at hl 6 rfl) ?_
                    refine lv_iconst (v := 1) hx hb dL_law_673 (by decide) ?_
                    refine lv_iadd hx hb dL_law_674 ?_
                    refine lv_topi (fun x262 ex262 => ?_)
                    replace h := h x262 ex262
                    obtain ⟨hi263, h⟩ := h
                    refine va_sld hx hb hX hbl hbA hS hi263 dL_law_675 ?_
                    refine lv_topi (fun x264 ex264 => ?_)
                    replace h := h x264 ex264
                    refine lv_aload_n hx hb dL_law_676 rfl (lv_at hl 1 rfl) ?_
                    refine lv_iload hx hb dL_law_677 (lv_at hl 6 rfl) ?_
                    refine lv_iconst (v := 2) hx hb dL_law_679 (by decide) ?_
                    refine lv_iadd hx hb dL_law_680 ?_
                    refine lv_topi (fun x265 ex265 => ?_)
                    replace h := h x265 ex265
                    obtain ⟨hi266, h⟩ := h
                    refine va_sld hx hb hX hbl hbA hS hi266 dL_law_681 ?_
                    refine lv_topi (fun x267 ex267 => ?_)
                    replace h := h x267 ex267
                    obtain ⟨hK_x2, h⟩ := h
                    refine x_ki (x_runV (As := [.int x264, .int x267]) (rest := []) C hml hR hS (m_X8_plant l gg x2 x264 x267 S260 h) b_X8_plant q_16_3 (by rw [hK_x2]; decide) (s_E_9 hK_x2) rfl rfl rfl rfl ⟨Nat.le_of_ble_eq_true rfl, Nat.le_of_ble_eq_true rfl⟩ rfl hl.1 (Nat.le_of_ble_eq_true rfl) dL_law_682 ⟨hk.1, hk.2⟩) hS (fun x269 S268 H locs hn hR hS => ?_)
                    replace h := hn
                    clear hn
                    refine lv_istore (lv' := [(7, .int x269), (6, .int x261), (0, .ref bb), (1, .ref x1), (2, .ref x2), (3, .ref x3), (4, .ref x4), (5, .int x5)]) hx hb dL_law_685 hl (by decide) rfl (fun ls hl => ?_)
                    refine lv_aload_n hx hb dL_law_687 rfl (lv_at hl 4 rfl) ?_
                    obtain ⟨hK_x2, h⟩ := h
                    refine x_ki (x_runV (As := []) (rest := []) C hml hR hS (m_X8_thrown l gg x2 S268 h) b_X8_thrown q_8_16 (by rw [hK_x2]; decide) (s_E_9 hK_x2) rfl rfl rfl rfl ⟨Nat.le_of_ble_eq_true rfl, Nat.le_of_ble_eq_true rfl⟩ rfl hl.1 (Nat.le_of_ble_eq_true rfl) dL_law_688 ⟨hk.1, hk.2⟩) hS (fun x271 S270 H locs hn hR hS => ?_)
                    replace h := hn
                    clear hn
                    refine lv_iload hx hb dL_law_691 (lv_at hl 1 rfl) ?_
                    refine lv_icmp_eq (tgt := 698) hx hb dL_law_693 (by decide) (fun hc272 => ?_) (fun hc272 => ?_)
                    · replace h := h.1 hc272
                      refine lv_iload hx hb dL_law_698 (lv_at hl 1 rfl) ?_
                      refine lv_if_ne (tgt := 715) hx hb dL_law_700 (by decide) (fun hc273 => ?_) (fun hc273 => ?_)
                      · replace h := h.1 hc273
                        exact tA_L_law_b715 C hml hst hX hbl hbA hret hk (fun kc ks x1 x2 x3 x4 x5 S hk h => ih kc ks x1 x2 x3 x4 x5 S hk h) h H locs ls hR hS (lv_sub (l' := [(0, .ref bb), (1, .ref x1), (2, .ref x2), (3, .ref x3), (4, .ref x4), (5, .int x5)]) hl [2, 3, 4, 5, 6, 7] rfl)
                      · replace h := h.2 hc273
                        refine lv_aload_n hx hb dL_law_703 rfl (lv_at hl 5 rfl) ?_
                        refine lv_iconst (v := 0) hx hb dL_law_704 (by decide) ?_
                        obtain ⟨hK_x3, h⟩ := h
                        obtain ⟨hi274, h⟩ := h
                        refine x_lald C hR hK_x3 hi274 dL_law_705 ?_
                        refine lv_topl (fun j275 ej275 => ?_)
                        replace h := h j275 ej275
                        refine lv_iload hx hb dL_law_706 (lv_at hl 0 rfl) ?_
                        refine lv_i2l hx hb dL_law_708 rfl ?_
                        refine lv_topl (fun j276 ej276 => ?_)
                        replace h := h j276 ej276
                        refine W.lcmp hx hb dL_law_709 ?_
                        refine lv_topi (fun x277 ex277 => ?_)
                        replace h := h x277 ex277
                        refine lv_if_eq (tgt := 715) hx hb dL_law_710 (by decide) (fun hc278 => ?_) (fun hc278 => ?_)
                        · replace h := h.1 hc278
                          exact tA_L_law_b715 C hml hst hX hbl hbA hret hk (fun kc ks x1 x2 x3 x4 x5 S hk h => ih kc ks x1 x2 x3 x4 x5 S hk h) h H locs ls hR hS (lv_sub (l' := [(0, .ref bb), (1, .ref x1), (2, .ref x2), (3, .ref x3), (4, .ref x4), (5, .int x5)]) hl [2, 3, 4, 5, 6, 7] rfl)
                        · replace h := h.2 hc278
                          refine lv_iconst (v := 0) hx hb dL_law_713 (by decide) ?_
                          exact h.elim
                    · replace h := h.2 hc272
                      refine lv_iconst (v := 0) hx hb dL_law_696 (by decide) ?_
                      exact h.elim
                  · by_cases hc279 : x106 = 7
                    · have h := h.2.2.2.2.2.2.2.1 hc279
                      refine lv_tableIn (off := 674) (tgt := 718) hx hb dL_law_44 (by rw [hc279]; decide) (by rw [hc279]; decide) (by rw [hc279]; rfl) (by decide) ?_
                      refine lv_aload_n hx hb dL_law_718 rfl (lv_at hl 1 rfl) ?_
                      refine lv_aload_n hx hb dL_law_719 rfl (lv_at hl 0 rfl) ?_
                      refine lv_iload hx hb dL_law_720 (lv_at hl 5 rfl) ?_
                      refine lv_iconst (v := 1) hx hb dL_law_722 (by decide) ?_
                      refine lv_iadd hx hb dL_law_723 ?_
                      refine lv_topi (fun x280 ex280 => ?_)
                      replace h := h x280 ex280
                      obtain ⟨hi281, h⟩ := h
                      refine va_sld hx hb hX hbl hbA hS hi281 dL_law_724 ?_
                      refine lv_topi (fun x282 ex282 => ?_)
                      replace h := h x282 ex282
                      refine lv_aload_n hx hb dL_law_725 rfl (lv_at hl 0 rfl) ?_
                      refine lv_iload hx hb dL_law_726 (lv_at hl 5 rfl) ?_
                      refine lv_iconst (v := 2) hx hb dL_law_728 (by decide) ?_
                      refine lv_iadd hx hb dL_law_729 ?_
                      refine lv_topi (fun x283 ex283 => ?_)
                      replace h := h x283 ex283
                      obtain ⟨hi284, h⟩ := h
                      refine va_sld hx hb hX hbl hbA hS hi284 dL_law_730 ?_
                      refine lv_topi (fun x285 ex285 => ?_)
                      replace h := h x285 ex285
                      refine lv_aload_n hx hb dL_law_731 rfl (lv_at hl 3 rfl) ?_
                      obtain ⟨c286, d287, hk1, hk2, h⟩ := h
                      refine x_ki (x_runSH (As := [.ref x1, .int x282, .int x285, .ref x3]) (rest := []) C hml hR hS (mA_L_help l gg c286 d287 x1 x282 x285 x3 S hst h) b_L_help q_16_14 rfl rfl ⟨Nat.le_of_ble_eq_true rfl, Nat.le_of_ble_eq_true rfl⟩ rfl hl.1 (Nat.le_of_ble_eq_true rfl) dL_law_732 ⟨hk1, hk2⟩) hS (fun x289 S288 H locs hn hR hS => ?_)
                      replace h := hn
                      clear hn
                      have hk : (kc + c286) ≤ mc ∧ (ks + d287) ≤ ms := ⟨hk1, hk2⟩
                      refine lv_istore (lv' := [(6, .int x289), (0, .ref bb), (1, .ref x1), (2, .ref x2), (3, .ref x3), (4, .ref x4), (5, .int x5)]) hx hb dL_law_735 hl (by decide) rfl (fun ls hl => ?_)
                      refine lv_aload_n hx hb dL_law_737 rfl (lv_at hl 3 rfl) ?_
                      refine lv_aload_n hx hb dL_law_738 rfl (lv_at hl 1 rfl) ?_
                      refine lv_iload hx hb dL_law_739 (lv_at hl 6 rfl) ?_
                      refine lv_iconst (v := 1) hx hb dL_law_741 (by decide) ?_
                      refine lv_iadd hx hb dL_law_742 ?_
                      refine lv_topi (fun x290 ex290 => ?_)
                      replace h := h x290 ex290
                      obtain ⟨hi291, h⟩ := h
                      refine va_sld hx hb hX hbl hbA hS hi291 dL_law_743 ?_
                      refine lv_topi (fun x292 ex292 => ?_)
                      replace h := h x292 ex292
                      refine lv_aload_n hx hb dL_law_744 rfl (lv_at hl 1 rfl) ?_
                      refine lv_iload hx hb dL_law_745 (lv_at hl 6 rfl) ?_
                      refine lv_iconst (v := 2) hx hb dL_law_747 (by decide) ?_
                      refine lv_iadd hx hb dL_law_748 ?_
                      refine lv_topi (fun x293 ex293 => ?_)
                      replace h := h x293 ex293
                      obtain ⟨hi294, h⟩ := h
                      refine va_sld hx hb hX hbl hbA hS hi294 dL_law_749 ?_
                      refine lv_topi (fun x295 ex295 => ?_)
                      replace h := h x295 ex295
                      obtain ⟨hK_x2, h⟩ := h
                      refine x_ki (x_runV (As := [.int x292, .int x295]) (rest := []) C hml hR hS (m_X8_help l gg x2 x292 x295 S288 h) b_X8_help q_16_23 (by rw [hK_x2]; decide) (s_E_9 hK_x2) rfl rfl rfl rfl ⟨Nat.le_of_ble_eq_true rfl, Nat.le_of_ble_eq_true rfl⟩ rfl hl.1 (Nat.le_of_ble_eq_true rfl) dL_law_750 ⟨hk.1, hk.2⟩) hS (fun x297 S296 H locs hn hR hS => ?_)
                      replace h := hn
                      clear hn
                      refine lv_istore (lv' := [(7, .int x297), (6, .int x289), (0, .ref bb), (1, .ref x1), (2, .ref x2), (3, .ref x3), (4, .ref x4), (5, .int x5)]) hx hb dL_law_753 hl (by decide) rfl (fun ls hl => ?_)
                      refine lv_aload_n hx hb dL_law_755 rfl (lv_at hl 4 rfl) ?_
                      obtain ⟨hK_x2, h⟩ := h
                      refine x_ki (x_runV (As := []) (rest := []) C hml hR hS (m_X8_thrown l gg x2 S296 h) b_X8_thrown q_8_16 (by rw [hK_x2]; decide) (s_E_9 hK_x2) rfl rfl rfl rfl ⟨Nat.le_of_ble_eq_true rfl, Nat.le_of_ble_eq_true rfl⟩ rfl hl.1 (Nat.le_of_ble_eq_true rfl) dL_law_756 ⟨hk.1, hk.2⟩) hS (fun x299 S298 H locs hn hR hS => ?_)
                      replace h := hn
                      clear hn
                      refine lv_iload hx hb dL_law_759 (lv_at hl 1 rfl) ?_
                      refine lv_icmp_eq (tgt := 766) hx hb dL_law_761 (by decide) (fun hc300 => ?_) (fun hc300 => ?_)
                      · replace h := h.1 hc300
                        refine lv_iload hx hb dL_law_766 (lv_at hl 1 rfl) ?_
                        refine lv_if_ne (tgt := 783) hx hb dL_law_768 (by decide) (fun hc301 => ?_) (fun hc301 => ?_)
                        · replace h := h.1 hc301
                          exact tA_L_law_b783 C hml hst hX hbl hbA hret hk (fun kc ks x1 x2 x3 x4 x5 S hk h => ih kc ks x1 x2 x3 x4 x5 S hk h) h H locs ls hR hS (lv_sub (l' := [(0, .ref bb), (1, .ref x1), (2, .ref x2), (3, .ref x3), (4, .ref x4), (5, .int x5)]) hl [2, 3, 4, 5, 6, 7] rfl)
                        · replace h := h.2 hc301
                          refine lv_aload_n hx hb dL_law_771 rfl (lv_at hl 5 rfl) ?_
                          refine lv_iconst (v := 0) hx hb dL_law_772 (by decide) ?_
                          obtain ⟨hK_x3, h⟩ := h
                          obtain ⟨hi302, h⟩ := h
                          refine x_lald C hR hK_x3 hi302 dL_law_773 ?_
                          refine lv_topl (fun j303 ej303 => ?_)
                          replace h := h j303 ej303
                          refine lv_iload hx hb dL_law_774 (lv_at hl 0 rfl) ?_
                          refine lv_i2l hx hb dL_law_776 rfl ?_
                          refine lv_topl (fun j304 ej304 => ?_)
                          replace h := h j304 ej304
                          refine W.lcmp hx hb dL_law_777 ?_
                          refine lv_topi (fun x305 ex305 => ?_)
                          replace h := h x305 ex305
                          refine lv_if_eq (tgt := 783) hx hb dL_law_778 (by decide) (fun hc306 => ?_) (fun hc306 => ?_)
                          · replace h := h.1 hc306
                            exact tA_L_law_b783 C hml hst hX hbl hbA hret hk (fun kc ks x1 x2 x3 x4 x5 S hk h => ih kc ks x1 x2 x3 x4 x5 S hk h) h H locs ls hR hS (lv_sub (l' := [(0, .ref bb), (1, .ref x1), (2, .ref x2), (3, .ref x3), (4, .ref x4), (5, .int x5)]) hl [2, 3, 4, 5, 6, 7] rfl)
                          · replace h := h.2 hc306
                            refine lv_iconst (v := 0) hx hb dL_law_781 (by decide) ?_
                            exact h.elim
                      · replace h := h.2 hc300
                        refine lv_iconst (v := 0) hx hb dL_law_764 (by decide) ?_
                        exact h.elim
                    · by_cases hc307 : x106 = 8
                      · have h := h.2.2.2.2.2.2.2.2.1 hc307
                        refine lv_tableIn (off := 742) (tgt := 786) hx hb dL_law_44 (by rw [hc307]; decide) (by rw [hc307]; decide) (by rw [hc307]; rfl) (by decide) ?_
                        refine lv_aload_n hx hb dL_law_786 rfl (lv_at hl 1 rfl) ?_
                        refine lv_aload_n hx hb dL_law_787 rfl (lv_at hl 0 rfl) ?_
                        refine lv_iload hx hb dL_law_788 (lv_at hl 5 rfl) ?_
                        refine lv_iconst (v := 1) hx hb dL_law_790 (by decide) ?_
                        refine lv_iadd hx hb dL_law_791 ?_
                        refine lv_topi (fun x308 ex308 => ?_)
                        replace h := h x308 ex308
                        obtain ⟨hi309, h⟩ := h
                        refine va_sld hx hb hX hbl hbA hS hi309 dL_law_792 ?_
                        refine lv_topi (fun x310 ex310 => ?_)
                        replace h := h x310 ex310
                        refine lv_aload_n hx hb dL_law_793 rfl (lv_at hl 0 rfl) ?_
                        refine lv_iload hx hb dL_law_794 (lv_at hl 5 rfl) ?_
                        refine lv_iconst (v := 2) hx hb dL_law_796 (by decide) ?_
                        refine lv_iadd hx hb dL_law_797 ?_
                        refine lv_topi (fun x311 ex311 => ?_)
                        replace h := h x311 ex311
                        obtain ⟨hi312, h⟩ := h
                        refine va_sld hx hb hX hbl hbA hS hi312 dL_law_798 ?_
                        refine lv_topi (fun x313 ex313 => ?_)
                        replace h := h x313 ex313
                        refine lv_if_eq (tgt := 806) hx hb dL_law_799 (by decide) (fun hc314 => ?_) (fun hc314 => ?_)
                        · replace h := h.1 hc314
                          refine lv_iconst (v := 0) hx hb dL_law_806 (by decide) ?_
                          exact tA_L_law_b807 C hml hst hX hbl hbA hret hk (fun kc ks x1 x2 x3 x4 x5 S hk h => ih kc ks x1 x2 x3 x4 x5 S hk h) h H locs ls hR hS (lv_sub (l' := [(0, .ref bb), (1, .ref x1), (2, .ref x2), (3, .ref x3), (4, .ref x4), (5, .int x5)]) hl [0, 1, 2, 3, 4, 5] rfl)
                        · replace h := h.2 hc314
                          refine lv_iconst (v := 1) hx hb dL_law_802 (by decide) ?_
                          refine lv_goto (tgt := 807) hx hb dL_law_803 (by decide) ?_
                          exact tA_L_law_b807 C hml hst hX hbl hbA hret hk (fun kc ks x1 x2 x3 x4 x5 S hk h => ih kc ks x1 x2 x3 x4 x5 S hk h) h H locs ls hR hS (lv_sub (l' := [(0, .ref bb), (1, .ref x1), (2, .ref x2), (3, .ref x3), (4, .ref x4), (5, .int x5)]) hl [0, 1, 2, 3, 4, 5] rfl)
                      · by_cases hc315 : x106 = 9
                        · have h := h.2.2.2.2.2.2.2.2.2.1 hc315
                          refine lv_tableIn (off := 826) (tgt := 870) hx hb dL_law_44 (by rw [hc315]; decide) (by rw [hc315]; decide) (by rw [hc315]; rfl) (by decide) ?_
                          refine lv_aload_n hx hb dL_law_870 rfl (lv_at hl 1 rfl) ?_
                          refine lv_aload_n hx hb dL_law_871 rfl (lv_at hl 0 rfl) ?_
                          refine lv_iload hx hb dL_law_872 (lv_at hl 5 rfl) ?_
                          refine lv_iconst (v := 1) hx hb dL_law_874 (by decide) ?_
                          refine lv_iadd hx hb dL_law_875 ?_
                          refine lv_topi (fun x316 ex316 => ?_)
                          replace h := h x316 ex316
                          obtain ⟨hi317, h⟩ := h
                          refine va_sld hx hb hX hbl hbA hS hi317 dL_law_876 ?_
                          refine lv_topi (fun x318 ex318 => ?_)
                          replace h := h x318 ex318
                          refine lv_aload_n hx hb dL_law_877 rfl (lv_at hl 0 rfl) ?_
                          refine lv_iload hx hb dL_law_878 (lv_at hl 5 rfl) ?_
                          refine lv_iconst (v := 2) hx hb dL_law_880 (by decide) ?_
                          refine lv_iadd hx hb dL_law_881 ?_
                          refine lv_topi (fun x319 ex319 => ?_)
                          replace h := h x319 ex319
                          obtain ⟨hi320, h⟩ := h
                          refine va_sld hx hb hX hbl hbA hS hi320 dL_law_882 ?_
                          refine lv_topi (fun x321 ex321 => ?_)
                          replace h := h x321 ex321
                          refine lv_if_eq (tgt := 890) hx hb dL_law_883 (by decide) (fun hc322 => ?_) (fun hc322 => ?_)
                          · replace h := h.1 hc322
                            refine lv_iconst (v := 0) hx hb dL_law_890 (by decide) ?_
                            exact tA_L_law_b891 C hml hst hX hbl hbA hret hk (fun kc ks x1 x2 x3 x4 x5 S hk h => ih kc ks x1 x2 x3 x4 x5 S hk h) h H locs ls hR hS (lv_sub (l' := [(0, .ref bb), (1, .ref x1), (2, .ref x2), (3, .ref x3), (4, .ref x4), (5, .int x5)]) hl [0, 1, 2, 3, 4, 5] rfl)
                          · replace h := h.2 hc322
                            refine lv_iconst (v := 1) hx hb dL_law_886 (by decide) ?_
                            refine lv_goto (tgt := 891) hx hb dL_law_887 (by decide) ?_
                            exact tA_L_law_b891 C hml hst hX hbl hbA hret hk (fun kc ks x1 x2 x3 x4 x5 S hk h => ih kc ks x1 x2 x3 x4 x5 S hk h) h H locs ls hR hS (lv_sub (l' := [(0, .ref bb), (1, .ref x1), (2, .ref x2), (3, .ref x3), (4, .ref x4), (5, .int x5)]) hl [0, 1, 2, 3, 4, 5] rfl)
                        · by_cases hc323 : x106 = 10
                          · have h := h.2.2.2.2.2.2.2.2.2.2.1 hc323
                            refine lv_tableIn (off := 910) (tgt := 954) hx hb dL_law_44 (by rw [hc323]; decide) (by rw [hc323]; decide) (by rw [hc323]; rfl) (by decide) ?_
                            refine lv_aload_n hx hb dL_law_954 rfl (lv_at hl 1 rfl) ?_
                            refine lv_aload_n hx hb dL_law_955 rfl (lv_at hl 0 rfl) ?_
                            refine lv_iload hx hb dL_law_956 (lv_at hl 5 rfl) ?_
                            refine lv_iconst (v := 1) hx hb dL_law_958 (by decide) ?_
                            refine lv_iadd hx hb dL_law_959 ?_
                            refine lv_topi (fun x324 ex324 => ?_)
                            replace h := h x324 ex324
                            obtain ⟨hi325, h⟩ := h
                            refine va_sld hx hb hX hbl hbA hS hi325 dL_law_960 ?_
                            refine lv_topi (fun x326 ex326 => ?_)
                            replace h := h x326 ex326
                            refine lv_aload_n hx hb dL_law_961 rfl (lv_at hl 3 rfl) ?_
                            obtain ⟨c327, d328, hk1, hk2, h⟩ := h
                            refine x_ki (x_runSH (As := [.ref x1, .int x326, .ref x3]) (rest := []) C hml hR hS (mA_L_cut l gg c327 d328 x1 x326 x3 S hst h) b_L_cut q_19_10 rfl rfl ⟨Nat.le_of_ble_eq_true rfl, Nat.le_of_ble_eq_true rfl⟩ rfl hl.1 (Nat.le_of_ble_eq_true rfl) dL_law_962 ⟨hk1, hk2⟩) hS (fun x330 S329 H locs hn hR hS => ?_)
                            replace h := hn
                            clear hn
                            have hk : (kc + c327) ≤ mc ∧ (ks + d328) ≤ ms := ⟨hk1, hk2⟩
                            refine lv_istore (lv' := [(6, .int x330), (0, .ref bb), (1, .ref x1), (2, .ref x2), (3, .ref x3), (4, .ref x4), (5, .int x5)]) hx hb dL_law_965 hl (by decide) rfl (fun ls hl => ?_)
                            refine lv_aload_n hx hb dL_law_967 rfl (lv_at hl 3 rfl) ?_
                            refine lv_aload_n hx hb dL_law_968 rfl (lv_at hl 1 rfl) ?_
                            refine lv_iload hx hb dL_law_969 (lv_at hl 6 rfl) ?_
                            refine lv_iconst (v := 1) hx hb dL_law_971 (by decide) ?_
                            refine lv_iadd hx hb dL_law_972 ?_
                            refine lv_topi (fun x331 ex331 => ?_)
                            replace h := h x331 ex331
                            obtain ⟨hi332, h⟩ := h
                            refine va_sld hx hb hX hbl hbA hS hi332 dL_law_973 ?_
                            refine lv_topi (fun x333 ex333 => ?_)
                            replace h := h x333 ex333
                            obtain ⟨hK_x2, h⟩ := h
                            refine x_ki (x_runV (As := [.int x333]) (rest := []) C hml hR hS (m_X8_cut l gg x2 x333 S329 h) b_X8_cut q_20_5 (by rw [hK_x2]; decide) (s_E_9 hK_x2) rfl rfl rfl rfl ⟨Nat.le_of_ble_eq_true rfl, Nat.le_of_ble_eq_true rfl⟩ rfl hl.1 (Nat.le_of_ble_eq_true rfl) dL_law_974 ⟨hk.1, hk.2⟩) hS (fun x335 S334 H locs hn hR hS => ?_)
                            replace h := hn
                            clear hn
                            refine lv_istore (lv' := [(7, .int x335), (6, .int x330), (0, .ref bb), (1, .ref x1), (2, .ref x2), (3, .ref x3), (4, .ref x4), (5, .int x5)]) hx hb dL_law_977 hl (by decide) rfl (fun ls hl => ?_)
                            refine lv_aload_n hx hb dL_law_979 rfl (lv_at hl 4 rfl) ?_
                            obtain ⟨hK_x2, h⟩ := h
                            refine x_ki (x_runV (As := []) (rest := []) C hml hR hS (m_X8_thrown l gg x2 S334 h) b_X8_thrown q_8_16 (by rw [hK_x2]; decide) (s_E_9 hK_x2) rfl rfl rfl rfl ⟨Nat.le_of_ble_eq_true rfl, Nat.le_of_ble_eq_true rfl⟩ rfl hl.1 (Nat.le_of_ble_eq_true rfl) dL_law_980 ⟨hk.1, hk.2⟩) hS (fun x337 S336 H locs hn hR hS => ?_)
                            replace h := hn
                            clear hn
                            refine lv_iload hx hb dL_law_983 (lv_at hl 1 rfl) ?_
                            refine lv_icmp_eq (tgt := 990) hx hb dL_law_985 (by decide) (fun hc338 => ?_) (fun hc338 => ?_)
                            · replace h := h.1 hc338
                              refine lv_iload hx hb dL_law_990 (lv_at hl 1 rfl) ?_
                              refine lv_if_ne (tgt := 1007) hx hb dL_law_992 (by decide) (fun hc339 => ?_) (fun hc339 => ?_)
                              · replace h := h.1 hc339
                                exact tA_L_law_b1007 C hml hst hX hbl hbA hret hk (fun kc ks x1 x2 x3 x4 x5 S hk h => ih kc ks x1 x2 x3 x4 x5 S hk h) h H locs ls hR hS (lv_sub (l' := [(0, .ref bb), (1, .ref x1), (2, .ref x2), (3, .ref x3), (4, .ref x4), (5, .int x5)]) hl [2, 3, 4, 5, 6, 7] rfl)
                              · replace h := h.2 hc339
                                refine lv_aload_n hx hb dL_law_995 rfl (lv_at hl 5 rfl) ?_
                                refine lv_iconst (v := 0) hx hb dL_law_996 (by decide) ?_
                                obtain ⟨hK_x3, h⟩ := h
                                obtain ⟨hi340, h⟩ := h
                                refine x_lald C hR hK_x3 hi340 dL_law_997 ?_
                                refine lv_topl (fun j341 ej341 => ?_)
                                replace h := h j341 ej341
                                refine lv_iload hx hb dL_law_998 (lv_at hl 0 rfl) ?_
                                refine lv_i2l hx hb dL_law_1000 rfl ?_
                                refine lv_topl (fun j342 ej342 => ?_)
                                replace h := h j342 ej342
                                refine W.lcmp hx hb dL_law_1001 ?_
                                refine lv_topi (fun x343 ex343 => ?_)
                                replace h := h x343 ex343
                                refine lv_if_eq (tgt := 1007) hx hb dL_law_1002 (by decide) (fun hc344 => ?_) (fun hc344 => ?_)
                                · replace h := h.1 hc344
                                  exact tA_L_law_b1007 C hml hst hX hbl hbA hret hk (fun kc ks x1 x2 x3 x4 x5 S hk h => ih kc ks x1 x2 x3 x4 x5 S hk h) h H locs ls hR hS (lv_sub (l' := [(0, .ref bb), (1, .ref x1), (2, .ref x2), (3, .ref x3), (4, .ref x4), (5, .int x5)]) hl [2, 3, 4, 5, 6, 7] rfl)
                                · replace h := h.2 hc344
                                  refine lv_iconst (v := 0) hx hb dL_law_1005 (by decide) ?_
                                  exact h.elim
                            · replace h := h.2 hc338
                              refine lv_iconst (v := 0) hx hb dL_law_988 (by decide) ?_
                              exact h.elim
                          · by_cases hc345 : x106 = 11
                            · have h := h.2.2.2.2.2.2.2.2.2.2.2.1 hc345
                              refine lv_tableIn (off := 966) (tgt := 1010) hx hb dL_law_44 (by rw [hc345]; decide) (by rw [hc345]; decide) (by rw [hc345]; rfl) (by decide) ?_
                              refine lv_aload_n hx hb dL_law_1010 rfl (lv_at hl 1 rfl) ?_
                              refine lv_aload_n hx hb dL_law_1011 rfl (lv_at hl 0 rfl) ?_
                              refine lv_iload hx hb dL_law_1012 (lv_at hl 5 rfl) ?_
                              refine lv_iconst (v := 1) hx hb dL_law_1014 (by decide) ?_
                              refine lv_iadd hx hb dL_law_1015 ?_
                              refine lv_topi (fun x346 ex346 => ?_)
                              replace h := h x346 ex346
                              obtain ⟨hi347, h⟩ := h
                              refine va_sld hx hb hX hbl hbA hS hi347 dL_law_1016 ?_
                              refine lv_topi (fun x348 ex348 => ?_)
                              replace h := h x348 ex348
                              refine lv_aload_n hx hb dL_law_1017 rfl (lv_at hl 0 rfl) ?_
                              refine lv_iload hx hb dL_law_1018 (lv_at hl 5 rfl) ?_
                              refine lv_iconst (v := 2) hx hb dL_law_1020 (by decide) ?_
                              refine lv_iadd hx hb dL_law_1021 ?_
                              refine lv_topi (fun x349 ex349 => ?_)
                              replace h := h x349 ex349
                              obtain ⟨hi350, h⟩ := h
                              refine va_sld hx hb hX hbl hbA hS hi350 dL_law_1022 ?_
                              refine lv_topi (fun x351 ex351 => ?_)
                              replace h := h x351 ex351
                              refine lv_aload_n hx hb dL_law_1023 rfl (lv_at hl 0 rfl) ?_
                              refine lv_iload hx hb dL_law_1024 (lv_at hl 5 rfl) ?_
                              refine lv_iconst (v := 3) hx hb dL_law_1026 (by decide) ?_
                              refine lv_iadd hx hb dL_law_1027 ?_
                              refine lv_topi (fun x352 ex352 => ?_)
                              replace h := h x352 ex352
                              obtain ⟨hi353, h⟩ := h
                              refine va_sld hx hb hX hbl hbA hS hi353 dL_law_1028 ?_
                              refine lv_topi (fun x354 ex354 => ?_)
                              replace h := h x354 ex354
                              refine lv_aload_n hx hb dL_law_1029 rfl (lv_at hl 3 rfl) ?_
                              obtain ⟨c355, d356, hk1, hk2, h⟩ := h
                              refine x_ki (x_runSH (As := [.ref x1, .int x348, .int x351, .int x354, .ref x3]) (rest := []) C hml hR hS (mA_L_day l gg c355 d356 x1 x348 x351 x354 x3 S hst h) b_L_day q_20_10 rfl rfl ⟨Nat.le_of_ble_eq_true rfl, Nat.le_of_ble_eq_true rfl⟩ rfl hl.1 (Nat.le_of_ble_eq_true rfl) dL_law_1030 ⟨hk1, hk2⟩) hS (fun x358 S357 H locs hn hR hS => ?_)
                              replace h := hn
                              clear hn
                              have hk : (kc + c355) ≤ mc ∧ (ks + d356) ≤ ms := ⟨hk1, hk2⟩
                              refine lv_istore (lv' := [(6, .int x358), (0, .ref bb), (1, .ref x1), (2, .ref x2), (3, .ref x3), (4, .ref x4), (5, .int x5)]) hx hb dL_law_1033 hl (by decide) rfl (fun ls hl => ?_)
                              refine lv_aload_n hx hb dL_law_1035 rfl (lv_at hl 3 rfl) ?_
                              refine lv_aload_n hx hb dL_law_1036 rfl (lv_at hl 1 rfl) ?_
                              refine lv_iload hx hb dL_law_1037 (lv_at hl 6 rfl) ?_
                              refine lv_iconst (v := 1) hx hb dL_law_1039 (by decide) ?_
                              refine lv_iadd hx hb dL_law_1040 ?_
                              refine lv_topi (fun x359 ex359 => ?_)
                              replace h := h x359 ex359
                              obtain ⟨hi360, h⟩ := h
                              refine va_sld hx hb hX hbl hbA hS hi360 dL_law_1041 ?_
                              refine lv_topi (fun x361 ex361 => ?_)
                              replace h := h x361 ex361
                              refine lv_aload_n hx hb dL_law_1042 rfl (lv_at hl 1 rfl) ?_
                              refine lv_iload hx hb dL_law_1043 (lv_at hl 6 rfl) ?_
                              refine lv_iconst (v := 2) hx hb dL_law_1045 (by decide) ?_
                              refine lv_iadd hx hb dL_law_1046 ?_
                              refine lv_topi (fun x362 ex362 => ?_)
                              replace h := h x362 ex362
                              obtain ⟨hi363, h⟩ := h
                              refine va_sld hx hb hX hbl hbA hS hi363 dL_law_1047 ?_
                              refine lv_topi (fun x364 ex364 => ?_)
                              replace h := h x364 ex364
                              refine lv_aload_n hx hb dL_law_1048 rfl (lv_at hl 1 rfl) ?_
                              refine lv_iload hx hb dL_law_1049 (lv_at hl 6 rfl) ?_
                              refine lv_iconst (v := 3) hx hb dL_law_1051 (by decide) ?_
                              refine lv_iadd hx hb dL_law_1052 ?_
                              refine lv_topi (fun x365 ex365 => ?_)
                              replace h := h x365 ex365
                              obtain ⟨hi366, h⟩ := h
                              refine va_sld hx hb hX hbl hbA hS hi366 dL_law_1053 ?_
                              refine lv_topi (fun x367 ex367 => ?_)
                              replace h := h x367 ex367
                              obtain ⟨hK_x2, h⟩ := h
                              refine x_ki (x_runV (As := [.int x361, .int x364, .int x367]) (rest := []) C hml hR hS (m_X8_day l gg x2 x361 x364 x367 S357 h) b_X8_day q_26_1 (by rw [hK_x2]; decide) (s_E_9 hK_x2) rfl rfl rfl rfl ⟨Nat.le_of_ble_eq_true rfl, Nat.le_of_ble_eq_true rfl⟩ rfl hl.1 (Nat.le_of_ble_eq_true rfl) dL_law_1054 ⟨hk.1, hk.2⟩) hS (fun x369 S368 H locs hn hR hS => ?_)
                              replace h := hn
                              clear hn
                              refine lv_istore (lv' := [(7, .int x369), (6, .int x358), (0, .ref bb), (1, .ref x1), (2, .ref x2), (3, .ref x3), (4, .ref x4), (5, .int x5)]) hx hb dL_law_1057 hl (by decide) rfl (fun ls hl => ?_)
                              refine lv_aload_n hx hb dL_law_1059 rfl (lv_at hl 4 rfl) ?_
                              obtain ⟨hK_x2, h⟩ := h
                              refine x_ki (x_runV (As := []) (rest := []) C hml hR hS (m_X8_thrown l gg x2 S368 h) b_X8_thrown q_8_16 (by rw [hK_x2]; decide) (s_E_9 hK_x2) rfl rfl rfl rfl ⟨Nat.le_of_ble_eq_true rfl, Nat.le_of_ble_eq_true rfl⟩ rfl hl.1 (Nat.le_of_ble_eq_true rfl) dL_law_1060 ⟨hk.1, hk.2⟩) hS (fun x371 S370 H locs hn hR hS => ?_)
                              replace h := hn
                              clear hn
                              refine lv_iload hx hb dL_law_1063 (lv_at hl 1 rfl) ?_
                              refine lv_icmp_eq (tgt := 1070) hx hb dL_law_1065 (by decide) (fun hc372 => ?_) (fun hc372 => ?_)
                              · replace h := h.1 hc372
                                refine lv_iload hx hb dL_law_1070 (lv_at hl 1 rfl) ?_
                                refine lv_if_ne (tgt := 1087) hx hb dL_law_1072 (by decide) (fun hc373 => ?_) (fun hc373 => ?_)
                                · replace h := h.1 hc373
                                  exact tA_L_law_b1087 C hml hst hX hbl hbA hret hk (fun kc ks x1 x2 x3 x4 x5 S hk h => ih kc ks x1 x2 x3 x4 x5 S hk h) h H locs ls hR hS (lv_sub (l' := [(0, .ref bb), (1, .ref x1), (2, .ref x2), (3, .ref x3), (4, .ref x4), (5, .int x5)]) hl [2, 3, 4, 5, 6, 7] rfl)
                                · replace h := h.2 hc373
                                  refine lv_aload_n hx hb dL_law_1075 rfl (lv_at hl 5 rfl) ?_
                                  refine lv_iconst (v := 0) hx hb dL_law_1076 (by decide) ?_
                                  obtain ⟨hK_x3, h⟩ := h
                                  obtain ⟨hi374, h⟩ := h
                                  refine x_lald C hR hK_x3 hi374 dL_law_1077 ?_
                                  refine lv_topl (fun j375 ej375 => ?_)
                                  replace h := h j375 ej375
                                  refine lv_iload hx hb dL_law_1078 (lv_at hl 0 rfl) ?_
                                  refine lv_i2l hx hb dL_law_1080 rfl ?_
                                  refine lv_topl (fun j376 ej376 => ?_)
                                  replace h := h j376 ej376
                                  refine W.lcmp hx hb dL_law_1081 ?_
                                  refine lv_topi (fun x377 ex377 => ?_)
                                  replace h := h x377 ex377
                                  refine lv_if_eq (tgt := 1087) hx hb dL_law_1082 (by decide) (fun hc378 => ?_) (fun hc378 => ?_)
                                  · replace h := h.1 hc378
                                    exact tA_L_law_b1087 C hml hst hX hbl hbA hret hk (fun kc ks x1 x2 x3 x4 x5 S hk h => ih kc ks x1 x2 x3 x4 x5 S hk h) h H locs ls hR hS (lv_sub (l' := [(0, .ref bb), (1, .ref x1), (2, .ref x2), (3, .ref x3), (4, .ref x4), (5, .int x5)]) hl [2, 3, 4, 5, 6, 7] rfl)
                                  · replace h := h.2 hc378
                                    refine lv_iconst (v := 0) hx hb dL_law_1085 (by decide) ?_
                                    exact h.elim
                              · replace h := h.2 hc372
                                refine lv_iconst (v := 0) hx hb dL_law_1068 (by decide) ?_
                                exact h.elim
                            · by_cases hc379 : x106 = 12
                              · have h := h.2.2.2.2.2.2.2.2.2.2.2.2.1 hc379
                                refine lv_tableIn (off := 1046) (tgt := 1090) hx hb dL_law_44 (by rw [hc379]; decide) (by rw [hc379]; decide) (by rw [hc379]; rfl) (by decide) ?_
                                refine lv_aload_n hx hb dL_law_1090 rfl (lv_at hl 1 rfl) ?_
                                refine lv_aload_n hx hb dL_law_1091 rfl (lv_at hl 0 rfl) ?_
                                refine lv_iload hx hb dL_law_1092 (lv_at hl 5 rfl) ?_
                                refine lv_iconst (v := 1) hx hb dL_law_1094 (by decide) ?_
                                refine lv_iadd hx hb dL_law_1095 ?_
                                refine lv_topi (fun x380 ex380 => ?_)
                                replace h := h x380 ex380
                                obtain ⟨hi381, h⟩ := h
                                refine va_sld hx hb hX hbl hbA hS hi381 dL_law_1096 ?_
                                refine lv_topi (fun x382 ex382 => ?_)
                                replace h := h x382 ex382
                                refine lv_aload_n hx hb dL_law_1097 rfl (lv_at hl 3 rfl) ?_
                                obtain ⟨c383, d384, hk1, hk2, h⟩ := h
                                refine x_ki (x_runSH (As := [.ref x1, .int x382, .ref x3]) (rest := []) C hml hR hS (mA_L_inspect l gg c383 d384 x1 x382 x3 S hst h) b_L_inspect q_27_23 rfl rfl ⟨Nat.le_of_ble_eq_true rfl, Nat.le_of_ble_eq_true rfl⟩ rfl hl.1 (Nat.le_of_ble_eq_true rfl) dL_law_1098 ⟨hk1, hk2⟩) hS (fun x386 S385 H locs hn hR hS => ?_)
                                replace h := hn
                                clear hn
                                have hk : (kc + c383) ≤ mc ∧ (ks + d384) ≤ ms := ⟨hk1, hk2⟩
                                refine lv_istore (lv' := [(6, .int x386), (0, .ref bb), (1, .ref x1), (2, .ref x2), (3, .ref x3), (4, .ref x4), (5, .int x5)]) hx hb dL_law_1101 hl (by decide) rfl (fun ls hl => ?_)
                                refine lv_aload_n hx hb dL_law_1103 rfl (lv_at hl 3 rfl) ?_
                                refine lv_aload_n hx hb dL_law_1104 rfl (lv_at hl 1 rfl) ?_
                                refine lv_iload hx hb dL_law_1105 (lv_at hl 6 rfl) ?_
                                refine lv_iconst (v := 1) hx hb dL_law_1107 (by decide) ?_
                                refine lv_iadd hx hb dL_law_1108 ?_
                                refine lv_topi (fun x387 ex387 => ?_)
                                replace h := h x387 ex387
                                obtain ⟨hi388, h⟩ := h
                                refine va_sld hx hb hX hbl hbA hS hi388 dL_law_1109 ?_
                                refine lv_topi (fun x389 ex389 => ?_)
                                replace h := h x389 ex389
                                obtain ⟨hK_x2, h⟩ := h
                                refine x_ki (x_runV (As := [.int x389]) (rest := []) C hml hR hS (m_X8_inspect l gg x2 x389 S385 h) b_X8_inspect q_28_14 (by rw [hK_x2]; decide) (s_E_9 hK_x2) rfl rfl rfl rfl ⟨Nat.le_of_ble_eq_true rfl, Nat.le_of_ble_eq_true rfl⟩ rfl hl.1 (Nat.le_of_ble_eq_true rfl) dL_law_1110 ⟨hk.1, hk.2⟩) hS (fun x391 S390 H locs hn hR hS => ?_)
                                replace h := hn
                                clear hn
                                refine lv_istore (lv' := [(7, .int x391), (6, .int x386), (0, .ref bb), (1, .ref x1), (2, .ref x2), (3, .ref x3), (4, .ref x4), (5, .int x5)]) hx hb dL_law_1113 hl (by decide) rfl (fun ls hl => ?_)
                                refine lv_aload_n hx hb dL_law_1115 rfl (lv_at hl 4 rfl) ?_
                                obtain ⟨hK_x2, h⟩ := h
                                refine x_ki (x_runV (As := []) (rest := []) C hml hR hS (m_X8_thrown l gg x2 S390 h) b_X8_thrown q_8_16 (by rw [hK_x2]; decide) (s_E_9 hK_x2) rfl rfl rfl rfl ⟨Nat.le_of_ble_eq_true rfl, Nat.le_of_ble_eq_true rfl⟩ rfl hl.1 (Nat.le_of_ble_eq_true rfl) dL_law_1116 ⟨hk.1, hk.2⟩) hS (fun x393 S392 H locs hn hR hS => ?_)
                                replace h := hn
                                clear hn
                                refine lv_iload hx hb dL_law_1119 (lv_at hl 1 rfl) ?_
                                refine lv_icmp_eq (tgt := 1126) hx hb dL_law_1121 (by decide) (fun hc394 => ?_) (fun hc394 => ?_)
                                · replace h := h.1 hc394
                                  refine lv_iload hx hb dL_law_1126 (lv_at hl 1 rfl) ?_
                                  refine lv_if_ne (tgt := 1143) hx hb dL_law_1128 (by decide) (fun hc395 => ?_) (fun hc395 => ?_)
                                  · replace h := h.1 hc395
                                    exact tA_L_law_b1143 C hml hst hX hbl hbA hret hk (fun kc ks x1 x2 x3 x4 x5 S hk h => ih kc ks x1 x2 x3 x4 x5 S hk h) h H locs ls hR hS (lv_sub (l' := [(0, .ref bb), (1, .ref x1), (2, .ref x2), (3, .ref x3), (4, .ref x4), (5, .int x5)]) hl [2, 3, 4, 5, 6, 7] rfl)
                                  · replace h := h.2 hc395
                                    refine lv_aload_n hx hb dL_law_1131 rfl (lv_at hl 5 rfl) ?_
                                    refine lv_iconst (v := 0) hx hb dL_law_1132 (by decide) ?_
                                    obtain ⟨hK_x3, h⟩ := h
                                    obtain ⟨hi396, h⟩ := h
                                    refine x_lald C hR hK_x3 hi396 dL_law_1133 ?_
                                    refine lv_topl (fun j397 ej397 => ?_)
                                    replace h := h j397 ej397
                                    refine lv_iload hx hb dL_law_1134 (lv_at hl 0 rfl) ?_
                                    refine lv_i2l hx hb dL_law_1136 rfl ?_
                                    refine lv_topl (fun j398 ej398 => ?_)
                                    replace h := h j398 ej398
                                    refine W.lcmp hx hb dL_law_1137 ?_
                                    refine lv_topi (fun x399 ex399 => ?_)
                                    replace h := h x399 ex399
                                    refine lv_if_eq (tgt := 1143) hx hb dL_law_1138 (by decide) (fun hc400 => ?_) (fun hc400 => ?_)
                                    · replace h := h.1 hc400
                                      exact tA_L_law_b1143 C hml hst hX hbl hbA hret hk (fun kc ks x1 x2 x3 x4 x5 S hk h => ih kc ks x1 x2 x3 x4 x5 S hk h) h H locs ls hR hS (lv_sub (l' := [(0, .ref bb), (1, .ref x1), (2, .ref x2), (3, .ref x3), (4, .ref x4), (5, .int x5)]) hl [2, 3, 4, 5, 6, 7] rfl)
                                    · replace h := h.2 hc400
                                      refine lv_iconst (v := 0) hx hb dL_law_1141 (by decide) ?_
                                      exact h.elim
                                · replace h := h.2 hc394
                                  refine lv_iconst (v := 0) hx hb dL_law_1124 (by decide) ?_
                                  exact h.elim
                              · by_cases hc401 : x106 = 13
                                · have h := h.2.2.2.2.2.2.2.2.2.2.2.2.2.1 hc401
                                  refine lv_tableIn (off := 1102) (tgt := 1146) hx hb dL_law_44 (by rw [hc401]; decide) (by rw [hc401]; decide) (by rw [hc401]; rfl) (by decide) ?_
                                  refine lv_aload_n hx hb dL_law_1146 rfl (lv_at hl 1 rfl) ?_
                                  refine lv_aload_n hx hb dL_law_1147 rfl (lv_at hl 0 rfl) ?_
                                  refine lv_iload hx hb dL_law_1148 (lv_at hl 5 rfl) ?_
                                  refine lv_iconst (v := 1) hx hb dL_law_1150 (by decide) ?_
                                  refine lv_iadd hx hb dL_law_1151 ?_
                                  refine lv_topi (fun x402 ex402 => ?_)
                                  replace h := h x402 ex402
                                  obtain ⟨hi403, h⟩ := h
                                  refine va_sld hx hb hX hbl hbA hS hi403 dL_law_1152 ?_
                                  refine lv_topi (fun x404 ex404 => ?_)
                                  replace h := h x404 ex404
                                  refine lv_aload_n hx hb dL_law_1153 rfl (lv_at hl 0 rfl) ?_
                                  refine lv_iload hx hb dL_law_1154 (lv_at hl 5 rfl) ?_
                                  refine lv_iconst (v := 2) hx hb dL_law_1156 (by decide) ?_
                                  refine lv_iadd hx hb dL_law_1157 ?_
                                  refine lv_topi (fun x405 ex405 => ?_)
                                  replace h := h x405 ex405
                                  obtain ⟨hi406, h⟩ := h
                                  refine va_sld hx hb hX hbl hbA hS hi406 dL_law_1158 ?_
                                  refine lv_topi (fun x407 ex407 => ?_)
                                  replace h := h x407 ex407
                                  refine lv_aload_n hx hb dL_law_1159 rfl (lv_at hl 3 rfl) ?_
                                  obtain ⟨c408, d409, hk1, hk2, h⟩ := h
                                  refine x_ki (x_runSH (As := [.ref x1, .int x404, .int x407, .ref x3]) (rest := []) C hml hR hS (mA_L_sell l gg c408 d409 x1 x404 x407 x3 S hst h) b_L_sell q_28_18 rfl rfl ⟨Nat.le_of_ble_eq_true rfl, Nat.le_of_ble_eq_true rfl⟩ rfl hl.1 (Nat.le_of_ble_eq_true rfl) dL_law_1160 ⟨hk1, hk2⟩) hS (fun x411 S410 H locs hn hR hS => ?_)
                                  replace h := hn
                                  clear hn
                                  have hk : (kc + c408) ≤ mc ∧ (ks + d409) ≤ ms := ⟨hk1, hk2⟩
                                  refine lv_istore (lv' := [(6, .int x411), (0, .ref bb), (1, .ref x1), (2, .ref x2), (3, .ref x3), (4, .ref x4), (5, .int x5)]) hx hb dL_law_1163 hl (by decide) rfl (fun ls hl => ?_)
                                  refine lv_aload_n hx hb dL_law_1165 rfl (lv_at hl 3 rfl) ?_
                                  refine lv_aload_n hx hb dL_law_1166 rfl (lv_at hl 1 rfl) ?_
                                  refine lv_iload hx hb dL_law_1167 (lv_at hl 6 rfl) ?_
                                  refine lv_iconst (v := 1) hx hb dL_law_1169 (by decide) ?_
                                  refine lv_iadd hx hb dL_law_1170 ?_
                                  refine lv_topi (fun x412 ex412 => ?_)
                                  replace h := h x412 ex412
                                  obtain ⟨hi413, h⟩ := h
                                  refine va_sld hx hb hX hbl hbA hS hi413 dL_law_1171 ?_
                                  refine lv_topi (fun x414 ex414 => ?_)
                                  replace h := h x414 ex414
                                  refine lv_aload_n hx hb dL_law_1172 rfl (lv_at hl 1 rfl) ?_
                                  refine lv_iload hx hb dL_law_1173 (lv_at hl 6 rfl) ?_
                                  refine lv_iconst (v := 2) hx hb dL_law_1175 (by decide) ?_
                                  refine lv_iadd hx hb dL_law_1176 ?_
                                  refine lv_topi (fun x415 ex415 => ?_)
                                  replace h := h x415 ex415
                                  obtain ⟨hi416, h⟩ := h
                                  refine va_sld hx hb hX hbl hbA hS hi416 dL_law_1177 ?_
                                  refine lv_topi (fun x417 ex417 => ?_)
                                  replace h := h x417 ex417
                                  obtain ⟨hK_x2, h⟩ := h
                                  refine x_ki (x_runV (As := [.int x414, .int x417]) (rest := []) C hml hR hS (m_X8_sell l gg x2 x414 x417 S410 h) b_X8_sell q_29_2 (by rw [hK_x2]; decide) (s_E_9 hK_x2) rfl rfl rfl rfl ⟨Nat.le_of_ble_eq_true rfl, Nat.le_of_ble_eq_true rfl⟩ rfl hl.1 (Nat.le_of_ble_eq_true rfl) dL_law_1178 ⟨hk.1, hk.2⟩) hS (fun x419 S418 H locs hn hR hS => ?_)
                                  replace h := hn
                                  clear hn
                                  refine lv_istore (lv' := [(7, .int x419), (6, .int x411), (0, .ref bb), (1, .ref x1), (2, .ref x2), (3, .ref x3), (4, .ref x4), (5, .int x5)]) hx hb dL_law_1181 hl (by decide) rfl (fun ls hl => ?_)
                                  refine lv_aload_n hx hb dL_law_1183 rfl (lv_at hl 4 rfl) ?_
                                  obtain ⟨hK_x2, h⟩ := h
                                  refine x_ki (x_runV (As := []) (rest := []) C hml hR hS (m_X8_thrown l gg x2 S418 h) b_X8_thrown q_8_16 (by rw [hK_x2]; decide) (s_E_9 hK_x2) rfl rfl rfl rfl ⟨Nat.le_of_ble_eq_true rfl, Nat.le_of_ble_eq_true rfl⟩ rfl hl.1 (Nat.le_of_ble_eq_true rfl) dL_law_1184 ⟨hk.1, hk.2⟩) hS (fun x421 S420 H locs hn hR hS => ?_)
                                  replace h := hn
                                  clear hn
                                  refine lv_iload hx hb dL_law_1187 (lv_at hl 1 rfl) ?_
                                  refine lv_icmp_eq (tgt := 1194) hx hb dL_law_1189 (by decide) (fun hc422 => ?_) (fun hc422 => ?_)
                                  · replace h := h.1 hc422
                                    refine lv_iload hx hb dL_law_1194 (lv_at hl 1 rfl) ?_
                                    refine lv_if_ne (tgt := 1211) hx hb dL_law_1196 (by decide) (fun hc423 => ?_) (fun hc423 => ?_)
                                    · replace h := h.1 hc423
                                      exact tA_L_law_b1211 C hml hst hX hbl hbA hret hk (fun kc ks x1 x2 x3 x4 x5 S hk h => ih kc ks x1 x2 x3 x4 x5 S hk h) h H locs ls hR hS (lv_sub (l' := [(0, .ref bb), (1, .ref x1), (2, .ref x2), (3, .ref x3), (4, .ref x4), (5, .int x5)]) hl [2, 3, 4, 5, 6, 7] rfl)
                                    · replace h := h.2 hc423
                                      refine lv_aload_n hx hb dL_law_1199 rfl (lv_at hl 5 rfl) ?_
                                      refine lv_iconst (v := 0) hx hb dL_law_1200 (by decide) ?_
                                      obtain ⟨hK_x3, h⟩ := h
                                      obtain ⟨hi424, h⟩ := h
                                      refine x_lald C hR hK_x3 hi424 dL_law_1201 ?_
                                      refine lv_topl (fun j425 ej425 => ?_)
                                      replace h := h j425 ej425
                                      refine lv_iload hx hb dL_law_1202 (lv_at hl 0 rfl) ?_
                                      refine lv_i2l hx hb dL_law_1204 rfl ?_
                                      refine lv_topl (fun j426 ej426 => ?_)
                                      replace h := h j426 ej426
                                      refine W.lcmp hx hb dL_law_1205 ?_
                                      refine lv_topi (fun x427 ex427 => ?_)
                                      replace h := h x427 ex427
                                      refine lv_if_eq (tgt := 1211) hx hb dL_law_1206 (by decide) (fun hc428 => ?_) (fun hc428 => ?_)
                                      · replace h := h.1 hc428
                                        exact tA_L_law_b1211 C hml hst hX hbl hbA hret hk (fun kc ks x1 x2 x3 x4 x5 S hk h => ih kc ks x1 x2 x3 x4 x5 S hk h) h H locs ls hR hS (lv_sub (l' := [(0, .ref bb), (1, .ref x1), (2, .ref x2), (3, .ref x3), (4, .ref x4), (5, .int x5)]) hl [2, 3, 4, 5, 6, 7] rfl)
                                      · replace h := h.2 hc428
                                        refine lv_iconst (v := 0) hx hb dL_law_1209 (by decide) ?_
                                        exact h.elim
                                  · replace h := h.2 hc422
                                    refine lv_iconst (v := 0) hx hb dL_law_1192 (by decide) ?_
                                    exact h.elim
                                · by_cases hc429 : x106 = 14
                                  · have h := h.2.2.2.2.2.2.2.2.2.2.2.2.2.2.1 hc429
                                    refine lv_tableIn (off := 1170) (tgt := 1214) hx hb dL_law_44 (by rw [hc429]; decide) (by rw [hc429]; decide) (by rw [hc429]; rfl) (by decide) ?_
                                    refine lv_aload_n hx hb dL_law_1214 rfl (lv_at hl 1 rfl) ?_
                                    refine lv_aload_n hx hb dL_law_1215 rfl (lv_at hl 0 rfl) ?_
                                    refine lv_iload hx hb dL_law_1216 (lv_at hl 5 rfl) ?_
                                    refine lv_iconst (v := 1) hx hb dL_law_1218 (by decide) ?_
                                    refine lv_iadd hx hb dL_law_1219 ?_
                                    refine lv_topi (fun x430 ex430 => ?_)
                                    replace h := h x430 ex430
                                    obtain ⟨hi431, h⟩ := h
                                    refine va_sld hx hb hX hbl hbA hS hi431 dL_law_1220 ?_
                                    refine lv_topi (fun x432 ex432 => ?_)
                                    replace h := h x432 ex432
                                    refine lv_aload_n hx hb dL_law_1221 rfl (lv_at hl 3 rfl) ?_
                                    obtain ⟨c433, d434, hk1, hk2, h⟩ := h
                                    refine x_ki (x_runSH (As := [.ref x1, .int x432, .ref x3]) (rest := []) C hml hR hS (mA_L_vote l gg c433 d434 x1 x432 x3 S hst h) b_L_vote q_29_6 rfl rfl ⟨Nat.le_of_ble_eq_true rfl, Nat.le_of_ble_eq_true rfl⟩ rfl hl.1 (Nat.le_of_ble_eq_true rfl) dL_law_1222 ⟨hk1, hk2⟩) hS (fun x436 S435 H locs hn hR hS => ?_)
                                    replace h := hn
                                    clear hn
                                    have hk : (kc + c433) ≤ mc ∧ (ks + d434) ≤ ms := ⟨hk1, hk2⟩
                                    refine lv_istore (lv' := [(6, .int x436), (0, .ref bb), (1, .ref x1), (2, .ref x2), (3, .ref x3), (4, .ref x4), (5, .int x5)]) hx hb dL_law_1225 hl (by decide) rfl (fun ls hl => ?_)
                                    refine lv_aload_n hx hb dL_law_1227 rfl (lv_at hl 3 rfl) ?_
                                    refine lv_aload_n hx hb dL_law_1228 rfl (lv_at hl 1 rfl) ?_
                                    refine lv_iload hx hb dL_law_1229 (lv_at hl 6 rfl) ?_
                                    refine lv_iconst (v := 1) hx hb dL_law_1231 (by decide) ?_
                                    refine lv_iadd hx hb dL_law_1232 ?_
                                    refine lv_topi (fun x437 ex437 => ?_)
                                    replace h := h x437 ex437
                                    obtain ⟨hi438, h⟩ := h
                                    refine va_sld hx hb hX hbl hbA hS hi438 dL_law_1233 ?_
                                    refine lv_topi (fun x439 ex439 => ?_)
                                    replace h := h x439 ex439
                                    obtain ⟨hK_x2, h⟩ := h
                                    refine x_ki (x_runV (As := [.int x439]) (rest := []) C hml hR hS (m_X8_vote l gg x2 x439 S435 h) b_X8_vote q_30_11 (by rw [hK_x2]; decide) (s_E_9 hK_x2) rfl rfl rfl rfl ⟨Nat.le_of_ble_eq_true rfl, Nat.le_of_ble_eq_true rfl⟩ rfl hl.1 (Nat.le_of_ble_eq_true rfl) dL_law_1234 ⟨hk.1, hk.2⟩) hS (fun x441 S440 H locs hn hR hS => ?_)
                                    replace h := hn
                                    clear hn
                                    refine lv_istore (lv' := [(7, .int x441), (6, .int x436), (0, .ref bb), (1, .ref x1), (2, .ref x2), (3, .ref x3), (4, .ref x4), (5, .int x5)]) hx hb dL_law_1237 hl (by decide) rfl (fun ls hl => ?_)
                                    refine lv_aload_n hx hb dL_law_1239 rfl (lv_at hl 4 rfl) ?_
                                    obtain ⟨hK_x2, h⟩ := h
                                    refine x_ki (x_runV (As := []) (rest := []) C hml hR hS (m_X8_thrown l gg x2 S440 h) b_X8_thrown q_8_16 (by rw [hK_x2]; decide) (s_E_9 hK_x2) rfl rfl rfl rfl ⟨Nat.le_of_ble_eq_true rfl, Nat.le_of_ble_eq_true rfl⟩ rfl hl.1 (Nat.le_of_ble_eq_true rfl) dL_law_1240 ⟨hk.1, hk.2⟩) hS (fun x443 S442 H locs hn hR hS => ?_)
                                    replace h := hn
                                    clear hn
                                    refine lv_iload hx hb dL_law_1243 (lv_at hl 1 rfl) ?_
                                    refine lv_icmp_eq (tgt := 1250) hx hb dL_law_1245 (by decide) (fun hc444 => ?_) (fun hc444 => ?_)
                                    · replace h := h.1 hc444
                                      refine lv_iload hx hb dL_law_1250 (lv_at hl 1 rfl) ?_
                                      refine lv_if_ne (tgt := 1267) hx hb dL_law_1252 (by decide) (fun hc445 => ?_) (fun hc445 => ?_)
                                      · replace h := h.1 hc445
                                        exact tA_L_law_b1267 C hml hst hX hbl hbA hret hk (fun kc ks x1 x2 x3 x4 x5 S hk h => ih kc ks x1 x2 x3 x4 x5 S hk h) h H locs ls hR hS (lv_sub (l' := [(0, .ref bb), (1, .ref x1), (2, .ref x2), (3, .ref x3), (4, .ref x4), (5, .int x5)]) hl [2, 3, 4, 5, 6, 7] rfl)
                                      · replace h := h.2 hc445
                                        refine lv_aload_n hx hb dL_law_1255 rfl (lv_at hl 5 rfl) ?_
                                        refine lv_iconst (v := 0) hx hb dL_law_1256 (by decide) ?_
                                        obtain ⟨hK_x3, h⟩ := h
                                        obtain ⟨hi446, h⟩ := h
                                        refine x_lald C hR hK_x3 hi446 dL_law_1257 ?_
                                        refine lv_topl (fun j447 ej447 => ?_)
                                        replace h := h j447 ej447
                                        refine lv_iload hx hb dL_law_1258 (lv_at hl 0 rfl) ?_
                                        refine lv_i2l hx hb dL_law_1260 rfl ?_
                                        refine lv_topl (fun j448 ej448 => ?_)
                                        replace h := h j448 ej448
                                        refine W.lcmp hx hb dL_law_1261 ?_
                                        refine lv_topi (fun x449 ex449 => ?_)
                                        replace h := h x449 ex449
                                        refine lv_if_eq (tgt := 1267) hx hb dL_law_1262 (by decide) (fun hc450 => ?_) (fun hc450 => ?_)
                                        · replace h := h.1 hc450
                                          exact tA_L_law_b1267 C hml hst hX hbl hbA hret hk (fun kc ks x1 x2 x3 x4 x5 S hk h => ih kc ks x1 x2 x3 x4 x5 S hk h) h H locs ls hR hS (lv_sub (l' := [(0, .ref bb), (1, .ref x1), (2, .ref x2), (3, .ref x3), (4, .ref x4), (5, .int x5)]) hl [2, 3, 4, 5, 6, 7] rfl)
                                        · replace h := h.2 hc450
                                          refine lv_iconst (v := 0) hx hb dL_law_1265 (by decide) ?_
                                          exact h.elim
                                    · replace h := h.2 hc444
                                      refine lv_iconst (v := 0) hx hb dL_law_1248 (by decide) ?_
                                      exact h.elim
                                  · by_cases hc451 : x106 = 15
                                    · have h := h.2.2.2.2.2.2.2.2.2.2.2.2.2.2.2.1 hc451
                                      refine lv_tableIn (off := 1226) (tgt := 1270) hx hb dL_law_44 (by rw [hc451]; decide) (by rw [hc451]; decide) (by rw [hc451]; rfl) (by decide) ?_
                                      refine lv_aload_n hx hb dL_law_1270 rfl (lv_at hl 1 rfl) ?_
                                      refine lv_aload_n hx hb dL_law_1271 rfl (lv_at hl 0 rfl) ?_
                                      refine lv_iload hx hb dL_law_1272 (lv_at hl 5 rfl) ?_
                                      refine lv_iconst (v := 1) hx hb dL_law_1274 (by decide) ?_
                                      refine lv_iadd hx hb dL_law_1275 ?_
                                      refine lv_topi (fun x452 ex452 => ?_)
                                      replace h := h x452 ex452
                                      obtain ⟨hi453, h⟩ := h
                                      refine va_sld hx hb hX hbl hbA hS hi453 dL_law_1276 ?_
                                      refine lv_topi (fun x454 ex454 => ?_)
                                      replace h := h x454 ex454
                                      refine lv_aload_n hx hb dL_law_1277 rfl (lv_at hl 0 rfl) ?_
                                      refine lv_iload hx hb dL_law_1278 (lv_at hl 5 rfl) ?_
                                      refine lv_iconst (v := 2) hx hb dL_law_1280 (by decide) ?_
                                      refine lv_iadd hx hb dL_law_1281 ?_
                                      refine lv_topi (fun x455 ex455 => ?_)
                                      replace h := h x455 ex455
                                      obtain ⟨hi456, h⟩ := h
                                      refine va_sld hx hb hX hbl hbA hS hi456 dL_law_1282 ?_
                                      refine lv_topi (fun x457 ex457 => ?_)
                                      replace h := h x457 ex457
                                      refine lv_aload_n hx hb dL_law_1283 rfl (lv_at hl 3 rfl) ?_
                                      obtain ⟨c458, d459, hk1, hk2, h⟩ := h
                                      refine x_ki (x_runSH (As := [.ref x1, .int x454, .int x457, .ref x3]) (rest := []) C hml hR hS (mA_L_ofField l gg c458 d459 x1 x454 x457 x3 S hst h) b_L_ofField q_30_23 rfl rfl ⟨Nat.le_of_ble_eq_true rfl, Nat.le_of_ble_eq_true rfl⟩ rfl hl.1 (Nat.le_of_ble_eq_true rfl) dL_law_1284 ⟨hk1, hk2⟩) hS (fun x461 S460 H locs hn hR hS => ?_)
                                      replace h := hn
                                      clear hn
                                      have hk : (kc + c458) ≤ mc ∧ (ks + d459) ≤ ms := ⟨hk1, hk2⟩
                                      refine lv_istore (lv' := [(6, .int x461), (0, .ref bb), (1, .ref x1), (2, .ref x2), (3, .ref x3), (4, .ref x4), (5, .int x5)]) hx hb dL_law_1287 hl (by decide) rfl (fun ls hl => ?_)
                                      refine lv_aload_n hx hb dL_law_1289 rfl (lv_at hl 3 rfl) ?_
                                      refine lv_aload_n hx hb dL_law_1290 rfl (lv_at hl 1 rfl) ?_
                                      refine lv_iload hx hb dL_law_1291 (lv_at hl 6 rfl) ?_
                                      refine lv_iconst (v := 1) hx hb dL_law_1293 (by decide) ?_
                                      refine lv_iadd hx hb dL_law_1294 ?_
                                      refine lv_topi (fun x462 ex462 => ?_)
                                      replace h := h x462 ex462
                                      obtain ⟨hi463, h⟩ := h
                                      refine va_sld hx hb hX hbl hbA hS hi463 dL_law_1295 ?_
                                      refine lv_topi (fun x464 ex464 => ?_)
                                      replace h := h x464 ex464
                                      refine lv_aload_n hx hb dL_law_1296 rfl (lv_at hl 1 rfl) ?_
                                      refine lv_iload hx hb dL_law_1297 (lv_at hl 6 rfl) ?_
                                      refine lv_iconst (v := 2) hx hb dL_law_1299 (by decide) ?_
                                      refine lv_iadd hx hb dL_law_1300 ?_
                                      refine lv_topi (fun x465 ex465 => ?_)
                                      replace h := h x465 ex465
                                      obtain ⟨hi466, h⟩ := h
                                      refine va_sld hx hb hX hbl hbA hS hi466 dL_law_1301 ?_
                                      refine lv_topi (fun x467 ex467 => ?_)
                                      replace h := h x467 ex467
                                      obtain ⟨hK_x2, h⟩ := h
                                      refine x_ki (x_runV (As := [.int x464, .int x467]) (rest := []) C hml hR hS (m_X8_ofField l gg x2 x464 x467 S460 h) b_X8_ofField q_31_16 (by rw [hK_x2]; decide) (s_E_9 hK_x2) rfl rfl rfl rfl ⟨Nat.le_of_ble_eq_true rfl, Nat.le_of_ble_eq_true rfl⟩ rfl hl.1 (Nat.le_of_ble_eq_true rfl) dL_law_1302 ⟨hk.1, hk.2⟩) hS (fun x469 S468 H locs hn hR hS => ?_)
                                      replace h := hn
                                      clear hn
                                      refine lv_istore (lv' := [(7, .int x469), (6, .int x461), (0, .ref bb), (1, .ref x1), (2, .ref x2), (3, .ref x3), (4, .ref x4), (5, .int x5)]) hx hb dL_law_1305 hl (by decide) rfl (fun ls hl => ?_)
                                      refine lv_aload_n hx hb dL_law_1307 rfl (lv_at hl 4 rfl) ?_
                                      obtain ⟨hK_x2, h⟩ := h
                                      refine x_ki (x_runV (As := []) (rest := []) C hml hR hS (m_X8_thrown l gg x2 S468 h) b_X8_thrown q_8_16 (by rw [hK_x2]; decide) (s_E_9 hK_x2) rfl rfl rfl rfl ⟨Nat.le_of_ble_eq_true rfl, Nat.le_of_ble_eq_true rfl⟩ rfl hl.1 (Nat.le_of_ble_eq_true rfl) dL_law_1308 ⟨hk.1, hk.2⟩) hS (fun x471 S470 H locs hn hR hS => ?_)
                                      replace h := hn
                                      clear hn
                                      refine lv_iload hx hb dL_law_1311 (lv_at hl 1 rfl) ?_
                                      refine lv_icmp_eq (tgt := 1318) hx hb dL_law_1313 (by decide) (fun hc472 => ?_) (fun hc472 => ?_)
                                      · replace h := h.1 hc472
                                        refine lv_iload hx hb dL_law_1318 (lv_at hl 1 rfl) ?_
                                        refine lv_if_ne (tgt := 1335) hx hb dL_law_1320 (by decide) (fun hc473 => ?_) (fun hc473 => ?_)
                                        · replace h := h.1 hc473
                                          exact tA_L_law_b1335 C hml hst hX hbl hbA hret hk (fun kc ks x1 x2 x3 x4 x5 S hk h => ih kc ks x1 x2 x3 x4 x5 S hk h) h H locs ls hR hS (lv_sub (l' := [(0, .ref bb), (1, .ref x1), (2, .ref x2), (3, .ref x3), (4, .ref x4), (5, .int x5)]) hl [2, 3, 4, 5, 6, 7] rfl)
                                        · replace h := h.2 hc473
                                          refine lv_aload_n hx hb dL_law_1323 rfl (lv_at hl 5 rfl) ?_
                                          refine lv_iconst (v := 0) hx hb dL_law_1324 (by decide) ?_
                                          obtain ⟨hK_x3, h⟩ := h
                                          obtain ⟨hi474, h⟩ := h
                                          refine x_lald C hR hK_x3 hi474 dL_law_1325 ?_
                                          refine lv_topl (fun j475 ej475 => ?_)
                                          replace h := h j475 ej475
                                          refine lv_iload hx hb dL_law_1326 (lv_at hl 0 rfl) ?_
                                          refine lv_i2l hx hb dL_law_1328 rfl ?_
                                          refine lv_topl (fun j476 ej476 => ?_)
                                          replace h := h j476 ej476
                                          refine W.lcmp hx hb dL_law_1329 ?_
                                          refine lv_topi (fun x477 ex477 => ?_)
                                          replace h := h x477 ex477
                                          refine lv_if_eq (tgt := 1335) hx hb dL_law_1330 (by decide) (fun hc478 => ?_) (fun hc478 => ?_)
                                          · replace h := h.1 hc478
                                            exact tA_L_law_b1335 C hml hst hX hbl hbA hret hk (fun kc ks x1 x2 x3 x4 x5 S hk h => ih kc ks x1 x2 x3 x4 x5 S hk h) h H locs ls hR hS (lv_sub (l' := [(0, .ref bb), (1, .ref x1), (2, .ref x2), (3, .ref x3), (4, .ref x4), (5, .int x5)]) hl [2, 3, 4, 5, 6, 7] rfl)
                                          · replace h := h.2 hc478
                                            refine lv_iconst (v := 0) hx hb dL_law_1333 (by decide) ?_
                                            exact h.elim
                                      · replace h := h.2 hc472
                                        refine lv_iconst (v := 0) hx hb dL_law_1316 (by decide) ?_
                                        exact h.elim
                                    · by_cases hc479 : x106 = 16
                                      · have h := h.2.2.2.2.2.2.2.2.2.2.2.2.2.2.2.2.1 hc479
                                        refine lv_tableIn (off := 1294) (tgt := 1338) hx hb dL_law_44 (by rw [hc479]; decide) (by rw [hc479]; decide) (by rw [hc479]; rfl) (by decide) ?_
                                        refine lv_aload_n hx hb dL_law_1338 rfl (lv_at hl 1 rfl) ?_
                                        refine lv_aload_n hx hb dL_law_1339 rfl (lv_at hl 0 rfl) ?_
                                        refine lv_iload hx hb dL_law_1340 (lv_at hl 5 rfl) ?_
                                        refine lv_iconst (v := 1) hx hb dL_law_1342 (by decide) ?_
                                        refine lv_iadd hx hb dL_law_1343 ?_
                                        refine lv_topi (fun x480 ex480 => ?_)
                                        replace h := h x480 ex480
                                        obtain ⟨hi481, h⟩ := h
                                        refine va_sld hx hb hX hbl hbA hS hi481 dL_law_1344 ?_
                                        refine lv_topi (fun x482 ex482 => ?_)
                                        replace h := h x482 ex482
                                        refine lv_aload_n hx hb dL_law_1345 rfl (lv_at hl 0 rfl) ?_
                                        refine lv_iload hx hb dL_law_1346 (lv_at hl 5 rfl) ?_
                                        refine lv_iconst (v := 2) hx hb dL_law_1348 (by decide) ?_
                                        refine lv_iadd hx hb dL_law_1349 ?_
                                        refine lv_topi (fun x483 ex483 => ?_)
                                        replace h := h x483 ex483
                                        obtain ⟨hi484, h⟩ := h
                                        refine va_sld hx hb hX hbl hbA hS hi484 dL_law_1350 ?_
                                        refine lv_topi (fun x485 ex485 => ?_)
                                        replace h := h x485 ex485
                                        refine lv_aload_n hx hb dL_law_1351 rfl (lv_at hl 3 rfl) ?_
                                        obtain ⟨c486, d487, hk1, hk2, h⟩ := h
                                        refine x_ki (x_runSH (As := [.ref x1, .int x482, .int x485, .ref x3]) (rest := []) C hml hR hS (mA_L_ofOwner l gg c486 d487 x1 x482 x485 x3 S hst h) b_L_ofOwner q_32_0 rfl rfl ⟨Nat.le_of_ble_eq_true rfl, Nat.le_of_ble_eq_true rfl⟩ rfl hl.1 (Nat.le_of_ble_eq_true rfl) dL_law_1352 ⟨hk1, hk2⟩) hS (fun x489 S488 H locs hn hR hS => ?_)
                                        replace h := hn
                                        clear hn
                                        have hk : (kc + c486) ≤ mc ∧ (ks + d487) ≤ ms := ⟨hk1, hk2⟩
                                        refine lv_istore (lv' := [(6, .int x489), (0, .ref bb), (1, .ref x1), (2, .ref x2), (3, .ref x3), (4, .ref x4), (5, .int x5)]) hx hb dL_law_1355 hl (by decide) rfl (fun ls hl => ?_)
                                        refine lv_aload_n hx hb dL_law_1357 rfl (lv_at hl 3 rfl) ?_
                                        refine lv_aload_n hx hb dL_law_1358 rfl (lv_at hl 1 rfl) ?_
                                        refine lv_iload hx hb dL_law_1359 (lv_at hl 6 rfl) ?_
                                        refine lv_iconst (v := 1) hx hb dL_law_1361 (by decide) ?_
                                        refine lv_iadd hx hb dL_law_1362 ?_
                                        refine lv_topi (fun x490 ex490 => ?_)
                                        replace h := h x490 ex490
                                        obtain ⟨hi491, h⟩ := h
                                        refine va_sld hx hb hX hbl hbA hS hi491 dL_law_1363 ?_
                                        refine lv_topi (fun x492 ex492 => ?_)
                                        replace h := h x492 ex492
                                        refine lv_aload_n hx hb dL_law_1364 rfl (lv_at hl 1 rfl) ?_
                                        refine lv_iload hx hb dL_law_1365 (lv_at hl 6 rfl) ?_
                                        refine lv_iconst (v := 2) hx hb dL_law_1367 (by decide) ?_
                                        refine lv_iadd hx hb dL_law_1368 ?_
                                        refine lv_topi (fun x493 ex493 => ?_)
                                        replace h := h x493 ex493
                                        obtain ⟨hi494, h⟩ := h
                                        refine va_sld hx hb hX hbl hbA hS hi494 dL_law_1369 ?_
                                        refine lv_topi (fun x495 ex495 => ?_)
                                        replace h := h x495 ex495
                                        obtain ⟨hK_x2, h⟩ := h
                                        obtain ⟨c496, d497, hk1, hk2, h⟩ := h
                                        refine x_ki (x_runV (As := [.int x492, .int x495]) (rest := []) C hml hR hS (mA_X8_ofOwner l gg c496 d497 x2 x492 x495 S488 h) b_X8_ofOwner q_32_11 (by rw [hK_x2]; decide) (s_E_9 hK_x2) rfl rfl rfl rfl ⟨Nat.le_of_ble_eq_true rfl, Nat.le_of_ble_eq_true rfl⟩ rfl hl.1 (Nat.le_of_ble_eq_true rfl) dL_law_1370 ⟨hk1, hk2⟩) hS (fun x499 S498 H locs hn hR hS => ?_)
                                        replace h := hn
                                        clear hn
                                        have hk : ((kc + c486) + c496) ≤ mc ∧ ((ks + d487) + d497) ≤ ms := ⟨hk1, hk2⟩
                                        refine lv_istore (lv' := [(7, .int x499), (6, .int x489), (0, .ref bb), (1, .ref x1), (2, .ref x2), (3, .ref x3), (4, .ref x4), (5, .int x5)]) hx hb dL_law_1373 hl (by decide) rfl (fun ls hl => ?_)
                                        refine lv_aload_n hx hb dL_law_1375 rfl (lv_at hl 4 rfl) ?_
                                        obtain ⟨hK_x2, h⟩ := h
                                        refine x_ki (x_runV (As := []) (rest := []) C hml hR hS (m_X8_thrown l gg x2 S498 h) b_X8_thrown q_8_16 (by rw [hK_x2]; decide) (s_E_9 hK_x2) rfl rfl rfl rfl ⟨Nat.le_of_ble_eq_true rfl, Nat.le_of_ble_eq_true rfl⟩ rfl hl.1 (Nat.le_of_ble_eq_true rfl) dL_law_1376 ⟨hk.1, hk.2⟩) hS (fun x501 S500 H locs hn hR hS => ?_)
                                        replace h := hn
                                        clear hn
                                        refine lv_iload hx hb dL_law_1379 (lv_at hl 1 rfl) ?_
                                        refine lv_icmp_eq (tgt := 1386) hx hb dL_law_1381 (by decide) (fun hc502 => ?_) (fun hc502 => ?_)
                                        · replace h := h.1 hc502
                                          refine lv_iload hx hb dL_law_1386 (lv_at hl 1 rfl) ?_
                                          refine lv_if_ne (tgt := 1403) hx hb dL_law_1388 (by decide) (fun hc503 => ?_) (fun hc503 => ?_)
                                          · replace h := h.1 hc503
                                            exact tA_L_law_b1403 C hml hst hX hbl hbA hret hk (fun kc ks x1 x2 x3 x4 x5 S hk h => ih kc ks x1 x2 x3 x4 x5 S hk h) h H locs ls hR hS (lv_sub (l' := [(0, .ref bb), (1, .ref x1), (2, .ref x2), (3, .ref x3), (4, .ref x4), (5, .int x5)]) hl [2, 3, 4, 5, 6, 7] rfl)
                                          · replace h := h.2 hc503
                                            refine lv_aload_n hx hb dL_law_1391 rfl (lv_at hl 5 rfl) ?_
                                            refine lv_iconst (v := 0) hx hb dL_law_1392 (by decide) ?_
                                            obtain ⟨hK_x3, h⟩ := h
                                            obtain ⟨hi504, h⟩ := h
                                            refine x_lald C hR hK_x3 hi504 dL_law_1393 ?_
                                            refine lv_topl (fun j505 ej505 => ?_)
                                            replace h := h j505 ej505
                                            refine lv_iload hx hb dL_law_1394 (lv_at hl 0 rfl) ?_
                                            refine lv_i2l hx hb dL_law_1396 rfl ?_
                                            refine lv_topl (fun j506 ej506 => ?_)
                                            replace h := h j506 ej506
                                            refine W.lcmp hx hb dL_law_1397 ?_
                                            refine lv_topi (fun x507 ex507 => ?_)
                                            replace h := h x507 ex507
                                            refine lv_if_eq (tgt := 1403) hx hb dL_law_1398 (by decide) (fun hc508 => ?_) (fun hc508 => ?_)
                                            · replace h := h.1 hc508
                                              exact tA_L_law_b1403 C hml hst hX hbl hbA hret hk (fun kc ks x1 x2 x3 x4 x5 S hk h => ih kc ks x1 x2 x3 x4 x5 S hk h) h H locs ls hR hS (lv_sub (l' := [(0, .ref bb), (1, .ref x1), (2, .ref x2), (3, .ref x3), (4, .ref x4), (5, .int x5)]) hl [2, 3, 4, 5, 6, 7] rfl)
                                            · replace h := h.2 hc508
                                              refine lv_iconst (v := 0) hx hb dL_law_1401 (by decide) ?_
                                              exact h.elim
                                        · replace h := h.2 hc502
                                          refine lv_iconst (v := 0) hx hb dL_law_1384 (by decide) ?_
                                          exact h.elim
                                      · by_cases hc509 : x106 = 17
                                        · have h := h.2.2.2.2.2.2.2.2.2.2.2.2.2.2.2.2.2.1 hc509
                                          refine lv_tableIn (off := 1362) (tgt := 1406) hx hb dL_law_44 (by rw [hc509]; decide) (by rw [hc509]; decide) (by rw [hc509]; rfl) (by decide) ?_
                                          refine lv_aload_n hx hb dL_law_1406 rfl (lv_at hl 1 rfl) ?_
                                          refine lv_aload_n hx hb dL_law_1407 rfl (lv_at hl 0 rfl) ?_
                                          refine lv_iload hx hb dL_law_1408 (lv_at hl 5 rfl) ?_
                                          refine lv_iconst (v := 1) hx hb dL_law_1410 (by decide) ?_
                                          refine lv_iadd hx hb dL_law_1411 ?_
                                          refine lv_topi (fun x510 ex510 => ?_)
                                          replace h := h x510 ex510
                                          obtain ⟨hi511, h⟩ := h
                                          refine va_sld hx hb hX hbl hbA hS hi511 dL_law_1412 ?_
                                          refine lv_topi (fun x512 ex512 => ?_)
                                          replace h := h x512 ex512
                                          refine lv_aload_n hx hb dL_law_1413 rfl (lv_at hl 0 rfl) ?_
                                          refine lv_iload hx hb dL_law_1414 (lv_at hl 5 rfl) ?_
                                          refine lv_iconst (v := 2) hx hb dL_law_1416 (by decide) ?_
                                          refine lv_iadd hx hb dL_law_1417 ?_
                                          refine lv_topi (fun x513 ex513 => ?_)
                                          replace h := h x513 ex513
                                          obtain ⟨hi514, h⟩ := h
                                          refine va_sld hx hb hX hbl hbA hS hi514 dL_law_1418 ?_
                                          refine lv_topi (fun x515 ex515 => ?_)
                                          replace h := h x515 ex515
                                          refine lv_aload_n hx hb dL_law_1419 rfl (lv_at hl 3 rfl) ?_
                                          obtain ⟨c516, d517, hk1, hk2, h⟩ := h
                                          refine x_ki (x_runSH (As := [.ref x1, .int x512, .int x515, .ref x3]) (rest := []) C hml hR hS (mA_L_ofSociety l gg c516 d517 x1 x512 x515 x3 S hst h) b_L_ofSociety q_32_19 rfl rfl ⟨Nat.le_of_ble_eq_true rfl, Nat.le_of_ble_eq_true rfl⟩ rfl hl.1 (Nat.le_of_ble_eq_true rfl) dL_law_1420 ⟨hk1, hk2⟩) hS (fun x519 S518 H locs hn hR hS => ?_)
                                          replace h := hn
                                          clear hn
                                          have hk : (kc + c516) ≤ mc ∧ (ks + d517) ≤ ms := ⟨hk1, hk2⟩
                                          refine lv_istore (lv' := [(6, .int x519), (0, .ref bb), (1, .ref x1), (2, .ref x2), (3, .ref x3), (4, .ref x4), (5, .int x5)]) hx hb dL_law_1423 hl (by decide) rfl (fun ls hl => ?_)
                                          refine lv_aload_n hx hb dL_law_1425 rfl (lv_at hl 3 rfl) ?_
                                          refine lv_aload_n hx hb dL_law_1426 rfl (lv_at hl 1 rfl) ?_
                                          refine lv_iload hx hb dL_law_1427 (lv_at hl 6 rfl) ?_
                                          refine lv_iconst (v := 1) hx hb dL_law_1429 (by decide) ?_
                                          refine lv_iadd hx hb dL_law_1430 ?_
                                          refine lv_topi (fun x520 ex520 => ?_)
                                          replace h := h x520 ex520
                                          obtain ⟨hi521, h⟩ := h
                                          refine va_sld hx hb hX hbl hbA hS hi521 dL_law_1431 ?_
                                          refine lv_topi (fun x522 ex522 => ?_)
                                          replace h := h x522 ex522
                                          refine lv_aload_n hx hb dL_law_1432 rfl (lv_at hl 1 rfl) ?_
                                          refine lv_iload hx hb dL_law_1433 (lv_at hl 6 rfl) ?_
                                          refine lv_iconst (v := 2) hx hb dL_law_1435 (by decide) ?_
                                          refine lv_iadd hx hb dL_law_1436 ?_
                                          refine lv_topi (fun x523 ex523 => ?_)
                                          replace h := h x523 ex523
                                          obtain ⟨hi524, h⟩ := h
                                          refine va_sld hx hb hX hbl hbA hS hi524 dL_law_1437 ?_
                                          refine lv_topi (fun x525 ex525 => ?_)
                                          replace h := h x525 ex525
                                          obtain ⟨hK_x2, h⟩ := h
                                          obtain ⟨c526, d527, hk1, hk2, h⟩ := h
                                          refine x_ki (x_runV (As := [.int x522, .int x525]) (rest := []) C hml hR hS (mA_X8_ofSociety l gg c526 d527 x2 x522 x525 S518 h) b_X8_ofSociety q_33_10 (by rw [hK_x2]; decide) (s_E_9 hK_x2) rfl rfl rfl rfl ⟨Nat.le_of_ble_eq_true rfl, Nat.le_of_ble_eq_true rfl⟩ rfl hl.1 (Nat.le_of_ble_eq_true rfl) dL_law_1438 ⟨hk1, hk2⟩) hS (fun x529 S528 H locs hn hR hS => ?_)
                                          replace h := hn
                                          clear hn
                                          have hk : ((kc + c516) + c526) ≤ mc ∧ ((ks + d517) + d527) ≤ ms := ⟨hk1, hk2⟩
                                          refine lv_istore (lv' := [(7, .int x529), (6, .int x519), (0, .ref bb), (1, .ref x1), (2, .ref x2), (3, .ref x3), (4, .ref x4), (5, .int x5)]) hx hb dL_law_1441 hl (by decide) rfl (fun ls hl => ?_)
                                          refine lv_aload_n hx hb dL_law_1443 rfl (lv_at hl 4 rfl) ?_
                                          obtain ⟨hK_x2, h⟩ := h
                                          refine x_ki (x_runV (As := []) (rest := []) C hml hR hS (m_X8_thrown l gg x2 S528 h) b_X8_thrown q_8_16 (by rw [hK_x2]; decide) (s_E_9 hK_x2) rfl rfl rfl rfl ⟨Nat.le_of_ble_eq_true rfl, Nat.le_of_ble_eq_true rfl⟩ rfl hl.1 (Nat.le_of_ble_eq_true rfl) dL_law_1444 ⟨hk.1, hk.2⟩) hS (fun x531 S530 H locs hn hR hS => ?_)
                                          replace h := hn
                                          clear hn
                                          refine lv_iload hx hb dL_law_1447 (lv_at hl 1 rfl) ?_
                                          refine lv_icmp_eq (tgt := 1454) hx hb dL_law_1449 (by decide) (fun hc532 => ?_) (fun hc532 => ?_)
                                          · replace h := h.1 hc532
                                            refine lv_iload hx hb dL_law_1454 (lv_at hl 1 rfl) ?_
                                            refine lv_if_ne (tgt := 1471) hx hb dL_law_1456 (by decide) (fun hc533 => ?_) (fun hc533 => ?_)
                                            · replace h := h.1 hc533
                                              exact tA_L_law_b1471 C hml hst hX hbl hbA hret hk (fun kc ks x1 x2 x3 x4 x5 S hk h => ih kc ks x1 x2 x3 x4 x5 S hk h) h H locs ls hR hS (lv_sub (l' := [(0, .ref bb), (1, .ref x1), (2, .ref x2), (3, .ref x3), (4, .ref x4), (5, .int x5)]) hl [2, 3, 4, 5, 6, 7] rfl)
                                            · replace h := h.2 hc533
                                              refine lv_aload_n hx hb dL_law_1459 rfl (lv_at hl 5 rfl) ?_
                                              refine lv_iconst (v := 0) hx hb dL_law_1460 (by decide) ?_
                                              obtain ⟨hK_x3, h⟩ := h
                                              obtain ⟨hi534, h⟩ := h
                                              refine x_lald C hR hK_x3 hi534 dL_law_1461 ?_
                                              refine lv_topl (fun j535 ej535 => ?_)
                                              replace h := h j535 ej535
                                              refine lv_iload hx hb dL_law_1462 (lv_at hl 0 rfl) ?_
                                              refine lv_i2l hx hb dL_law_1464 rfl ?_
                                              refine lv_topl (fun j536 ej536 => ?_)
                                              replace h := h j536 ej536
                                              refine W.lcmp hx hb dL_law_1465 ?_
                                              refine lv_topi (fun x537 ex537 => ?_)
                                              replace h := h x537 ex537
                                              refine lv_if_eq (tgt := 1471) hx hb dL_law_1466 (by decide) (fun hc538 => ?_) (fun hc538 => ?_)
                                              · replace h := h.1 hc538
                                                exact tA_L_law_b1471 C hml hst hX hbl hbA hret hk (fun kc ks x1 x2 x3 x4 x5 S hk h => ih kc ks x1 x2 x3 x4 x5 S hk h) h H locs ls hR hS (lv_sub (l' := [(0, .ref bb), (1, .ref x1), (2, .ref x2), (3, .ref x3), (4, .ref x4), (5, .int x5)]) hl [2, 3, 4, 5, 6, 7] rfl)
                                              · replace h := h.2 hc538
                                                refine lv_iconst (v := 0) hx hb dL_law_1469 (by decide) ?_
                                                exact h.elim
                                          · replace h := h.2 hc532
                                            refine lv_iconst (v := 0) hx hb dL_law_1452 (by decide) ?_
                                            exact h.elim
                                        · by_cases hc539 : x106 = 18
                                          · have h := h.2.2.2.2.2.2.2.2.2.2.2.2.2.2.2.2.2.2.1 hc539
                                            refine lv_tableIn (off := 1430) (tgt := 1474) hx hb dL_law_44 (by rw [hc539]; decide) (by rw [hc539]; decide) (by rw [hc539]; rfl) (by decide) ?_
                                            refine lv_aload_n hx hb dL_law_1474 rfl (lv_at hl 1 rfl) ?_
                                            refine lv_aload_n hx hb dL_law_1475 rfl (lv_at hl 0 rfl) ?_
                                            refine lv_iload hx hb dL_law_1476 (lv_at hl 5 rfl) ?_
                                            refine lv_iconst (v := 1) hx hb dL_law_1478 (by decide) ?_
                                            refine lv_iadd hx hb dL_law_1479 ?_
                                            refine lv_topi (fun x540 ex540 => ?_)
                                            replace h := h x540 ex540
                                            obtain ⟨hi541, h⟩ := h
                                            refine va_sld hx hb hX hbl hbA hS hi541 dL_law_1480 ?_
                                            refine lv_topi (fun x542 ex542 => ?_)
                                            replace h := h x542 ex542
                                            refine lv_aload_n hx hb dL_law_1481 rfl (lv_at hl 3 rfl) ?_
                                            obtain ⟨c543, d544, hk1, hk2, h⟩ := h
                                            refine x_ki (x_runSH (As := [.ref x1, .int x542, .ref x3]) (rest := []) C hml hR hS (mA_L_water l gg c543 d544 x1 x542 x3 S hst h) b_L_water q_33_20 rfl rfl ⟨Nat.le_of_ble_eq_true rfl, Nat.le_of_ble_eq_true rfl⟩ rfl hl.1 (Nat.le_of_ble_eq_true rfl) dL_law_1482 ⟨hk1, hk2⟩) hS (fun x546 S545 H locs hn hR hS => ?_)
                                            replace h := hn
                                            clear hn
                                            have hk : (kc + c543) ≤ mc ∧ (ks + d544) ≤ ms := ⟨hk1, hk2⟩
                                            refine lv_istore (lv' := [(6, .int x546), (0, .ref bb), (1, .ref x1), (2, .ref x2), (3, .ref x3), (4, .ref x4), (5, .int x5)]) hx hb dL_law_1485 hl (by decide) rfl (fun ls hl => ?_)
                                            refine lv_aload_n hx hb dL_law_1487 rfl (lv_at hl 3 rfl) ?_
                                            refine lv_aload_n hx hb dL_law_1488 rfl (lv_at hl 1 rfl) ?_
                                            refine lv_iload hx hb dL_law_1489 (lv_at hl 6 rfl) ?_
                                            refine lv_iconst (v := 1) hx hb dL_law_1491 (by decide) ?_
                                            refine lv_iadd hx hb dL_law_1492 ?_
                                            refine lv_topi (fun x547 ex547 => ?_)
                                            replace h := h x547 ex547
                                            obtain ⟨hi548, h⟩ := h
                                            refine va_sld hx hb hX hbl hbA hS hi548 dL_law_1493 ?_
                                            refine lv_topi (fun x549 ex549 => ?_)
                                            replace h := h x549 ex549
                                            obtain ⟨hK_x2, h⟩ := h
                                            obtain ⟨c550, d551, hk1, hk2, h⟩ := h
                                            refine x_ki (x_runV (As := [.int x549]) (rest := []) C hml hR hS (mA_X8_water l gg c550 d551 x2 x549 S545 h) b_X8_water q_34_19 (by rw [hK_x2]; decide) (s_E_9 hK_x2) rfl rfl rfl rfl ⟨Nat.le_of_ble_eq_true rfl, Nat.le_of_ble_eq_true rfl⟩ rfl hl.1 (Nat.le_of_ble_eq_true rfl) dL_law_1494 ⟨hk1, hk2⟩) hS (fun x553 S552 H locs hn hR hS => ?_)
                                            replace h := hn
                                            clear hn
                                            have hk : ((kc + c543) + c550) ≤ mc ∧ ((ks + d544) + d551) ≤ ms := ⟨hk1, hk2⟩
                                            refine lv_istore (lv' := [(7, .int x553), (6, .int x546), (0, .ref bb), (1, .ref x1), (2, .ref x2), (3, .ref x3), (4, .ref x4), (5, .int x5)]) hx hb dL_law_1497 hl (by decide) rfl (fun ls hl => ?_)
                                            refine lv_aload_n hx hb dL_law_1499 rfl (lv_at hl 4 rfl) ?_
                                            obtain ⟨hK_x2, h⟩ := h
                                            refine x_ki (x_runV (As := []) (rest := []) C hml hR hS (m_X8_thrown l gg x2 S552 h) b_X8_thrown q_8_16 (by rw [hK_x2]; decide) (s_E_9 hK_x2) rfl rfl rfl rfl ⟨Nat.le_of_ble_eq_true rfl, Nat.le_of_ble_eq_true rfl⟩ rfl hl.1 (Nat.le_of_ble_eq_true rfl) dL_law_1500 ⟨hk.1, hk.2⟩) hS (fun x555 S554 H locs hn hR hS => ?_)
                                            replace h := hn
                                            clear hn
                                            refine lv_iload hx hb dL_law_1503 (lv_at hl 1 rfl) ?_
                                            refine lv_icmp_eq (tgt := 1510) hx hb dL_law_1505 (by decide) (fun hc556 => ?_) (fun hc556 => ?_)
                                            · replace h := h.1 hc556
                                              refine lv_iload hx hb dL_law_1510 (lv_at hl 1 rfl) ?_
                                              refine lv_if_ne (tgt := 1527) hx hb dL_law_1512 (by decide) (fun hc557 => ?_) (fun hc557 => ?_)
                                              · replace h := h.1 hc557
                                                exact tA_L_law_b1527 C hml hst hX hbl hbA hret hk (fun kc ks x1 x2 x3 x4 x5 S hk h => ih kc ks x1 x2 x3 x4 x5 S hk h) h H locs ls hR hS (lv_sub (l' := [(0, .ref bb), (1, .ref x1), (2, .ref x2), (3, .ref x3), (4, .ref x4), (5, .int x5)]) hl [2, 3, 4, 5, 6, 7] rfl)
                                              · replace h := h.2 hc557
                                                refine lv_aload_n hx hb dL_law_1515 rfl (lv_at hl 5 rfl) ?_
                                                refine lv_iconst (v := 0) hx hb dL_law_1516 (by decide) ?_
                                                obtain ⟨hK_x3, h⟩ := h
                                                obtain ⟨hi558, h⟩ := h
                                                refine x_lald C hR hK_x3 hi558 dL_law_1517 ?_
                                                refine lv_topl (fun j559 ej559 => ?_)
                                                replace h := h j559 ej559
                                                refine lv_iload hx hb dL_law_1518 (lv_at hl 0 rfl) ?_
                                                refine lv_i2l hx hb dL_law_1520 rfl ?_
                                                refine lv_topl (fun j560 ej560 => ?_)
                                                replace h := h j560 ej560
                                                refine W.lcmp hx hb dL_law_1521 ?_
                                                refine lv_topi (fun x561 ex561 => ?_)
                                                replace h := h x561 ex561
                                                refine lv_if_eq (tgt := 1527) hx hb dL_law_1522 (by decide) (fun hc562 => ?_) (fun hc562 => ?_)
                                                · replace h := h.1 hc562
                                                  exact tA_L_law_b1527 C hml hst hX hbl hbA hret hk (fun kc ks x1 x2 x3 x4 x5 S hk h => ih kc ks x1 x2 x3 x4 x5 S hk h) h H locs ls hR hS (lv_sub (l' := [(0, .ref bb), (1, .ref x1), (2, .ref x2), (3, .ref x3), (4, .ref x4), (5, .int x5)]) hl [2, 3, 4, 5, 6, 7] rfl)
                                                · replace h := h.2 hc562
                                                  refine lv_iconst (v := 0) hx hb dL_law_1525 (by decide) ?_
                                                  exact h.elim
                                            · replace h := h.2 hc556
                                              refine lv_iconst (v := 0) hx hb dL_law_1508 (by decide) ?_
                                              exact h.elim
                                          · by_cases hc563 : x106 = 19
                                            · have h := h.2.2.2.2.2.2.2.2.2.2.2.2.2.2.2.2.2.2.2.1 hc563
                                              refine lv_tableIn (off := 1486) (tgt := 1530) hx hb dL_law_44 (by rw [hc563]; decide) (by rw [hc563]; decide) (by rw [hc563]; rfl) (by decide) ?_
                                              refine lv_aload_n hx hb dL_law_1530 rfl (lv_at hl 1 rfl) ?_
                                              obtain ⟨hK_x1, h⟩ := h
                                              refine x_ki (x_runV (As := []) (rest := []) C hml hR hS (m_X6_isClosed l gg x1 S h) b_X6_isClosed q_35_3 (by rw [hK_x1]; decide) (s_E_7 hK_x1) rfl rfl rfl rfl ⟨Nat.le_of_ble_eq_true rfl, Nat.le_of_ble_eq_true rfl⟩ rfl hl.1 (Nat.le_of_ble_eq_true rfl) dL_law_1531 ⟨hk.1, hk.2⟩) hS (fun x565 S564 H locs hn hR hS => ?_)
                                              replace h := hn
                                              clear hn
                                              refine lv_aload_n hx hb dL_law_1534 rfl (lv_at hl 2 rfl) ?_
                                              obtain ⟨hK_x2, h⟩ := h
                                              obtain ⟨c566, d567, hk1, hk2, h⟩ := h
                                              refine x_ki (x_runV (As := []) (rest := [.int x565]) C hml hR hS (mA_X8_isClosed l gg c566 d567 x2 S564 h) b_X8_isClosed q_35_14 (by rw [hK_x2]; decide) (s_E_9 hK_x2) rfl rfl rfl rfl ⟨Nat.le_of_ble_eq_true rfl, Nat.le_of_ble_eq_true rfl⟩ rfl hl.1 (Nat.le_of_ble_eq_true rfl) dL_law_1535 ⟨hk1, hk2⟩) hS (fun x569 S568 H locs hn hR hS => ?_)
                                              replace h := hn
                                              clear hn
                                              have hk : (kc + c566) ≤ mc ∧ (ks + d567) ≤ ms := ⟨hk1, hk2⟩
                                              refine lv_icmp_eq (tgt := 2022) hx hb dL_law_1538 (by decide) (fun hc570 => ?_) (fun hc570 => ?_)
                                              · replace h := h.1 hc570
                                                exact tA_L_law_b2022 C hml hst hX hbl hbA hret hk (fun kc ks x1 x2 x3 x4 x5 S hk h => ih kc ks x1 x2 x3 x4 x5 S hk h) h H locs ls hR hS (lv_sub (l' := [(0, .ref bb), (1, .ref x1), (2, .ref x2), (3, .ref x3), (4, .ref x4), (5, .int x5)]) hl [0, 1, 2, 3, 4, 5] rfl)
                                              · replace h := h.2 hc570
                                                refine lv_iconst (v := 0) hx hb dL_law_1541 (by decide) ?_
                                                exact h.elim
                                            · by_cases hc571 : x106 = 20
                                              · have h := h.2.2.2.2.2.2.2.2.2.2.2.2.2.2.2.2.2.2.2.2.1 hc571
                                                refine lv_tableIn (off := 1499) (tgt := 1543) hx hb dL_law_44 (by rw [hc571]; decide) (by rw [hc571]; decide) (by rw [hc571]; rfl) (by decide) ?_
                                                refine lv_aload_n hx hb dL_law_1543 rfl (lv_at hl 1 rfl) ?_
                                                refine lv_aload_n hx hb dL_law_1544 rfl (lv_at hl 0 rfl) ?_
                                                refine lv_iload hx hb dL_law_1545 (lv_at hl 5 rfl) ?_
                                                refine lv_iconst (v := 1) hx hb dL_law_1547 (by decide) ?_
                                                refine lv_iadd hx hb dL_law_1548 ?_
                                                refine lv_topi (fun x572 ex572 => ?_)
                                                replace h := h x572 ex572
                                                obtain ⟨hi573, h⟩ := h
                                                refine va_sld hx hb hX hbl hbA hS hi573 dL_law_1549 ?_
                                                refine lv_topi (fun x574 ex574 => ?_)
                                                replace h := h x574 ex574
                                                refine lv_aload_n hx hb dL_law_1550 rfl (lv_at hl 0 rfl) ?_
                                                refine lv_iload hx hb dL_law_1551 (lv_at hl 5 rfl) ?_
                                                refine lv_iconst (v := 2) hx hb dL_law_1553 (by decide) ?_
                                                refine lv_iadd hx hb dL_law_1554 ?_
                                                refine lv_topi (fun x575 ex575 => ?_)
                                                replace h := h x575 ex575
                                                obtain ⟨hi576, h⟩ := h
                                                refine va_sld hx hb hX hbl hbA hS hi576 dL_law_1555 ?_
                                                refine lv_topi (fun x577 ex577 => ?_)
                                                replace h := h x577 ex577
                                                refine lv_if_eq (tgt := 1563) hx hb dL_law_1556 (by decide) (fun hc578 => ?_) (fun hc578 => ?_)
                                                · replace h := h.1 hc578
                                                  refine lv_iconst (v := 0) hx hb dL_law_1563 (by decide) ?_
                                                  exact tA_L_law_b1564 C hml hst hX hbl hbA hret hk (fun kc ks x1 x2 x3 x4 x5 S hk h => ih kc ks x1 x2 x3 x4 x5 S hk h) h H locs ls hR hS (lv_sub (l' := [(0, .ref bb), (1, .ref x1), (2, .ref x2), (3, .ref x3), (4, .ref x4), (5, .int x5)]) hl [0, 1, 2, 3, 4, 5] rfl)
                                                · replace h := h.2 hc578
                                                  refine lv_iconst (v := 1) hx hb dL_law_1559 (by decide) ?_
                                                  refine lv_goto (tgt := 1564) hx hb dL_law_1560 (by decide) ?_
                                                  exact tA_L_law_b1564 C hml hst hX hbl hbA hret hk (fun kc ks x1 x2 x3 x4 x5 S hk h => ih kc ks x1 x2 x3 x4 x5 S hk h) h H locs ls hR hS (lv_sub (l' := [(0, .ref bb), (1, .ref x1), (2, .ref x2), (3, .ref x3), (4, .ref x4), (5, .int x5)]) hl [0, 1, 2, 3, 4, 5] rfl)
                                              · by_cases hc579 : x106 = 21
                                                · have h := h.2.2.2.2.2.2.2.2.2.2.2.2.2.2.2.2.2.2.2.2.2.1 hc579
                                                  refine lv_tableIn (off := 1583) (tgt := 1627) hx hb dL_law_44 (by rw [hc579]; decide) (by rw [hc579]; decide) (by rw [hc579]; rfl) (by decide) ?_
                                                  refine lv_aload_n hx hb dL_law_1627 rfl (lv_at hl 1 rfl) ?_
                                                  refine lv_aload_n hx hb dL_law_1628 rfl (lv_at hl 0 rfl) ?_
                                                  refine lv_iload hx hb dL_law_1629 (lv_at hl 5 rfl) ?_
                                                  refine lv_iconst (v := 1) hx hb dL_law_1631 (by decide) ?_
                                                  refine lv_iadd hx hb dL_law_1632 ?_
                                                  refine lv_topi (fun x580 ex580 => ?_)
                                                  replace h := h x580 ex580
                                                  obtain ⟨hi581, h⟩ := h
                                                  refine va_sld hx hb hX hbl hbA hS hi581 dL_law_1633 ?_
                                                  refine lv_topi (fun x582 ex582 => ?_)
                                                  replace h := h x582 ex582
                                                  refine lv_aload_n hx hb dL_law_1634 rfl (lv_at hl 3 rfl) ?_
                                                  obtain ⟨c583, d584, hk1, hk2, h⟩ := h
                                                  refine x_ki (x_runSH (As := [.ref x1, .int x582, .ref x3]) (rest := []) C hml hR hS (mA_L_many l gg c583 d584 x1 x582 x3 S hst h) b_L_many q_36_11 rfl rfl ⟨Nat.le_of_ble_eq_true rfl, Nat.le_of_ble_eq_true rfl⟩ rfl hl.1 (Nat.le_of_ble_eq_true rfl) dL_law_1635 ⟨hk1, hk2⟩) hS (fun x586 S585 H locs hn hR hS => ?_)
                                                  replace h := hn
                                                  clear hn
                                                  have hk : (kc + c583) ≤ mc ∧ (ks + d584) ≤ ms := ⟨hk1, hk2⟩
                                                  refine lv_istore (lv' := [(6, .int x586), (0, .ref bb), (1, .ref x1), (2, .ref x2), (3, .ref x3), (4, .ref x4), (5, .int x5)]) hx hb dL_law_1638 hl (by decide) rfl (fun ls hl => ?_)
                                                  refine lv_aload_n hx hb dL_law_1640 rfl (lv_at hl 3 rfl) ?_
                                                  refine lv_aload_n hx hb dL_law_1641 rfl (lv_at hl 1 rfl) ?_
                                                  refine lv_iload hx hb dL_law_1642 (lv_at hl 6 rfl) ?_
                                                  refine lv_iconst (v := 1) hx hb dL_law_1644 (by decide) ?_
                                                  refine lv_iadd hx hb dL_law_1645 ?_
                                                  refine lv_topi (fun x587 ex587 => ?_)
                                                  replace h := h x587 ex587
                                                  obtain ⟨hi588, h⟩ := h
                                                  refine va_sld hx hb hX hbl hbA hS hi588 dL_law_1646 ?_
                                                  refine lv_topi (fun x589 ex589 => ?_)
                                                  replace h := h x589 ex589
                                                  obtain ⟨hK_x2, h⟩ := h
                                                  obtain ⟨c590, d591, hk1, hk2, h⟩ := h
                                                  refine x_ki (x_runV (As := [.int x589]) (rest := []) C hml hR hS (mA_X8_many l gg c590 d591 x2 x589 S585 h) b_X8_many q_37_3 (by rw [hK_x2]; decide) (s_E_9 hK_x2) rfl rfl rfl rfl ⟨Nat.le_of_ble_eq_true rfl, Nat.le_of_ble_eq_true rfl⟩ rfl hl.1 (Nat.le_of_ble_eq_true rfl) dL_law_1647 ⟨hk1, hk2⟩) hS (fun x593 S592 H locs hn hR hS => ?_)
                                                  replace h := hn
                                                  clear hn
                                                  have hk : ((kc + c583) + c590) ≤ mc ∧ ((ks + d584) + d591) ≤ ms := ⟨hk1, hk2⟩
                                                  refine lv_istore (lv' := [(7, .int x593), (6, .int x586), (0, .ref bb), (1, .ref x1), (2, .ref x2), (3, .ref x3), (4, .ref x4), (5, .int x5)]) hx hb dL_law_1650 hl (by decide) rfl (fun ls hl => ?_)
                                                  refine lv_aload_n hx hb dL_law_1652 rfl (lv_at hl 4 rfl) ?_
                                                  obtain ⟨hK_x2, h⟩ := h
                                                  refine x_ki (x_runV (As := []) (rest := []) C hml hR hS (m_X8_thrown l gg x2 S592 h) b_X8_thrown q_8_16 (by rw [hK_x2]; decide) (s_E_9 hK_x2) rfl rfl rfl rfl ⟨Nat.le_of_ble_eq_true rfl, Nat.le_of_ble_eq_true rfl⟩ rfl hl.1 (Nat.le_of_ble_eq_true rfl) dL_law_1653 ⟨hk.1, hk.2⟩) hS (fun x595 S594 H locs hn hR hS => ?_)
                                                  replace h := hn
                                                  clear hn
                                                  refine lv_iload hx hb dL_law_1656 (lv_at hl 1 rfl) ?_
                                                  refine lv_icmp_eq (tgt := 1663) hx hb dL_law_1658 (by decide) (fun hc596 => ?_) (fun hc596 => ?_)
                                                  · replace h := h.1 hc596
                                                    refine lv_iload hx hb dL_law_1663 (lv_at hl 1 rfl) ?_
                                                    refine lv_if_ne (tgt := 1680) hx hb dL_law_1665 (by decide) (fun hc597 => ?_) (fun hc597 => ?_)
                                                    · replace h := h.1 hc597
                                                      exact tA_L_law_b1680 C hml hst hX hbl hbA hret hk (fun kc ks x1 x2 x3 x4 x5 S hk h => ih kc ks x1 x2 x3 x4 x5 S hk h) h H locs ls hR hS (lv_sub (l' := [(0, .ref bb), (1, .ref x1), (2, .ref x2), (3, .ref x3), (4, .ref x4), (5, .int x5)]) hl [2, 3, 4, 5, 6, 7] rfl)
                                                    · replace h := h.2 hc597
                                                      refine lv_aload_n hx hb dL_law_1668 rfl (lv_at hl 5 rfl) ?_
                                                      refine lv_iconst (v := 0) hx hb dL_law_1669 (by decide) ?_
                                                      obtain ⟨hK_x3, h⟩ := h
                                                      obtain ⟨hi598, h⟩ := h
                                                      refine x_lald C hR hK_x3 hi598 dL_law_1670 ?_
                                                      refine lv_topl (fun j599 ej599 => ?_)
                                                      replace h := h j599 ej599
                                                      refine lv_iload hx hb dL_law_1671 (lv_at hl 0 rfl) ?_
                                                      refine lv_i2l hx hb dL_law_1673 rfl ?_
                                                      refine lv_topl (fun j600 ej600 => ?_)
                                                      replace h := h j600 ej600
                                                      refine W.lcmp hx hb dL_law_1674 ?_
                                                      refine lv_topi (fun x601 ex601 => ?_)
                                                      replace h := h x601 ex601
                                                      refine lv_if_eq (tgt := 1680) hx hb dL_law_1675 (by decide) (fun hc602 => ?_) (fun hc602 => ?_)
                                                      · replace h := h.1 hc602
                                                        exact tA_L_law_b1680 C hml hst hX hbl hbA hret hk (fun kc ks x1 x2 x3 x4 x5 S hk h => ih kc ks x1 x2 x3 x4 x5 S hk h) h H locs ls hR hS (lv_sub (l' := [(0, .ref bb), (1, .ref x1), (2, .ref x2), (3, .ref x3), (4, .ref x4), (5, .int x5)]) hl [2, 3, 4, 5, 6, 7] rfl)
                                                      · replace h := h.2 hc602
                                                        refine lv_iconst (v := 0) hx hb dL_law_1678 (by decide) ?_
                                                        exact h.elim
                                                  · replace h := h.2 hc596
                                                    refine lv_iconst (v := 0) hx hb dL_law_1661 (by decide) ?_
                                                    exact h.elim
                                                · by_cases hc603 : x106 = 22
                                                  · have h := h.2.2.2.2.2.2.2.2.2.2.2.2.2.2.2.2.2.2.2.2.2.2.1 hc603
                                                    refine lv_tableIn (off := 1639) (tgt := 1683) hx hb dL_law_44 (by rw [hc603]; decide) (by rw [hc603]; decide) (by rw [hc603]; rfl) (by decide) ?_
                                                    refine lv_aload_n hx hb dL_law_1683 rfl (lv_at hl 1 rfl) ?_
                                                    refine lv_aload_n hx hb dL_law_1684 rfl (lv_at hl 0 rfl) ?_
                                                    refine lv_iload hx hb dL_law_1685 (lv_at hl 5 rfl) ?_
                                                    refine lv_iconst (v := 1) hx hb dL_law_1687 (by decide) ?_
                                                    refine lv_iadd hx hb dL_law_1688 ?_
                                                    refine lv_topi (fun x604 ex604 => ?_)
                                                    replace h := h x604 ex604
                                                    obtain ⟨hi605, h⟩ := h
                                                    refine va_sld hx hb hX hbl hbA hS hi605 dL_law_1689 ?_
                                                    refine lv_topi (fun x606 ex606 => ?_)
                                                    replace h := h x606 ex606
                                                    refine lv_aload hx hb dL_law_1690 (lv_at hl 4 rfl) ?_
                                                    obtain ⟨c607, d608, hk1, hk2, h⟩ := h
                                                    refine x_ki (x_runSH (As := [.ref x1, .int x606, .ref x4]) (rest := []) C hml hR hS (mA_L_meanDepth l gg c607 d608 x1 x606 x4 S hst h) b_L_meanDepth q_37_11 rfl rfl ⟨Nat.le_of_ble_eq_true rfl, Nat.le_of_ble_eq_true rfl⟩ rfl hl.1 (Nat.le_of_ble_eq_true rfl) dL_law_1692 ⟨hk1, hk2⟩) hS (fun x610 S609 H locs hn hR hS => ?_)
                                                    replace h := hn
                                                    clear hn
                                                    have hk : (kc + c607) ≤ mc ∧ (ks + d608) ≤ ms := ⟨hk1, hk2⟩
                                                    refine lv_istore (lv' := [(6, .int x610), (0, .ref bb), (1, .ref x1), (2, .ref x2), (3, .ref x3), (4, .ref x4), (5, .int x5)]) hx hb dL_law_1695 hl (by decide) rfl (fun ls hl => ?_)
                                                    refine lv_aload_n hx hb dL_law_1697 rfl (lv_at hl 3 rfl) ?_
                                                    refine lv_aload_n hx hb dL_law_1698 rfl (lv_at hl 1 rfl) ?_
                                                    refine lv_iload hx hb dL_law_1699 (lv_at hl 6 rfl) ?_
                                                    refine lv_iconst (v := 1) hx hb dL_law_1701 (by decide) ?_
                                                    refine lv_iadd hx hb dL_law_1702 ?_
                                                    refine lv_topi (fun x611 ex611 => ?_)
                                                    replace h := h x611 ex611
                                                    obtain ⟨hi612, h⟩ := h
                                                    refine va_sld hx hb hX hbl hbA hS hi612 dL_law_1703 ?_
                                                    refine lv_topi (fun x613 ex613 => ?_)
                                                    replace h := h x613 ex613
                                                    obtain ⟨hK_x2, h⟩ := h
                                                    refine x_kd (x_runV (As := [.int x613]) (rest := []) C hml hR hS (m_X8_meanDepth l gg x2 x613 S609 h) b_X8_meanDepth q_37_23 (by rw [hK_x2]; decide) (s_E_9 hK_x2) rfl rfl rfl rfl ⟨Nat.le_of_ble_eq_true rfl, Nat.le_of_ble_eq_true rfl⟩ rfl hl.1 (Nat.le_of_ble_eq_true rfl) dL_law_1704 ⟨hk.1, hk.2⟩) hS (fun f615 S614 H locs hn hR hS => ?_)
                                                    replace h := hn
                                                    clear hn
                                                    refine lv_dstore (lv' := [(7, .double f615), (6, .int x610), (0, .ref bb), (1, .ref x1), (2, .ref x2), (3, .ref x3), (4, .ref x4), (5, .int x5)]) hx hb dL_law_1707 hl (by decide) rfl (fun ls hl => ?_)
                                                    refine lv_aload_n hx hb dL_law_1709 rfl (lv_at hl 4 rfl) ?_
                                                    obtain ⟨hK_x2, h⟩ := h
                                                    refine x_ki (x_runV (As := []) (rest := []) C hml hR hS (m_X8_thrown l gg x2 S614 h) b_X8_thrown q_8_16 (by rw [hK_x2]; decide) (s_E_9 hK_x2) rfl rfl rfl rfl ⟨Nat.le_of_ble_eq_true rfl, Nat.le_of_ble_eq_true rfl⟩ rfl hl.1 (Nat.le_of_ble_eq_true rfl) dL_law_1710 ⟨hk.1, hk.2⟩) hS (fun x617 S616 H locs hn hR hS => ?_)
                                                    replace h := hn
                                                    clear hn
                                                    refine lv_iload hx hb dL_law_1713 (lv_at hl 1 rfl) ?_
                                                    refine lv_icmp_eq (tgt := 1720) hx hb dL_law_1715 (by decide) (fun hc618 => ?_) (fun hc618 => ?_)
                                                    · replace h := h.1 hc618
                                                      refine lv_iload hx hb dL_law_1720 (lv_at hl 1 rfl) ?_
                                                      refine lv_if_ne (tgt := 1757) hx hb dL_law_1722 (by decide) (fun hc619 => ?_) (fun hc619 => ?_)
                                                      · replace h := h.1 hc619
                                                        exact tA_L_law_b1757 C hml hst hX hbl hbA hret hk (fun kc ks x1 x2 x3 x4 x5 S hk h => ih kc ks x1 x2 x3 x4 x5 S hk h) h H locs ls hR hS (lv_sub (l' := [(0, .ref bb), (1, .ref x1), (2, .ref x2), (3, .ref x3), (4, .ref x4), (5, .int x5)]) hl [2, 3, 4, 5, 6, 7] rfl)
                                                      · replace h := h.2 hc619
                                                        refine lv_aload hx hb dL_law_1725 (lv_at hl 6 rfl) ?_
                                                        refine lv_iconst (v := 0) hx hb dL_law_1727 (by decide) ?_
                                                        obtain ⟨hK_x4, h⟩ := h
                                                        obtain ⟨hi620, h⟩ := h
                                                        refine x_dald C hR hK_x4 hi620 dL_law_1728 ?_
                                                        refine x_topd (fun f621 ef621 => ?_)
                                                        replace h := h f621 ef621
                                                        refine lv_dload hx hb dL_law_1729 (lv_at hl 0 rfl) ?_
                                                        refine lv_dcmp hx hb dL_law_1731 ?_
                                                        refine lv_topi (fun x622 ex622 => ?_)
                                                        replace h := h x622 ex622
                                                        refine lv_if_eq (tgt := 1757) hx hb dL_law_1732 (by decide) (fun hc623 => ?_) (fun hc623 => ?_)
                                                        · replace h := h.1 hc623
                                                          exact tA_L_law_b1757 C hml hst hX hbl hbA hret hk (fun kc ks x1 x2 x3 x4 x5 S hk h => ih kc ks x1 x2 x3 x4 x5 S hk h) h H locs ls hR hS (lv_sub (l' := [(0, .ref bb), (1, .ref x1), (2, .ref x2), (3, .ref x3), (4, .ref x4), (5, .int x5)]) hl [2, 3, 4, 5, 6, 7] rfl)
                                                        · replace h := h.2 hc623
                                                          refine lv_aload hx hb dL_law_1735 (lv_at hl 6 rfl) ?_
                                                          refine lv_iconst (v := 0) hx hb dL_law_1737 (by decide) ?_
                                                          obtain ⟨hi624, h⟩ := h
                                                          refine x_dald C hR hK_x4 hi624 dL_law_1738 ?_
                                                          refine x_topd (fun f625 ef625 => ?_)
                                                          replace h := h f625 ef625
                                                          refine lv_aload hx hb dL_law_1739 (lv_at hl 6 rfl) ?_
                                                          refine lv_iconst (v := 0) hx hb dL_law_1741 (by decide) ?_
                                                          obtain ⟨hi626, h⟩ := h
                                                          refine x_dald C hR hK_x4 hi626 dL_law_1742 ?_
                                                          refine x_topd (fun f627 ef627 => ?_)
                                                          replace h := h f627 ef627
                                                          refine lv_dcmp hx hb dL_law_1743 ?_
                                                          refine lv_topi (fun x628 ex628 => ?_)
                                                          replace h := h x628 ex628
                                                          refine lv_if_eq (tgt := 1755) hx hb dL_law_1744 (by decide) (fun hc629 => ?_) (fun hc629 => ?_)
                                                          · replace h := h.1 hc629
                                                            exact tA_L_law_b1755 C hml hst hX hbl hbA hret hk  h H locs ls hR hS (lv_sub (l' := []) hl [] rfl)
                                                          · replace h := h.2 hc629
                                                            refine lv_dload hx hb dL_law_1747 (lv_at hl 0 rfl) ?_
                                                            refine lv_dload hx hb dL_law_1749 (lv_at hl 0 rfl) ?_
                                                            refine lv_dcmp hx hb dL_law_1751 ?_
                                                            refine lv_topi (fun x630 ex630 => ?_)
                                                            replace h := h x630 ex630
                                                            refine lv_if_ne (tgt := 1757) hx hb dL_law_1752 (by decide) (fun hc631 => ?_) (fun hc631 => ?_)
                                                            · replace h := h.1 hc631
                                                              exact tA_L_law_b1757 C hml hst hX hbl hbA hret hk (fun kc ks x1 x2 x3 x4 x5 S hk h => ih kc ks x1 x2 x3 x4 x5 S hk h) h H locs ls hR hS (lv_sub (l' := [(0, .ref bb), (1, .ref x1), (2, .ref x2), (3, .ref x3), (4, .ref x4), (5, .int x5)]) hl [2, 3, 4, 5, 6, 7] rfl)
                                                            · replace h := h.2 hc631
                                                              exact tA_L_law_b1755 C hml hst hX hbl hbA hret hk  h H locs ls hR hS (lv_sub (l' := []) hl [] rfl)
                                                    · replace h := h.2 hc618
                                                      refine lv_iconst (v := 0) hx hb dL_law_1718 (by decide) ?_
                                                      exact h.elim
                                                  · by_cases hc632 : x106 = 23
                                                    · have h := h.2.2.2.2.2.2.2.2.2.2.2.2.2.2.2.2.2.2.2.2.2.2.2.1 hc632
                                                      refine lv_tableIn (off := 1716) (tgt := 1760) hx hb dL_law_44 (by rw [hc632]; decide) (by rw [hc632]; decide) (by rw [hc632]; rfl) (by decide) ?_
                                                      refine lv_aload_n hx hb dL_law_1760 rfl (lv_at hl 1 rfl) ?_
                                                      refine lv_aload_n hx hb dL_law_1761 rfl (lv_at hl 0 rfl) ?_
                                                      refine lv_iload hx hb dL_law_1762 (lv_at hl 5 rfl) ?_
                                                      refine lv_iconst (v := 1) hx hb dL_law_1764 (by decide) ?_
                                                      refine lv_iadd hx hb dL_law_1765 ?_
                                                      refine lv_topi (fun x633 ex633 => ?_)
                                                      replace h := h x633 ex633
                                                      obtain ⟨hi634, h⟩ := h
                                                      refine va_sld hx hb hX hbl hbA hS hi634 dL_law_1766 ?_
                                                      refine lv_topi (fun x635 ex635 => ?_)
                                                      replace h := h x635 ex635
                                                      refine lv_aload_n hx hb dL_law_1767 rfl (lv_at hl 3 rfl) ?_
                                                      obtain ⟨c636, d637, hk1, hk2, h⟩ := h
                                                      refine x_ki (x_runSH (As := [.ref x1, .int x635, .ref x3]) (rest := []) C hml hR hS (mA_L_suspect l gg c636 d637 x1 x635 x3 S hst h) b_L_suspect q_38_3 rfl rfl ⟨Nat.le_of_ble_eq_true rfl, Nat.le_of_ble_eq_true rfl⟩ rfl hl.1 (Nat.le_of_ble_eq_true rfl) dL_law_1768 ⟨hk1, hk2⟩) hS (fun x639 S638 H locs hn hR hS => ?_)
                                                      replace h := hn
                                                      clear hn
                                                      have hk : (kc + c636) ≤ mc ∧ (ks + d637) ≤ ms := ⟨hk1, hk2⟩
                                                      refine lv_istore (lv' := [(6, .int x639), (0, .ref bb), (1, .ref x1), (2, .ref x2), (3, .ref x3), (4, .ref x4), (5, .int x5)]) hx hb dL_law_1771 hl (by decide) rfl (fun ls hl => ?_)
                                                      refine lv_aload_n hx hb dL_law_1773 rfl (lv_at hl 3 rfl) ?_
                                                      refine lv_aload_n hx hb dL_law_1774 rfl (lv_at hl 1 rfl) ?_
                                                      refine lv_iload hx hb dL_law_1775 (lv_at hl 6 rfl) ?_
                                                      refine lv_iconst (v := 1) hx hb dL_law_1777 (by decide) ?_
                                                      refine lv_iadd hx hb dL_law_1778 ?_
                                                      refine lv_topi (fun x640 ex640 => ?_)
                                                      replace h := h x640 ex640
                                                      obtain ⟨hi641, h⟩ := h
                                                      refine va_sld hx hb hX hbl hbA hS hi641 dL_law_1779 ?_
                                                      refine lv_topi (fun x642 ex642 => ?_)
                                                      replace h := h x642 ex642
                                                      obtain ⟨hK_x2, h⟩ := h
                                                      refine x_ki (x_runV (As := [.int x642]) (rest := []) C hml hR hS (m_X8_suspect l gg x2 x642 S638 h) b_X8_suspect q_38_15 (by rw [hK_x2]; decide) (s_E_9 hK_x2) rfl rfl rfl rfl ⟨Nat.le_of_ble_eq_true rfl, Nat.le_of_ble_eq_true rfl⟩ rfl hl.1 (Nat.le_of_ble_eq_true rfl) dL_law_1780 ⟨hk.1, hk.2⟩) hS (fun x644 S643 H locs hn hR hS => ?_)
                                                      replace h := hn
                                                      clear hn
                                                      refine lv_istore (lv' := [(7, .int x644), (6, .int x639), (0, .ref bb), (1, .ref x1), (2, .ref x2), (3, .ref x3), (4, .ref x4), (5, .int x5)]) hx hb dL_law_1783 hl (by decide) rfl (fun ls hl => ?_)
                                                      refine lv_aload_n hx hb dL_law_1785 rfl (lv_at hl 4 rfl) ?_
                                                      obtain ⟨hK_x2, h⟩ := h
                                                      refine x_ki (x_runV (As := []) (rest := []) C hml hR hS (m_X8_thrown l gg x2 S643 h) b_X8_thrown q_8_16 (by rw [hK_x2]; decide) (s_E_9 hK_x2) rfl rfl rfl rfl ⟨Nat.le_of_ble_eq_true rfl, Nat.le_of_ble_eq_true rfl⟩ rfl hl.1 (Nat.le_of_ble_eq_true rfl) dL_law_1786 ⟨hk.1, hk.2⟩) hS (fun x646 S645 H locs hn hR hS => ?_)
                                                      replace h := hn
                                                      clear hn
                                                      refine lv_iload hx hb dL_law_1789 (lv_at hl 1 rfl) ?_
                                                      refine lv_icmp_eq (tgt := 1796) hx hb dL_law_1791 (by decide) (fun hc647 => ?_) (fun hc647 => ?_)
                                                      · replace h := h.1 hc647
                                                        refine lv_iload hx hb dL_law_1796 (lv_at hl 1 rfl) ?_
                                                        refine lv_if_ne (tgt := 1813) hx hb dL_law_1798 (by decide) (fun hc648 => ?_) (fun hc648 => ?_)
                                                        · replace h := h.1 hc648
                                                          exact tA_L_law_b1813 C hml hst hX hbl hbA hret hk (fun kc ks x1 x2 x3 x4 x5 S hk h => ih kc ks x1 x2 x3 x4 x5 S hk h) h H locs ls hR hS (lv_sub (l' := [(0, .ref bb), (1, .ref x1), (2, .ref x2), (3, .ref x3), (4, .ref x4), (5, .int x5)]) hl [2, 3, 4, 5, 6, 7] rfl)
                                                        · replace h := h.2 hc648
                                                          refine lv_aload_n hx hb dL_law_1801 rfl (lv_at hl 5 rfl) ?_
                                                          refine lv_iconst (v := 0) hx hb dL_law_1802 (by decide) ?_
                                                          obtain ⟨hK_x3, h⟩ := h
                                                          obtain ⟨hi649, h⟩ := h
                                                          refine x_lald C hR hK_x3 hi649 dL_law_1803 ?_
                                                          refine lv_topl (fun j650 ej650 => ?_)
                                                          replace h := h j650 ej650
                                                          refine lv_iload hx hb dL_law_1804 (lv_at hl 0 rfl) ?_
                                                          refine lv_i2l hx hb dL_law_1806 rfl ?_
                                                          refine lv_topl (fun j651 ej651 => ?_)
                                                          replace h := h j651 ej651
                                                          refine W.lcmp hx hb dL_law_1807 ?_
                                                          refine lv_topi (fun x652 ex652 => ?_)
                                                          replace h := h x652 ex652
                                                          refine lv_if_eq (tgt := 1813) hx hb dL_law_1808 (by decide) (fun hc653 => ?_) (fun hc653 => ?_)
                                                          · replace h := h.1 hc653
                                                            exact tA_L_law_b1813 C hml hst hX hbl hbA hret hk (fun kc ks x1 x2 x3 x4 x5 S hk h => ih kc ks x1 x2 x3 x4 x5 S hk h) h H locs ls hR hS (lv_sub (l' := [(0, .ref bb), (1, .ref x1), (2, .ref x2), (3, .ref x3), (4, .ref x4), (5, .int x5)]) hl [2, 3, 4, 5, 6, 7] rfl)
                                                          · replace h := h.2 hc653
                                                            refine lv_iconst (v := 0) hx hb dL_law_1811 (by decide) ?_
                                                            exact h.elim
                                                      · replace h := h.2 hc647
                                                        refine lv_iconst (v := 0) hx hb dL_law_1794 (by decide) ?_
                                                        exact h.elim
                                                    · by_cases hc654 : x106 = 24
                                                      · have h := h.2.2.2.2.2.2.2.2.2.2.2.2.2.2.2.2.2.2.2.2.2.2.2.2.1 hc654
                                                        refine lv_tableIn (off := 1772) (tgt := 1816) hx hb dL_law_44 (by rw [hc654]; decide) (by rw [hc654]; decide) (by rw [hc654]; rfl) (by decide) ?_
                                                        refine lv_aload_n hx hb dL_law_1816 rfl (lv_at hl 1 rfl) ?_
                                                        refine lv_aload_n hx hb dL_law_1817 rfl (lv_at hl 0 rfl) ?_
                                                        refine lv_iload hx hb dL_law_1818 (lv_at hl 5 rfl) ?_
                                                        refine lv_iconst (v := 1) hx hb dL_law_1820 (by decide) ?_
                                                        refine lv_iadd hx hb dL_law_1821 ?_
                                                        refine lv_topi (fun x655 ex655 => ?_)
                                                        replace h := h x655 ex655
                                                        obtain ⟨hi656, h⟩ := h
                                                        refine va_sld hx hb hX hbl hbA hS hi656 dL_law_1822 ?_
                                                        refine lv_topi (fun x657 ex657 => ?_)
                                                        replace h := h x657 ex657
                                                        refine lv_aload_n hx hb dL_law_1823 rfl (lv_at hl 0 rfl) ?_
                                                        refine lv_iload hx hb dL_law_1824 (lv_at hl 5 rfl) ?_
                                                        refine lv_iconst (v := 2) hx hb dL_law_1826 (by decide) ?_
                                                        refine lv_iadd hx hb dL_law_1827 ?_
                                                        refine lv_topi (fun x658 ex658 => ?_)
                                                        replace h := h x658 ex658
                                                        obtain ⟨hi659, h⟩ := h
                                                        refine va_sld hx hb hX hbl hbA hS hi659 dL_law_1828 ?_
                                                        refine lv_topi (fun x660 ex660 => ?_)
                                                        replace h := h x660 ex660
                                                        refine lv_aload_n hx hb dL_law_1829 rfl (lv_at hl 3 rfl) ?_
                                                        obtain ⟨c661, d662, hk1, hk2, h⟩ := h
                                                        refine x_ki (x_runSH (As := [.ref x1, .int x657, .int x660, .ref x3]) (rest := []) C hml hR hS (mA_L_wouldYield l gg c661 d662 x1 x657 x660 x3 S hst h) b_L_wouldYield q_38_23 rfl rfl ⟨Nat.le_of_ble_eq_true rfl, Nat.le_of_ble_eq_true rfl⟩ rfl hl.1 (Nat.le_of_ble_eq_true rfl) dL_law_1830 ⟨hk1, hk2⟩) hS (fun x664 S663 H locs hn hR hS => ?_)
                                                        replace h := hn
                                                        clear hn
                                                        have hk : (kc + c661) ≤ mc ∧ (ks + d662) ≤ ms := ⟨hk1, hk2⟩
                                                        refine lv_istore (lv' := [(6, .int x664), (0, .ref bb), (1, .ref x1), (2, .ref x2), (3, .ref x3), (4, .ref x4), (5, .int x5)]) hx hb dL_law_1833 hl (by decide) rfl (fun ls hl => ?_)
                                                        refine lv_aload_n hx hb dL_law_1835 rfl (lv_at hl 3 rfl) ?_
                                                        refine lv_aload_n hx hb dL_law_1836 rfl (lv_at hl 1 rfl) ?_
                                                        refine lv_iload hx hb dL_law_1837 (lv_at hl 6 rfl) ?_
                                                        refine lv_iconst (v := 1) hx hb dL_law_1839 (by decide) ?_
                                                        refine lv_iadd hx hb dL_law_1840 ?_
                                                        refine lv_topi (fun x665 ex665 => ?_)
                                                        replace h := h x665 ex665
                                                        obtain ⟨hi666, h⟩ := h
                                                        refine va_sld hx hb hX hbl hbA hS hi666 dL_law_1841 ?_
                                                        refine lv_topi (fun x667 ex667 => ?_)
                                                        replace h := h x667 ex667
                                                        refine lv_aload_n hx hb dL_law_1842 rfl (lv_at hl 1 rfl) ?_
                                                        refine lv_iload hx hb dL_law_1843 (lv_at hl 6 rfl) ?_
                                                        refine lv_iconst (v := 2) hx hb dL_law_1845 (by decide) ?_
                                                        refine lv_iadd hx hb dL_law_1846 ?_
                                                        refine lv_topi (fun x668 ex668 => ?_)
                                                        replace h := h x668 ex668
                                                        obtain ⟨hi669, h⟩ := h
                                                        refine va_sld hx hb hX hbl hbA hS hi669 dL_law_1847 ?_
                                                        refine lv_topi (fun x670 ex670 => ?_)
                                                        replace h := h x670 ex670
                                                        obtain ⟨hK_x2, h⟩ := h
                                                        obtain ⟨c671, d672, hk1, hk2, h⟩ := h
                                                        refine x_ki (x_runV (As := [.int x667, .int x670]) (rest := []) C hml hR hS (mA_X8_wouldYield l gg c671 d672 x2 x667 x670 S663 h) b_X8_wouldYield q_40_13 (by rw [hK_x2]; decide) (s_E_9 hK_x2) rfl rfl rfl rfl ⟨Nat.le_of_ble_eq_true rfl, Nat.le_of_ble_eq_true rfl⟩ rfl hl.1 (Nat.le_of_ble_eq_true rfl) dL_law_1848 ⟨hk1, hk2⟩) hS (fun x674 S673 H locs hn hR hS => ?_)
                                                        replace h := hn
                                                        clear hn
                                                        have hk : ((kc + c661) + c671) ≤ mc ∧ ((ks + d662) + d672) ≤ ms := ⟨hk1, hk2⟩
                                                        refine lv_istore (lv' := [(7, .int x674), (6, .int x664), (0, .ref bb), (1, .ref x1), (2, .ref x2), (3, .ref x3), (4, .ref x4), (5, .int x5)]) hx hb dL_law_1851 hl (by decide) rfl (fun ls hl => ?_)
                                                        refine lv_aload_n hx hb dL_law_1853 rfl (lv_at hl 4 rfl) ?_
                                                        obtain ⟨hK_x2, h⟩ := h
                                                        refine x_ki (x_runV (As := []) (rest := []) C hml hR hS (m_X8_thrown l gg x2 S673 h) b_X8_thrown q_8_16 (by rw [hK_x2]; decide) (s_E_9 hK_x2) rfl rfl rfl rfl ⟨Nat.le_of_ble_eq_true rfl, Nat.le_of_ble_eq_true rfl⟩ rfl hl.1 (Nat.le_of_ble_eq_true rfl) dL_law_1854 ⟨hk.1, hk.2⟩) hS (fun x676 S675 H locs hn hR hS => ?_)
                                                        replace h := hn
                                                        clear hn
                                                        refine lv_iload hx hb dL_law_1857 (lv_at hl 1 rfl) ?_
                                                        refine lv_icmp_eq (tgt := 1864) hx hb dL_law_1859 (by decide) (fun hc677 => ?_) (fun hc677 => ?_)
                                                        · replace h := h.1 hc677
                                                          refine lv_iload hx hb dL_law_1864 (lv_at hl 1 rfl) ?_
                                                          refine lv_if_ne (tgt := 1881) hx hb dL_law_1866 (by decide) (fun hc678 => ?_) (fun hc678 => ?_)
                                                          · replace h := h.1 hc678
                                                            exact tA_L_law_b1881 C hml hst hX hbl hbA hret hk (fun kc ks x1 x2 x3 x4 x5 S hk h => ih kc ks x1 x2 x3 x4 x5 S hk h) h H locs ls hR hS (lv_sub (l' := [(0, .ref bb), (1, .ref x1), (2, .ref x2), (3, .ref x3), (4, .ref x4), (5, .int x5)]) hl [2, 3, 4, 5, 6, 7] rfl)
                                                          · replace h := h.2 hc678
                                                            refine lv_aload_n hx hb dL_law_1869 rfl (lv_at hl 5 rfl) ?_
                                                            refine lv_iconst (v := 0) hx hb dL_law_1870 (by decide) ?_
                                                            obtain ⟨hK_x3, h⟩ := h
                                                            obtain ⟨hi679, h⟩ := h
                                                            refine x_lald C hR hK_x3 hi679 dL_law_1871 ?_
                                                            refine lv_topl (fun j680 ej680 => ?_)
                                                            replace h := h j680 ej680
                                                            refine lv_iload hx hb dL_law_1872 (lv_at hl 0 rfl) ?_
                                                            refine lv_i2l hx hb dL_law_1874 rfl ?_
                                                            refine lv_topl (fun j681 ej681 => ?_)
                                                            replace h := h j681 ej681
                                                            refine W.lcmp hx hb dL_law_1875 ?_
                                                            refine lv_topi (fun x682 ex682 => ?_)
                                                            replace h := h x682 ex682
                                                            refine lv_if_eq (tgt := 1881) hx hb dL_law_1876 (by decide) (fun hc683 => ?_) (fun hc683 => ?_)
                                                            · replace h := h.1 hc683
                                                              exact tA_L_law_b1881 C hml hst hX hbl hbA hret hk (fun kc ks x1 x2 x3 x4 x5 S hk h => ih kc ks x1 x2 x3 x4 x5 S hk h) h H locs ls hR hS (lv_sub (l' := [(0, .ref bb), (1, .ref x1), (2, .ref x2), (3, .ref x3), (4, .ref x4), (5, .int x5)]) hl [2, 3, 4, 5, 6, 7] rfl)
                                                            · replace h := h.2 hc683
                                                              refine lv_iconst (v := 0) hx hb dL_law_1879 (by decide) ?_
                                                              exact h.elim
                                                        · replace h := h.2 hc677
                                                          refine lv_iconst (v := 0) hx hb dL_law_1862 (by decide) ?_
                                                          exact h.elim
                                                      · by_cases hc684 : x106 = 25
                                                        · have h := h.2.2.2.2.2.2.2.2.2.2.2.2.2.2.2.2.2.2.2.2.2.2.2.2.2.1 hc684
                                                          refine lv_tableIn (off := 1840) (tgt := 1884) hx hb dL_law_44 (by rw [hc684]; decide) (by rw [hc684]; decide) (by rw [hc684]; rfl) (by decide) ?_
                                                          refine lv_aload_n hx hb dL_law_1884 rfl (lv_at hl 1 rfl) ?_
                                                          refine lv_aload_n hx hb dL_law_1885 rfl (lv_at hl 0 rfl) ?_
                                                          refine lv_iload hx hb dL_law_1886 (lv_at hl 5 rfl) ?_
                                                          refine lv_iconst (v := 1) hx hb dL_law_1888 (by decide) ?_
                                                          refine lv_iadd hx hb dL_law_1889 ?_
                                                          refine lv_topi (fun x685 ex685 => ?_)
                                                          replace h := h x685 ex685
                                                          obtain ⟨hi686, h⟩ := h
                                                          refine va_sld hx hb hX hbl hbA hS hi686 dL_law_1890 ?_
                                                          refine lv_topi (fun x687 ex687 => ?_)
                                                          replace h := h x687 ex687
                                                          refine lv_aload_n hx hb dL_law_1891 rfl (lv_at hl 3 rfl) ?_
                                                          obtain ⟨c688, d689, hk1, hk2, h⟩ := h
                                                          refine x_ki (x_runSH (As := [.ref x1, .int x687, .ref x3]) (rest := []) C hml hR hS (mA_L_ripeIn l gg c688 d689 x1 x687 x3 S hst h) b_L_ripeIn q_41_0 rfl rfl ⟨Nat.le_of_ble_eq_true rfl, Nat.le_of_ble_eq_true rfl⟩ rfl hl.1 (Nat.le_of_ble_eq_true rfl) dL_law_1892 ⟨hk1, hk2⟩) hS (fun x691 S690 H locs hn hR hS => ?_)
                                                          replace h := hn
                                                          clear hn
                                                          have hk : (kc + c688) ≤ mc ∧ (ks + d689) ≤ ms := ⟨hk1, hk2⟩
                                                          refine lv_istore (lv' := [(6, .int x691), (0, .ref bb), (1, .ref x1), (2, .ref x2), (3, .ref x3), (4, .ref x4), (5, .int x5)]) hx hb dL_law_1895 hl (by decide) rfl (fun ls hl => ?_)
                                                          refine lv_aload_n hx hb dL_law_1897 rfl (lv_at hl 3 rfl) ?_
                                                          refine lv_aload_n hx hb dL_law_1898 rfl (lv_at hl 1 rfl) ?_
                                                          refine lv_iload hx hb dL_law_1899 (lv_at hl 6 rfl) ?_
                                                          refine lv_iconst (v := 1) hx hb dL_law_1901 (by decide) ?_
                                                          refine lv_iadd hx hb dL_law_1902 ?_
                                                          refine lv_topi (fun x692 ex692 => ?_)
                                                          replace h := h x692 ex692
                                                          obtain ⟨hi693, h⟩ := h
                                                          refine va_sld hx hb hX hbl hbA hS hi693 dL_law_1903 ?_
                                                          refine lv_topi (fun x694 ex694 => ?_)
                                                          replace h := h x694 ex694
                                                          obtain ⟨hK_x2, h⟩ := h
                                                          obtain ⟨c695, d696, hk1, hk2, h⟩ := h
                                                          refine x_ki (x_runV (As := [.int x694]) (rest := []) C hml hR hS (mA_X8_ripeIn l gg c695 d696 x2 x694 S690 h) b_X8_ripeIn q_41_11 (by rw [hK_x2]; decide) (s_E_9 hK_x2) rfl rfl rfl rfl ⟨Nat.le_of_ble_eq_true rfl, Nat.le_of_ble_eq_true rfl⟩ rfl hl.1 (Nat.le_of_ble_eq_true rfl) dL_law_1904 ⟨hk1, hk2⟩) hS (fun x698 S697 H locs hn hR hS => ?_)
                                                          replace h := hn
                                                          clear hn
                                                          have hk : ((kc + c688) + c695) ≤ mc ∧ ((ks + d689) + d696) ≤ ms := ⟨hk1, hk2⟩
                                                          refine lv_istore (lv' := [(7, .int x698), (6, .int x691), (0, .ref bb), (1, .ref x1), (2, .ref x2), (3, .ref x3), (4, .ref x4), (5, .int x5)]) hx hb dL_law_1907 hl (by decide) rfl (fun ls hl => ?_)
                                                          refine lv_aload_n hx hb dL_law_1909 rfl (lv_at hl 4 rfl) ?_
                                                          obtain ⟨hK_x2, h⟩ := h
                                                          refine x_ki (x_runV (As := []) (rest := []) C hml hR hS (m_X8_thrown l gg x2 S697 h) b_X8_thrown q_8_16 (by rw [hK_x2]; decide) (s_E_9 hK_x2) rfl rfl rfl rfl ⟨Nat.le_of_ble_eq_true rfl, Nat.le_of_ble_eq_true rfl⟩ rfl hl.1 (Nat.le_of_ble_eq_true rfl) dL_law_1910 ⟨hk.1, hk.2⟩) hS (fun x700 S699 H locs hn hR hS => ?_)
                                                          replace h := hn
                                                          clear hn
                                                          refine lv_iload hx hb dL_law_1913 (lv_at hl 1 rfl) ?_
                                                          refine lv_icmp_eq (tgt := 1920) hx hb dL_law_1915 (by decide) (fun hc701 => ?_) (fun hc701 => ?_)
                                                          · replace h := h.1 hc701
                                                            refine lv_iload hx hb dL_law_1920 (lv_at hl 1 rfl) ?_
                                                            refine lv_if_ne (tgt := 1937) hx hb dL_law_1922 (by decide) (fun hc702 => ?_) (fun hc702 => ?_)
                                                            · replace h := h.1 hc702
                                                              exact tA_L_law_b1937 C hml hst hX hbl hbA hret hk (fun kc ks x1 x2 x3 x4 x5 S hk h => ih kc ks x1 x2 x3 x4 x5 S hk h) h H locs ls hR hS (lv_sub (l' := [(0, .ref bb), (1, .ref x1), (2, .ref x2), (3, .ref x3), (4, .ref x4), (5, .int x5)]) hl [2, 3, 4, 5, 6, 7] rfl)
                                                            · replace h := h.2 hc702
                                                              refine lv_aload_n hx hb dL_law_1925 rfl (lv_at hl 5 rfl) ?_
                                                              refine lv_iconst (v := 0) hx hb dL_law_1926 (by decide) ?_
                                                              obtain ⟨hK_x3, h⟩ := h
                                                              obtain ⟨hi703, h⟩ := h
                                                              refine x_lald C hR hK_x3 hi703 dL_law_1927 ?_
                                                              refine lv_topl (fun j704 ej704 => ?_)
                                                              replace h := h j704 ej704
                                                              refine lv_iload hx hb dL_law_1928 (lv_at hl 0 rfl) ?_
                                                              refine lv_i2l hx hb dL_law_1930 rfl ?_
                                                              refine lv_topl (fun j705 ej705 => ?_)
                                                              replace h := h j705 ej705
                                                              refine W.lcmp hx hb dL_law_1931 ?_
                                                              refine lv_topi (fun x706 ex706 => ?_)
                                                              replace h := h x706 ex706
                                                              refine lv_if_eq (tgt := 1937) hx hb dL_law_1932 (by decide) (fun hc707 => ?_) (fun hc707 => ?_)
                                                              · replace h := h.1 hc707
                                                                exact tA_L_law_b1937 C hml hst hX hbl hbA hret hk (fun kc ks x1 x2 x3 x4 x5 S hk h => ih kc ks x1 x2 x3 x4 x5 S hk h) h H locs ls hR hS (lv_sub (l' := [(0, .ref bb), (1, .ref x1), (2, .ref x2), (3, .ref x3), (4, .ref x4), (5, .int x5)]) hl [2, 3, 4, 5, 6, 7] rfl)
                                                              · replace h := h.2 hc707
                                                                refine lv_iconst (v := 0) hx hb dL_law_1935 (by decide) ?_
                                                                exact h.elim
                                                          · replace h := h.2 hc701
                                                            refine lv_iconst (v := 0) hx hb dL_law_1918 (by decide) ?_
                                                            exact h.elim
                                                        · by_cases hc708 : x106 = 26
                                                          · have h := h.2.2.2.2.2.2.2.2.2.2.2.2.2.2.2.2.2.2.2.2.2.2.2.2.2.2.1 hc708
                                                            refine lv_tableIn (off := 1896) (tgt := 1940) hx hb dL_law_44 (by rw [hc708]; decide) (by rw [hc708]; decide) (by rw [hc708]; rfl) (by decide) ?_
                                                            refine lv_aload_n hx hb dL_law_1940 rfl (lv_at hl 1 rfl) ?_
                                                            refine lv_aload_n hx hb dL_law_1941 rfl (lv_at hl 0 rfl) ?_
                                                            refine lv_iload hx hb dL_law_1942 (lv_at hl 5 rfl) ?_
                                                            refine lv_iconst (v := 1) hx hb dL_law_1944 (by decide) ?_
                                                            refine lv_iadd hx hb dL_law_1945 ?_
                                                            refine lv_topi (fun x709 ex709 => ?_)
                                                            replace h := h x709 ex709
                                                            obtain ⟨hi710, h⟩ := h
                                                            refine va_sld hx hb hX hbl hbA hS hi710 dL_law_1946 ?_
                                                            refine lv_topi (fun x711 ex711 => ?_)
                                                            replace h := h x711 ex711
                                                            refine lv_aload_n hx hb dL_law_1947 rfl (lv_at hl 0 rfl) ?_
                                                            refine lv_iload hx hb dL_law_1948 (lv_at hl 5 rfl) ?_
                                                            refine lv_iconst (v := 2) hx hb dL_law_1950 (by decide) ?_
                                                            refine lv_iadd hx hb dL_law_1951 ?_
                                                            refine lv_topi (fun x712 ex712 => ?_)
                                                            replace h := h x712 ex712
                                                            obtain ⟨hi713, h⟩ := h
                                                            refine va_sld hx hb hX hbl hbA hS hi713 dL_law_1952 ?_
                                                            refine lv_topi (fun x714 ex714 => ?_)
                                                            replace h := h x714 ex714
                                                            refine lv_aload_n hx hb dL_law_1953 rfl (lv_at hl 3 rfl) ?_
                                                            obtain ⟨c715, d716, hk1, hk2, h⟩ := h
                                                            refine x_ki (x_runSH (As := [.ref x1, .int x711, .int x714, .ref x3]) (rest := []) C hml hR hS (mA_L_plan l gg c715 d716 x1 x711 x714 x3 S hst h) b_L_plan q_41_23 rfl rfl ⟨Nat.le_of_ble_eq_true rfl, Nat.le_of_ble_eq_true rfl⟩ rfl hl.1 (Nat.le_of_ble_eq_true rfl) dL_law_1954 ⟨hk1, hk2⟩) hS (fun x718 S717 H locs hn hR hS => ?_)
                                                            replace h := hn
                                                            clear hn
                                                            have hk : (kc + c715) ≤ mc ∧ (ks + d716) ≤ ms := ⟨hk1, hk2⟩
                                                            refine lv_istore (lv' := [(6, .int x718), (0, .ref bb), (1, .ref x1), (2, .ref x2), (3, .ref x3), (4, .ref x4), (5, .int x5)]) hx hb dL_law_1957 hl (by decide) rfl (fun ls hl => ?_)
                                                            refine lv_aload_n hx hb dL_law_1959 rfl (lv_at hl 3 rfl) ?_
                                                            refine lv_aload_n hx hb dL_law_1960 rfl (lv_at hl 1 rfl) ?_
                                                            refine lv_iload hx hb dL_law_1961 (lv_at hl 6 rfl) ?_
                                                            refine lv_iconst (v := 1) hx hb dL_law_1963 (by decide) ?_
                                                            refine lv_iadd hx hb dL_law_1964 ?_
                                                            refine lv_topi (fun x719 ex719 => ?_)
                                                            replace h := h x719 ex719
                                                            obtain ⟨hi720, h⟩ := h
                                                            refine va_sld hx hb hX hbl hbA hS hi720 dL_law_1965 ?_
                                                            refine lv_topi (fun x721 ex721 => ?_)
                                                            replace h := h x721 ex721
                                                            refine lv_aload_n hx hb dL_law_1966 rfl (lv_at hl 1 rfl) ?_
                                                            refine lv_iload hx hb dL_law_1967 (lv_at hl 6 rfl) ?_
                                                            refine lv_iconst (v := 2) hx hb dL_law_1969 (by decide) ?_
                                                            refine lv_iadd hx hb dL_law_1970 ?_
                                                            refine lv_topi (fun x722 ex722 => ?_)
                                                            replace h := h x722 ex722
                                                            obtain ⟨hi723, h⟩ := h
                                                            refine va_sld hx hb hX hbl hbA hS hi723 dL_law_1971 ?_
                                                            refine lv_topi (fun x724 ex724 => ?_)
                                                            replace h := h x724 ex724
                                                            obtain ⟨hK_x2, h⟩ := h
                                                            obtain ⟨c725, d726, hk1, hk2, h⟩ := h
                                                            refine x_ki (x_runV (As := [.int x721, .int x724]) (rest := []) C hml hR hS (mA_X8_plan l gg c725 d726 x2 x721 x724 S717 h) b_X8_plan q_43_2 (by rw [hK_x2]; decide) (s_E_9 hK_x2) rfl rfl rfl rfl ⟨Nat.le_of_ble_eq_true rfl, Nat.le_of_ble_eq_true rfl⟩ rfl hl.1 (Nat.le_of_ble_eq_true rfl) dL_law_1972 ⟨hk1, hk2⟩) hS (fun x728 S727 H locs hn hR hS => ?_)
                                                            replace h := hn
                                                            clear hn
                                                            have hk : ((kc + c715) + c725) ≤ mc ∧ ((ks + d716) + d726) ≤ ms := ⟨hk1, hk2⟩
                                                            refine lv_istore (lv' := [(7, .int x728), (6, .int x718), (0, .ref bb), (1, .ref x1), (2, .ref x2), (3, .ref x3), (4, .ref x4), (5, .int x5)]) hx hb dL_law_1975 hl (by decide) rfl (fun ls hl => ?_)
                                                            refine lv_aload_n hx hb dL_law_1977 rfl (lv_at hl 4 rfl) ?_
                                                            obtain ⟨hK_x2, h⟩ := h
                                                            refine x_ki (x_runV (As := []) (rest := []) C hml hR hS (m_X8_thrown l gg x2 S727 h) b_X8_thrown q_8_16 (by rw [hK_x2]; decide) (s_E_9 hK_x2) rfl rfl rfl rfl ⟨Nat.le_of_ble_eq_true rfl, Nat.le_of_ble_eq_true rfl⟩ rfl hl.1 (Nat.le_of_ble_eq_true rfl) dL_law_1978 ⟨hk.1, hk.2⟩) hS (fun x730 S729 H locs hn hR hS => ?_)
                                                            replace h := hn
                                                            clear hn
                                                            refine lv_iload hx hb dL_law_1981 (lv_at hl 1 rfl) ?_
                                                            refine lv_icmp_eq (tgt := 1988) hx hb dL_law_1983 (by decide) (fun hc731 => ?_) (fun hc731 => ?_)
                                                            · replace h := h.1 hc731
                                                              refine lv_iload hx hb dL_law_1988 (lv_at hl 1 rfl) ?_
                                                              refine lv_if_ne (tgt := 2005) hx hb dL_law_1990 (by decide) (fun hc732 => ?_) (fun hc732 => ?_)
                                                              · replace h := h.1 hc732
                                                                exact tA_L_law_b2005 C hml hst hX hbl hbA hret hk (fun kc ks x1 x2 x3 x4 x5 S hk h => ih kc ks x1 x2 x3 x4 x5 S hk h) h H locs ls hR hS (lv_sub (l' := [(0, .ref bb), (1, .ref x1), (2, .ref x2), (3, .ref x3), (4, .ref x4), (5, .int x5)]) hl [2, 3, 4, 5, 6, 7] rfl)
                                                              · replace h := h.2 hc732
                                                                refine lv_aload_n hx hb dL_law_1993 rfl (lv_at hl 5 rfl) ?_
                                                                refine lv_iconst (v := 0) hx hb dL_law_1994 (by decide) ?_
                                                                obtain ⟨hK_x3, h⟩ := h
                                                                obtain ⟨hi733, h⟩ := h
                                                                refine x_lald C hR hK_x3 hi733 dL_law_1995 ?_
                                                                refine lv_topl (fun j734 ej734 => ?_)
                                                                replace h := h j734 ej734
                                                                refine lv_iload hx hb dL_law_1996 (lv_at hl 0 rfl) ?_
                                                                refine lv_i2l hx hb dL_law_1998 rfl ?_
                                                                refine lv_topl (fun j735 ej735 => ?_)
                                                                replace h := h j735 ej735
                                                                refine W.lcmp hx hb dL_law_1999 ?_
                                                                refine lv_topi (fun x736 ex736 => ?_)
                                                                replace h := h x736 ex736
                                                                refine lv_if_eq (tgt := 2005) hx hb dL_law_2000 (by decide) (fun hc737 => ?_) (fun hc737 => ?_)
                                                                · replace h := h.1 hc737
                                                                  exact tA_L_law_b2005 C hml hst hX hbl hbA hret hk (fun kc ks x1 x2 x3 x4 x5 S hk h => ih kc ks x1 x2 x3 x4 x5 S hk h) h H locs ls hR hS (lv_sub (l' := [(0, .ref bb), (1, .ref x1), (2, .ref x2), (3, .ref x3), (4, .ref x4), (5, .int x5)]) hl [2, 3, 4, 5, 6, 7] rfl)
                                                                · replace h := h.2 hc737
                                                                  refine lv_iconst (v := 0) hx hb dL_law_2003 (by decide) ?_
                                                                  exact h.elim
                                                            · replace h := h.2 hc731
                                                              refine lv_iconst (v := 0) hx hb dL_law_1986 (by decide) ?_
                                                              exact h.elim
                                                          · by_cases hc738 : x106 = 27
                                                            · have h := h.2.2.2.2.2.2.2.2.2.2.2.2.2.2.2.2.2.2.2.2.2.2.2.2.2.2.2.1 hc738
                                                              refine lv_tableIn (off := 1964) (tgt := 2008) hx hb dL_law_44 (by rw [hc738]; decide) (by rw [hc738]; decide) (by rw [hc738]; rfl) (by decide) ?_
                                                              refine lv_aload_n hx hb dL_law_2008 rfl (lv_at hl 1 rfl) ?_
                                                              obtain ⟨hK_x1, h⟩ := h
                                                              refine x_kl (x_runV (As := []) (rest := []) C hml hR hS (m_X6_digest l gg x1 S h) b_X6_digest q_43_17 (by rw [hK_x1]; decide) (s_E_7 hK_x1) rfl rfl rfl rfl ⟨Nat.le_of_ble_eq_true rfl, Nat.le_of_ble_eq_true rfl⟩ rfl hl.1 (Nat.le_of_ble_eq_true rfl) dL_law_2009 ⟨hk.1, hk.2⟩) hS (fun j740 S739 H locs hn hR hS => ?_)
                                                              replace h := hn
                                                              clear hn
                                                              refine lv_aload_n hx hb dL_law_2012 rfl (lv_at hl 2 rfl) ?_
                                                              obtain ⟨hK_x2, h⟩ := h
                                                              obtain ⟨c741, d742, hk1, hk2, h⟩ := h
                                                              refine x_kl (x_runV (As := []) (rest := [.long j740]) C hml hR hS (mA_X8_digest l gg c741 d742 x2 S739 h) b_X8_digest q_44_17 (by rw [hK_x2]; decide) (s_E_9 hK_x2) rfl rfl rfl rfl ⟨Nat.le_of_ble_eq_true rfl, Nat.le_of_ble_eq_true rfl⟩ rfl hl.1 (Nat.le_of_ble_eq_true rfl) dL_law_2013 ⟨hk1, hk2⟩) hS (fun j744 S743 H locs hn hR hS => ?_)
                                                              replace h := hn
                                                              clear hn
                                                              have hk : (kc + c741) ≤ mc ∧ (ks + d742) ≤ ms := ⟨hk1, hk2⟩
                                                              refine W.lcmp hx hb dL_law_2016 ?_
                                                              refine lv_topi (fun x745 ex745 => ?_)
                                                              replace h := h x745 ex745
                                                              refine lv_if_eq (tgt := 2022) hx hb dL_law_2017 (by decide) (fun hc746 => ?_) (fun hc746 => ?_)
                                                              · replace h := h.1 hc746
                                                                exact tA_L_law_b2022 C hml hst hX hbl hbA hret hk (fun kc ks x1 x2 x3 x4 x5 S hk h => ih kc ks x1 x2 x3 x4 x5 S hk h) h H locs ls hR hS (lv_sub (l' := [(0, .ref bb), (1, .ref x1), (2, .ref x2), (3, .ref x3), (4, .ref x4), (5, .int x5)]) hl [0, 1, 2, 3, 4, 5] rfl)
                                                              · replace h := h.2 hc746
                                                                refine lv_iconst (v := 0) hx hb dL_law_2020 (by decide) ?_
                                                                exact h.elim
                                                            · have h := h.2.2.2.2.2.2.2.2.2.2.2.2.2.2.2.2.2.2.2.2.2.2.2.2.2.2.2.2 ⟨hc107, hc149, hc185, hc193, hc221, hc229, hc251, hc279, hc307, hc315, hc323, hc345, hc379, hc401, hc429, hc451, hc479, hc509, hc539, hc563, hc571, hc579, hc603, hc632, hc654, hc684, hc708, hc738⟩
                                                              refine lv_tableOut (tgt := 2022) hx hb dL_law_44 (x_tout 0 27 (fun q1 q2 => ?_)) (by decide) ?_
                                                              · rcases (show x106.toInt = 0 ∨ x106.toInt = 1 ∨ x106.toInt = 2 ∨ x106.toInt = 3 ∨ x106.toInt = 4 ∨ x106.toInt = 5 ∨ x106.toInt = 6 ∨ x106.toInt = 7 ∨ x106.toInt = 8 ∨ x106.toInt = 9 ∨ x106.toInt = 10 ∨ x106.toInt = 11 ∨ x106.toInt = 12 ∨ x106.toInt = 13 ∨ x106.toInt = 14 ∨ x106.toInt = 15 ∨ x106.toInt = 16 ∨ x106.toInt = 17 ∨ x106.toInt = 18 ∨ x106.toInt = 19 ∨ x106.toInt = 20 ∨ x106.toInt = 21 ∨ x106.toInt = 22 ∨ x106.toInt = 23 ∨ x106.toInt = 24 ∨ x106.toInt = 25 ∨ x106.toInt = 26 ∨ x106.toInt = 27 by omega) with z | z | z | z | z | z | z | z | z | z | z | z | z | z | z | z | z | z | z | z | z | z | z | z | z | z | z | z
                                                                · exact hc107 (x_ti z (by decide))
                                                                · exact hc149 (x_ti z (by decide))
                                                                · exact hc185 (x_ti z (by decide))
                                                                · exact hc193 (x_ti z (by decide))
                                                                · exact hc221 (x_ti z (by decide))
                                                                · exact hc229 (x_ti z (by decide))
                                                                · exact hc251 (x_ti z (by decide))
                                                                · exact hc279 (x_ti z (by decide))
                                                                · exact hc307 (x_ti z (by decide))
                                                                · exact hc315 (x_ti z (by decide))
                                                                · exact hc323 (x_ti z (by decide))
                                                                · exact hc345 (x_ti z (by decide))
                                                                · exact hc379 (x_ti z (by decide))
                                                                · exact hc401 (x_ti z (by decide))
                                                                · exact hc429 (x_ti z (by decide))
                                                                · exact hc451 (x_ti z (by decide))
                                                                · exact hc479 (x_ti z (by decide))
                                                                · exact hc509 (x_ti z (by decide))
                                                                · exact hc539 (x_ti z (by decide))
                                                                · exact hc563 (x_ti z (by decide))
                                                                · exact hc571 (x_ti z (by decide))
                                                                · exact hc579 (x_ti z (by decide))
                                                                · exact hc603 (x_ti z (by decide))
                                                                · exact hc632 (x_ti z (by decide))
                                                                · exact hc654 (x_ti z (by decide))
                                                                · exact hc684 (x_ti z (by decide))
                                                                · exact hc708 (x_ti z (by decide))
                                                                · exact hc738 (x_ti z (by decide))
                                                              exact tA_L_law_b2022 C hml hst hX hbl hbA hret hk (fun kc ks x1 x2 x3 x4 x5 S hk h => ih kc ks x1 x2 x3 x4 x5 S hk h) h H locs ls hR hS (lv_sub (l' := [(0, .ref bb), (1, .ref x1), (2, .ref x2), (3, .ref x3), (4, .ref x4), (5, .int x5)]) hl [0, 1, 2, 3, 4, 5] rfl)
set_option maxHeartbeats 4000000 in
theorem tA_L_law_b0 {sc : Nat × (Nat → Int32)} {mc ms : Nat} (C : x_C p s m args c cL_law RL gg) (hml : c.maxLocals = 9) (hst : l.stackTraces = false) (hX : va_X bb sc.1 sc.2 s s.heap) (hbl : bb < s.heap.size) (hbA : ¬ s_A gg bb) (hret : ∀ (pc : Nat) (H : Heap) (ls : Array Slot) (locs : List Loc), decode cL_law pc = .ok (.ireturn, 1) → (∀ q ∈ locs, s_A gg q.base) → W p l e (rA_L_law mc ms) s m args below meth c H locs mc ms QQ (F0 m pc ls [.int 1])) {kc ks : Nat} (hk : kc ≤ mc ∧ ks ≤ ms)   {S : sT}  (h : wA_L_law_b0 mc ms kc ks  S  sc) : x_X p l e (rA_L_law mc ms) s m args below meth c gg 9 kc ks QQ 0 [(0, .ref bb)] [] S := by
  unfold wA_L_law_b0 at h
  obtain ⟨hx, hb, -⟩ := id C
  intro H locs ls hR hS hl
  obtain ⟨hk1, hk2, h⟩ := h
  refine x_nw_7 (a := 0) C hR hS q_1_0 q_1_1 q_1_2 hk1 hk2 dL_law_0 (fun q101 H hq9 hq hR hS => ?_)
  replace h := h q101 hq
  have hk : (kc + 1) ≤ mc ∧ (ks + 2) ≤ ms := ⟨hk1, hk2⟩
  obtain ⟨S102, eS102⟩ : ∃ z : sT, z = s_nw S q101 8 0 := ⟨_, rfl⟩
  rw [← eS102] at hR
  replace h := h S102 eS102
  have hK_q101 : s_K S102 q101 = 8 := by rw [eS102]; exact s_nw_K
  refine lv_dup hx hb dL_law_3 rfl ?_
  obtain ⟨c103, d104, hk1, hk2, h⟩ := h
  refine x_kv (x_runI (As := []) (rest := [.ref q101]) C hml hR hS (mA_X6_init l gg c103 d104 q101 S102 h) b_X6_init q_1_8 rfl rfl ⟨Nat.le_of_ble_eq_true rfl, Nat.le_of_ble_eq_true rfl⟩ rfl hl.1 (Nat.le_of_ble_eq_true rfl) dL_law_4 ⟨hk1, hk2⟩) hS (fun S105 H locs hn hR hS => ?_)
  replace h := hn
  clear hn
  have hk : ((kc + 1) + c103) ≤ mc ∧ ((ks + 2) + d104) ≤ ms := ⟨hk1, hk2⟩
  refine lv_astore_n (lv' := [(1, .ref q101), (0, .ref bb)]) hx hb dL_law_7 rfl hl (by decide) rfl (fun ls hl => ?_)
  obtain ⟨hk1, hk2, h⟩ := h
  refine x_nw_9 (a := 0) C hR hS q_1_3 q_1_4 q_1_5 hk1 hk2 dL_law_8 (fun q106 H hq9 hq hR hS => ?_)
  replace h := h q106 hq
  have hk : (((kc + 1) + c103) + 1) ≤ mc ∧ (((ks + 2) + d104) + 3) ≤ ms := ⟨hk1, hk2⟩
  obtain ⟨S107, eS107⟩ : ∃ z : sT, z = s_nw S105 q106 10 0 := ⟨_, rfl⟩
  rw [← eS107] at hR
  replace h := h S107 eS107
  have hK_q106 : s_K S107 q106 = 10 := by rw [eS107]; exact s_nw_K
  refine lv_dup hx hb dL_law_11 rfl ?_
  obtain ⟨c108, d109, hk1, hk2, h⟩ := h
  refine x_kv (x_runI (As := []) (rest := [.ref q106]) C hml hR hS (mA_X8_init l gg c108 d109 q106 S107 h) b_X8_init q_3_1 rfl rfl ⟨Nat.le_of_ble_eq_true rfl, Nat.le_of_ble_eq_true rfl⟩ rfl hl.1 (Nat.le_of_ble_eq_true rfl) dL_law_12 ⟨hk1, hk2⟩) hS (fun S110 H locs hn hR hS => ?_)
  replace h := hn
  clear hn
  have hk : ((((kc + 1) + c103) + 1) + c108) ≤ mc ∧ ((((ks + 2) + d104) + 3) + d109) ≤ ms := ⟨hk1, hk2⟩
  refine lv_astore_n (lv' := [(2, .ref q106), (1, .ref q101), (0, .ref bb)]) hx hb dL_law_15 rfl hl (by decide) rfl (fun ls hl => ?_)
  refine lv_iconst (v := 1) hx hb dL_law_16 (by decide) ?_
  obtain ⟨hk1, hk2, h⟩ := h
  refine x_newl (N1 := 1) C hR hS q_1_6 (by decide) (by decide) (by decide) hk1 hk2 dL_law_17 (fun q111 H hq9 hq hR hS => ?_)
  replace h := h q111 hq
  have hk : (((((kc + 1) + c103) + 1) + c108) + 1) ≤ mc ∧ (((((ks + 2) + d104) + 3) + d109) + 1) ≤ ms := ⟨hk1, hk2⟩
  obtain ⟨S112, eS112⟩ : ∃ z : sT, z = s_nw S110 q111 14 1 := ⟨_, rfl⟩
  rw [← eS112] at hR
  replace h := h S112 eS112
  have hK_q111 : s_K S112 q111 = 14 := by rw [eS112]; exact s_nw_K
  refine lv_astore_n (lv' := [(3, .ref q111), (2, .ref q106), (1, .ref q101), (0, .ref bb)]) hx hb dL_law_19 rfl hl (by decide) rfl (fun ls hl => ?_)
  refine lv_iconst (v := 1) hx hb dL_law_20 (by decide) ?_
  obtain ⟨hk1, hk2, h⟩ := h
  refine x_newd (N1 := 1) C hR hS q_1_7 (by decide) (by decide) (by decide) hk1 hk2 dL_law_21 (fun q113 H hq9 hq hR hS => ?_)
  replace h := h q113 hq
  have hk : ((((((kc + 1) + c103) + 1) + c108) + 1) + 1) ≤ mc ∧ ((((((ks + 2) + d104) + 3) + d109) + 1) + 1) ≤ ms := ⟨hk1, hk2⟩
  obtain ⟨S114, eS114⟩ : ∃ z : sT, z = s_nw S112 q113 15 1 := ⟨_, rfl⟩
  rw [← eS114] at hR
  replace h := h S114 eS114
  have hK_q113 : s_K S114 q113 = 15 := by rw [eS114]; exact s_nw_K
  refine lv_astore (lv' := [(4, .ref q113), (3, .ref q111), (2, .ref q106), (1, .ref q101), (0, .ref bb)]) hx hb dL_law_23 hl (by decide) rfl (fun ls hl => ?_)
  refine lv_iconst (v := 0) hx hb dL_law_25 (by decide) ?_
  refine lv_istore (lv' := [(5, .int (0 : Int32)), (4, .ref q113), (3, .ref q111), (2, .ref q106), (1, .ref q101), (0, .ref bb)]) hx hb dL_law_26 hl (by decide) rfl (fun ls hl => ?_)
  obtain ⟨n9, h⟩ := h
  exact tA_L_law_b28 C hml hst hX hbl hbA hret  n9 ((((((kc + 1) + c103) + 1) + c108) + 1) + 1) ((((((ks + 2) + d104) + 3) + d109) + 1) + 1) q101 q106 q111 q113 (0 : Int32) S114 hk h H locs ls hR hS (lv_sub (l' := [(0, .ref bb), (1, .ref q101), (2, .ref q106), (3, .ref q111), (4, .ref q113), (5, .int (0 : Int32))]) hl [5, 4, 3, 2, 1, 0] rfl)
end
