section
variable {p : Program} {l : Launch} {e : Env} {s : State} {m : MethodId} {args : Array Value} {below : List Frame} {meth : Method} {c : Code} {gg : sG}
variable {bb : Nat} {QQ : State → Prop}
def wA_L_law_b1023 (mc ms kc ks : Nat) (y0 : Int32) (S : sT)  (sc : Nat × (Nat → Int32)) : Prop :=
y0 = 1 ∧
    True
def wA_L_law_b1022 (mc ms kc ks : Nat)  (S : sT)  (sc : Nat × (Nat → Int32)) : Prop :=
wA_L_law_b1023 mc ms kc ks (0 : Int32) S  sc
def wA_L_law_b981 (mc ms kc ks : Nat)  (S : sT)  (sc : Nat × (Nat → Int32)) : Prop :=
False
def wA_L_law_b944 (mc ms kc ks : Nat) (x1 : Nat) (x2 : Int32) (x3 : Int32) (x4 : Nat) (x5 : Nat) (x6 : Int32) (x7 : Int32) (x8 : Int32) (x12 : Int32) (x13 : Int32) (S : sT) (kk242 : Nat → Nat → Nat → Int32 → Int32 → Nat → Nat → Int32 → Int32 → Int32 → sT → Prop) (kk887 : Nat → Nat → Nat → Int32 → Int32 → Nat → Nat → Int32 → Int32 → Int32 → Int32 → sT → Prop) (sc : Nat × (Nat → Int32)) : Prop :=
s_K S x5 = 11 ∧
    vp_in x12 (s_N S x5) ∧
    ∀ S102 : sT, S102 = s_sB S x5 (Int32.toNatClampNeg x12) x13 →
    ∀ x103 : Int32, x103 = x12 + 1 →
    kk887 kc ks x1 x2 x3 x4 x5 x6 x7 x8 x103 S102
def wA_L_law_b942 (mc ms kc ks : Nat)  (S : sT)  (sc : Nat × (Nat → Int32)) : Prop :=
False
def wA_L_law_b917 (mc ms kc ks : Nat) (x1 : Nat) (x2 : Int32) (x3 : Int32) (x4 : Nat) (x5 : Nat) (x6 : Int32) (x7 : Int32) (x8 : Int32) (x12 : Int32) (x13 : Int32) (S : sT) (kk242 : Nat → Nat → Nat → Int32 → Int32 → Nat → Nat → Int32 → Int32 → Int32 → sT → Prop) (kk887 : Nat → Nat → Nat → Int32 → Int32 → Nat → Nat → Int32 → Int32 → Int32 → Int32 → sT → Prop) (sc : Nat × (Nat → Int32)) : Prop :=
s_K S x5 = 11 ∧
    vp_in x12 (s_N S x5) ∧
    ∀ x102 : Int32, x102 = s_B S x5 (Int32.toNatClampNeg x12) →
    ((x13 ≤ x102 → wA_L_law_b944 mc ms kc ks x1 x2 x3 x4 x5 x6 x7 x8 x12 x13 S kk242 kk887 sc) ∧
    (¬ x13 ≤ x102 → vp_in x12 (s_N S x5) ∧
    ∀ x105 : Int32, x105 = s_B S x5 (Int32.toNatClampNeg x12) →
    (((2 : Int32) ≤ x105 → wA_L_law_b944 mc ms kc ks x1 x2 x3 x4 x5 x6 x7 x8 x12 x13 S kk242 kk887 sc) ∧
    (¬ (2 : Int32) ≤ x105 → ((x13 ≤ (2 : Int32) → wA_L_law_b944 mc ms kc ks x1 x2 x3 x4 x5 x6 x7 x8 x12 x13 S kk242 kk887 sc) ∧
    (¬ x13 ≤ (2 : Int32) → wA_L_law_b942 mc ms kc ks  S  sc))))))
def wA_L_law_b887 (mc ms : Nat) (kk242 : Nat → Nat → Nat → Int32 → Int32 → Nat → Nat → Int32 → Int32 → Int32 → sT → Prop) (sc : Nat × (Nat → Int32)) : Nat → Nat → Nat → Nat → Int32 → Int32 → Nat → Nat → Int32 → Int32 → Int32 → Int32 → sT → Prop
  | 0 => fun _ _ _ _ _ _ _ _ _ _ _ _ => False
  | n + 1 => fun kc ks x1 x2 x3 x4 x5 x6 x7 x8 x12 S =>
((x3 ≤ x12 → w_L_isSo x1 x2 x3 x4 x6 S (fun x103 S102 =>
    ((x103 = 0 → wA_L_law_b981 mc ms kc ks  S102  sc) ∧
    (¬ x103 = 0 → s_K S102 x1 = 8 ∧
    w_X6_many x1 (10 : Int32) S102 (fun x106 S105 =>
    ((x106 = x7 → ∀ x108 : Int32, x108 = x8 + 1 →
    kk242 kc ks x1 x2 x3 x4 x5 x6 x7 x108 S105) ∧
    (¬ x106 = x7 → wA_L_law_b981 mc ms kc ks  S105  sc))))))) ∧
    (¬ x3 ≤ x12 → s_K S x1 = 8 ∧
    w_X6_ofField x1 x12 (4 : Int32) S (fun x110 S109 =>
    s_K S109 x5 = 11 ∧
    vp_in x12 (s_N S109 x5) ∧
    ∀ x112 : Int32, x112 = s_B S109 x5 (Int32.toNatClampNeg x12) →
    ((x112 ≤ x110 → wA_L_law_b917 mc ms kc ks x1 x2 x3 x4 x5 x6 x7 x8 x12 x110 S109 kk242 (fun kc ks x1 x2 x3 x4 x5 x6 x7 x8 x12 S => wA_L_law_b887 mc ms kk242 sc n kc ks x1 x2 x3 x4 x5 x6 x7 x8 x12 S) sc) ∧
    (¬ x112 ≤ x110 → ((0 < x110 → wA_L_law_b942 mc ms kc ks  S109  sc) ∧
    (¬ 0 < x110 → wA_L_law_b917 mc ms kc ks x1 x2 x3 x4 x5 x6 x7 x8 x12 x110 S109 kk242 (fun kc ks x1 x2 x3 x4 x5 x6 x7 x8 x12 S => wA_L_law_b887 mc ms kk242 sc n kc ks x1 x2 x3 x4 x5 x6 x7 x8 x12 S) sc)))))))
def wA_L_law_b884 (mc ms kc ks : Nat) (x1 : Nat) (x2 : Int32) (x3 : Int32) (x4 : Nat) (x5 : Nat) (x6 : Int32) (x7 : Int32) (x8 : Int32) (S : sT) (kk242 : Nat → Nat → Nat → Int32 → Int32 → Nat → Nat → Int32 → Int32 → Int32 → sT → Prop) (sc : Nat × (Nat → Int32)) : Prop :=
∃ n9 : Nat, wA_L_law_b887 mc ms kk242 sc n9 kc ks x1 x2 x3 x4 x5 x6 x7 x8 (0 : Int32) S
def wA_L_law_b621 (mc ms kc ks : Nat) (x1 : Nat) (x2 : Int32) (x3 : Int32) (x4 : Nat) (x5 : Nat) (x6 : Int32) (x7 : Int32) (x8 : Int32) (x9 : Int32) (x10 : Int32) (S : sT) (kk242 : Nat → Nat → Nat → Int32 → Int32 → Nat → Nat → Int32 → Int32 → Int32 → sT → Prop) (sc : Nat × (Nat → Int32)) : Prop :=
∀ x101 : Int32, x101 = x9 >>> ((6 : Int32) &&& 31) →
    w_L_below x101 x3 S (fun x103 S102 =>
    s_K S102 x1 = 8 ∧
    w_X6_help x1 x103 x10 S102 (fun x105 S104 =>
    s_K S104 x1 = 8 ∧
    w_X6_ofField x1 x10 (4 : Int32) S104 (fun x107 S106 =>
    ((¬ x107 = (1 : Int32) → wA_L_law_b884 mc ms kc ks x1 x2 x3 x4 x5 x6 x7 x8 S106 kk242 sc) ∧
    (x107 = (1 : Int32) → s_K S106 x1 = 8 ∧
    w_X6_many x1 (4 : Int32) S106 (fun x110 S109 =>
    ((¬ x110 = 0 → wA_L_law_b884 mc ms kc ks x1 x2 x3 x4 x5 x6 x7 x8 S109 kk242 sc) ∧
    (x110 = 0 → s_K S109 x1 = 8 ∧
    w_X6_ofField x1 x10 (11 : Int32) S109 (fun x113 S112 =>
    ((x113 < (3 : Int32) → wA_L_law_b884 mc ms kc ks x1 x2 x3 x4 x5 x6 x7 x8 S112 kk242 sc) ∧
    (¬ x113 < (3 : Int32) → ∀ x115 : Int32, x115 = x9 >>> ((6 : Int32) &&& 31) →
    w_L_below x115 (3 : Int32) S112 (fun x117 S116 =>
    s_K S116 x1 = 8 ∧
    w_X6_plant x1 x10 x117 S116 (fun x119 S118 =>
    wA_L_law_b884 mc ms kc ks x1 x2 x3 x4 x5 x6 x7 x8 S118 kk242 sc)))))))))))))
def wA_L_law_b592 (mc ms kc ks : Nat) (x1 : Nat) (x2 : Int32) (x3 : Int32) (x4 : Nat) (x5 : Nat) (x6 : Int32) (x7 : Int32) (x8 : Int32) (x9 : Int32) (x10 : Int32) (S : sT) (kk242 : Nat → Nat → Nat → Int32 → Int32 → Nat → Nat → Int32 → Int32 → Int32 → sT → Prop) (sc : Nat × (Nat → Int32)) : Prop :=
s_K S x1 = 8 ∧
    w_X6_ofField x1 x10 (4 : Int32) S (fun x102 S101 =>
    ((¬ x102 = 0 → wA_L_law_b621 mc ms kc ks x1 x2 x3 x4 x5 x6 x7 x8 x9 x10 S101 kk242 sc) ∧
    (x102 = 0 → s_K S101 x1 = 8 ∧
    w_X6_ofField x1 x10 (1 : Int32) S101 (fun x105 S104 =>
    ((x105 < (10 : Int32) → wA_L_law_b621 mc ms kc ks x1 x2 x3 x4 x5 x6 x7 x8 x9 x10 S104 kk242 sc) ∧
    (¬ x105 < (10 : Int32) → s_K S104 x1 = 8 ∧
    w_X6_puddle x1 x10 S104 (fun x108 S107 =>
    wA_L_law_b621 mc ms kc ks x1 x2 x3 x4 x5 x6 x7 x8 x9 x10 S107 kk242 sc)))))))
def wA_L_law_b769 (mc ms kc ks : Nat)  (S : sT)  (sc : Nat × (Nat → Int32)) : Prop :=
False
def wA_L_law_b813 (mc ms kc ks : Nat) (x1 : Nat) (x2 : Int32) (x3 : Int32) (x4 : Nat) (x5 : Nat) (x6 : Int32) (x7 : Int32) (x8 : Int32) (x12 : Int32) (y0 : Int32) (y1 : Int32) (y2 : Nat) (S : sT) (kk242 : Nat → Nat → Nat → Int32 → Int32 → Nat → Nat → Int32 → Int32 → Int32 → sT → Prop) (sc : Nat × (Nat → Int32)) : Prop :=
s_K S y2 = 8 ∧
    w_X6_harvest y2 y1 y0 S (fun x102 S101 =>
    ((x102 = x12 → wA_L_law_b884 mc ms kc ks x1 x2 x3 x4 x5 x6 x7 x8 S101 kk242 sc) ∧
    (¬ x102 = x12 → False)))
def wA_L_law_b687 (mc ms kc ks : Nat) (x1 : Nat) (x2 : Int32) (x3 : Int32) (x4 : Nat) (x5 : Nat) (x6 : Int32) (x7 : Int32) (x8 : Int32) (x9 : Int32) (x10 : Int32) (S : sT) (kk242 : Nat → Nat → Nat → Int32 → Int32 → Nat → Nat → Int32 → Int32 → Int32 → sT → Prop) (sc : Nat × (Nat → Int32)) : Prop :=
s_K S x1 = 8 ∧
    w_X6_ofField x1 x10 (4 : Int32) S (fun x102 S101 =>
    (((5 : Int32) ≤ x102 → s_K S101 x1 = 8 ∧
    w_X6_ofField x1 x10 (10 : Int32) S101 (fun x105 S104 =>
    s_K S104 x1 = 8 ∧
    w_X6_cut x1 x10 S104 (fun x107 S106 =>
    ∀ x108 : Int32, x108 = x105 * (110 : Int32) →
    ∀ x109 : Int32, x109 = x108 / (100 : Int32) →
    ((x109 < x107 → wA_L_law_b769 mc ms kc ks  S106  sc) ∧
    (¬ x109 < x107 → ∀ x111 : Int32, x111 = x105 * (90 : Int32) →
    ∀ x112 : Int32, x112 = x111 / (100 : Int32) →
    ((x107 < x112 → wA_L_law_b769 mc ms kc ks  S106  sc) ∧
    (¬ x107 < x112 → s_K S106 x1 = 8 ∧
    w_X6_thought x1 x10 (0 : Int32) S106 (fun x115 S114 =>
    ((x105 < x115 → wA_L_law_b769 mc ms kc ks  S114  sc) ∧
    (¬ x105 < x115 → s_K S114 x1 = 8 ∧
    w_X6_thought x1 x10 (1 : Int32) S114 (fun x118 S117 =>
    ((x105 ≤ x118 → ∀ x120 : Int32, x120 = x9 >>> ((6 : Int32) &&& 31) →
    w_L_below x120 (2 : Int32) S117 (fun x122 S121 =>
    ((¬ x122 = 0 → ∀ x124 : Int32, x124 = x7 + x105 →
    ∀ x125 : Int32, x125 = x9 >>> ((7 : Int32) &&& 31) →
    w_L_below x125 (2 : Int32) S121 (fun x127 S126 =>
    ((¬ x127 = 0 → wA_L_law_b813 mc ms kc ks x1 x2 x3 x4 x5 x6 x124 x8 x105 (0 : Int32) x10 x1 S126 kk242 sc) ∧
    (x127 = 0 → wA_L_law_b813 mc ms kc ks x1 x2 x3 x4 x5 x6 x124 x8 x105 (1 : Int32) x10 x1 S126 kk242 sc)))) ∧
    (x122 = 0 → wA_L_law_b884 mc ms kc ks x1 x2 x3 x4 x5 x6 x7 x8 S121 kk242 sc)))) ∧
    (¬ x105 ≤ x118 → wA_L_law_b769 mc ms kc ks  S117  sc))))))))))))) ∧
    (¬ (5 : Int32) ≤ x102 → wA_L_law_b884 mc ms kc ks x1 x2 x3 x4 x5 x6 x7 x8 S101 kk242 sc)))
def wA_L_law_b435 (mc ms kc ks : Nat)  (S : sT)  (sc : Nat × (Nat → Int32)) : Prop :=
False
def wA_L_law_b432 (mc ms kc ks : Nat) (x1 : Nat) (x2 : Int32) (x3 : Int32) (x4 : Nat) (x5 : Nat) (x6 : Int32) (x7 : Int32) (x8 : Int32) (y0 : Int32) (y1 : Int32) (S : sT) (kk242 : Nat → Nat → Nat → Int32 → Int32 → Nat → Nat → Int32 → Int32 → Int32 → sT → Prop) (sc : Nat × (Nat → Int32)) : Prop :=
((y1 = y0 → wA_L_law_b884 mc ms kc ks x1 x2 x3 x4 x5 x6 x7 x8 S kk242 sc) ∧
    (¬ y1 = y0 → wA_L_law_b435 mc ms kc ks  S  sc))
def wA_L_law_b399 (mc ms kc ks : Nat) (x1 : Nat) (x2 : Int32) (x3 : Int32) (x4 : Nat) (x5 : Nat) (x6 : Int32) (x7 : Int32) (x8 : Int32) (x9 : Int32) (x10 : Int32) (x12 : Int32) (y0 : Int32) (y1 : Int32) (y2 : Nat) (S : sT) (kk242 : Nat → Nat → Nat → Int32 → Int32 → Nat → Nat → Int32 → Int32 → Int32 → sT → Prop) (sc : Nat × (Nat → Int32)) : Prop :=
s_K S y2 = 8 ∧
    w_X6_gate y2 y1 y0 S (fun x102 S101 =>
    ((¬ x102 = x12 → wA_L_law_b435 mc ms kc ks  S101  sc) ∧
    (x102 = x12 → s_K S101 x1 = 8 ∧
    w_X6_ofField x1 x10 (13 : Int32) S101 (fun x105 S104 =>
    ∀ x106 : Int32, x106 = x9 >>> ((6 : Int32) &&& 31) →
    w_L_below x106 (3 : Int32) S104 (fun x108 S107 =>
    ((x108 ≤ 0 → wA_L_law_b432 mc ms kc ks x1 x2 x3 x4 x5 x6 x7 x8 (0 : Int32) x105 S107 kk242 sc) ∧
    (¬ x108 ≤ 0 → wA_L_law_b432 mc ms kc ks x1 x2 x3 x4 x5 x6 x7 x8 (1 : Int32) x105 S107 kk242 sc)))))))
def wA_L_law_b377 (mc ms kc ks : Nat) (x1 : Nat) (x2 : Int32) (x3 : Int32) (x4 : Nat) (x5 : Nat) (x6 : Int32) (x7 : Int32) (x8 : Int32) (x9 : Int32) (x10 : Int32) (y0 : Int32) (S : sT) (kk242 : Nat → Nat → Nat → Int32 → Int32 → Nat → Nat → Int32 → Int32 → Int32 → sT → Prop) (sc : Nat × (Nat → Int32)) : Prop :=
∀ x101 : Int32, x101 = x9 >>> ((6 : Int32) &&& 31) →
    w_L_below x101 (3 : Int32) S (fun x103 S102 =>
    ((x103 ≤ 0 → wA_L_law_b399 mc ms kc ks x1 x2 x3 x4 x5 x6 x7 x8 x9 x10 y0 (0 : Int32) x10 x1 S102 kk242 sc) ∧
    (¬ x103 ≤ 0 → wA_L_law_b399 mc ms kc ks x1 x2 x3 x4 x5 x6 x7 x8 x9 x10 y0 (1 : Int32) x10 x1 S102 kk242 sc)))
def wA_L_law_b552 (mc ms kc ks : Nat)  (S : sT)  (sc : Nat × (Nat → Int32)) : Prop :=
False
def wA_L_law_b478 (mc ms kc ks : Nat) (x1 : Nat) (x2 : Int32) (x3 : Int32) (x4 : Nat) (x5 : Nat) (x6 : Int32) (x7 : Int32) (x8 : Int32) (y0 : Int32) (y1 : Int32) (y2 : Nat) (S : sT) (kk242 : Nat → Nat → Nat → Int32 → Int32 → Nat → Nat → Int32 → Int32 → Int32 → sT → Prop) (sc : Nat × (Nat → Int32)) : Prop :=
s_K S y2 = 8 ∧
    w_X6_rotate y2 y1 y0 S (fun x102 S101 =>
    wA_L_law_b884 mc ms kc ks x1 x2 x3 x4 x5 x6 x7 x8 S101 kk242 sc)
def wA_L_law_b518 (mc ms kc ks : Nat) (x1 : Nat) (x2 : Int32) (x3 : Int32) (x4 : Nat) (x5 : Nat) (x6 : Int32) (x7 : Int32) (x8 : Int32) (y0 : Int32) (y1 : Int32) (y2 : Nat) (S : sT) (kk242 : Nat → Nat → Nat → Int32 → Int32 → Nat → Nat → Int32 → Int32 → Int32 → sT → Prop) (sc : Nat × (Nat → Int32)) : Prop :=
s_K S y2 = 8 ∧
    w_X6_ducks y2 y1 y0 S (fun x102 S101 =>
    wA_L_law_b884 mc ms kc ks x1 x2 x3 x4 x5 x6 x7 x8 S101 kk242 sc)
def wA_L_law_b871 (mc ms kc ks : Nat) (x1 : Nat) (x2 : Int32) (x3 : Int32) (x4 : Nat) (x5 : Nat) (x6 : Int32) (x7 : Int32) (x8 : Int32) (y0 : Int32) (y1 : Int32) (y2 : Int32) (y3 : Nat) (S : sT) (kk242 : Nat → Nat → Nat → Int32 → Int32 → Nat → Nat → Int32 → Int32 → Int32 → sT → Prop) (sc : Nat × (Nat → Int32)) : Prop :=
s_K S y3 = 8 ∧
    w_X6_day y3 y2 y1 y0 S (fun x102 S101 =>
    s_K S101 x1 = 8 ∧
    w_X6_many x1 (2 : Int32) S101 (fun x104 S103 =>
    ((x102 = x104 → wA_L_law_b884 mc ms kc ks x1 x2 x3 x4 x5 x6 x7 x8 S103 kk242 sc) ∧
    (¬ x102 = x104 → False))))
def wA_L_law_b242 (mc ms : Nat)  (sc : Nat × (Nat → Int32)) : Nat → Nat → Nat → Nat → Int32 → Int32 → Nat → Nat → Int32 → Int32 → Int32 → sT → Prop
  | 0 => fun _ _ _ _ _ _ _ _ _ _ _ => False
  | n + 1 => fun kc ks x1 x2 x3 x4 x5 x6 x7 x8 S =>
(((76 : Int32) ≤ x8 → s_K S x1 = 8 ∧
    w_X6_digest x1 S (fun j103 S102 =>
    w_L_isSo x1 x2 x3 x4 x6 S102 (fun x105 S104 =>
    ((x105 = 0 → wA_L_law_b1022 mc ms kc ks  S104  sc) ∧
    (¬ x105 = 0 → s_K S104 x1 = 8 ∧
    w_X6_digest x1 S104 (fun j108 S107 =>
    ∀ x109 : Int32, x109 = lg_cmp j108 j103 →
    ((¬ x109 = 0 → wA_L_law_b1022 mc ms kc ks  S107  sc) ∧
    (x109 = 0 → wA_L_law_b1023 mc ms kc ks (1 : Int32) S107  sc)))))))) ∧
    (¬ (76 : Int32) ≤ x8 → ∀ x111 : Int32, x111 = x8 - x8 / (20 : Int32) * (20 : Int32) →
    ∀ x112 : Int32, x112 = (9 : Int32) + x111 →
    w_L_cell sc x112 S (fun x114 S113 =>
    ∀ x115 : Int32, x115 = x8 / (20 : Int32) →
    ∀ x116 : Int32, x116 = x115 * (3 : Int32) →
    ∀ x117 : Int32, x117 = x114 >>> (x116 &&& 31) →
    ∀ x118 : Int32, x118 = x117 >>> ((4 : Int32) &&& 31) →
    w_L_below x118 x3 S113 (fun x120 S119 =>
    ∀ x121 : Int32, x121 = x117 >>> ((5 : Int32) &&& 31) →
    w_L_below x121 x2 S119 (fun x123 S122 =>
    w_L_below x117 (16 : Int32) S122 (fun x125 S124 =>
    ((x125 = 0 → s_K S124 x1 = 8 ∧
    w_X6_ofField x1 x120 (13 : Int32) S124 (fun x128 S127 =>
    ((¬ x128 = (1 : Int32) → wA_L_law_b377 mc ms kc ks x1 x2 x3 x4 x5 x6 x7 x8 x117 x120 (0 : Int32) S127 (fun kc ks x1 x2 x3 x4 x5 x6 x7 x8 S => wA_L_law_b242 mc ms  sc n kc ks x1 x2 x3 x4 x5 x6 x7 x8 S) sc) ∧
    (x128 = (1 : Int32) → wA_L_law_b377 mc ms kc ks x1 x2 x3 x4 x5 x6 x7 x8 x117 x120 (1 : Int32) S127 (fun kc ks x1 x2 x3 x4 x5 x6 x7 x8 S => wA_L_law_b242 mc ms  sc n kc ks x1 x2 x3 x4 x5 x6 x7 x8 S) sc)))) ∧
    (x125 = 1 → ∀ x131 : Int32, x131 = x117 >>> ((6 : Int32) &&& 31) →
    w_L_below x131 (6 : Int32) S124 (fun x133 S132 =>
    s_K S132 x1 = 8 ∧
    w_X6_stones x1 x120 x133 S132 (fun x135 S134 =>
    ((0 ≤ x135 → wA_L_law_b884 mc ms kc ks x1 x2 x3 x4 x5 x6 x7 x8 S134 (fun kc ks x1 x2 x3 x4 x5 x6 x7 x8 S => wA_L_law_b242 mc ms  sc n kc ks x1 x2 x3 x4 x5 x6 x7 x8 S) sc) ∧
    (¬ 0 ≤ x135 → False))))) ∧
    (x125 = 2 → ∀ x138 : Int32, x138 = x117 >>> ((6 : Int32) &&& 31) →
    w_L_below x138 (2 : Int32) S124 (fun x140 S139 =>
    ((¬ x140 = 0 → wA_L_law_b478 mc ms kc ks x1 x2 x3 x4 x5 x6 x7 x8 (0 : Int32) x123 x1 S139 (fun kc ks x1 x2 x3 x4 x5 x6 x7 x8 S => wA_L_law_b242 mc ms  sc n kc ks x1 x2 x3 x4 x5 x6 x7 x8 S) sc) ∧
    (x140 = 0 → wA_L_law_b478 mc ms kc ks x1 x2 x3 x4 x5 x6 x7 x8 (1 : Int32) x123 x1 S139 (fun kc ks x1 x2 x3 x4 x5 x6 x7 x8 S => wA_L_law_b242 mc ms  sc n kc ks x1 x2 x3 x4 x5 x6 x7 x8 S) sc)))) ∧
    (x125 = 3 → s_K S124 x1 = 8 ∧
    w_X6_inspect x1 x123 S124 (fun x144 S143 =>
    ∀ x145 : Int32, x145 = x144 - x144 / (5 : Int32) * (5 : Int32) →
    ((x145 = 0 → wA_L_law_b884 mc ms kc ks x1 x2 x3 x4 x5 x6 x7 x8 S143 (fun kc ks x1 x2 x3 x4 x5 x6 x7 x8 S => wA_L_law_b242 mc ms  sc n kc ks x1 x2 x3 x4 x5 x6 x7 x8 S) sc) ∧
    (¬ x145 = 0 → False)))) ∧
    (x125 = 4 → ∀ x148 : Int32, x148 = x117 >>> ((6 : Int32) &&& 31) →
    w_L_below x148 (2 : Int32) S124 (fun x150 S149 =>
    ((¬ x150 = 0 → wA_L_law_b518 mc ms kc ks x1 x2 x3 x4 x5 x6 x7 x8 (0 : Int32) x120 x1 S149 (fun kc ks x1 x2 x3 x4 x5 x6 x7 x8 S => wA_L_law_b242 mc ms  sc n kc ks x1 x2 x3 x4 x5 x6 x7 x8 S) sc) ∧
    (x150 = 0 → wA_L_law_b518 mc ms kc ks x1 x2 x3 x4 x5 x6 x7 x8 (1 : Int32) x120 x1 S149 (fun kc ks x1 x2 x3 x4 x5 x6 x7 x8 S => wA_L_law_b242 mc ms  sc n kc ks x1 x2 x3 x4 x5 x6 x7 x8 S) sc)))) ∧
    (x125 = 5 → s_K S124 x1 = 8 ∧
    w_X6_vote x1 x123 S124 (fun x154 S153 =>
    s_K S153 x1 = 8 ∧
    w_X6_ofSociety x1 x123 (6 : Int32) S153 (fun x156 S155 =>
    ((x156 < x154 → wA_L_law_b552 mc ms kc ks  S155  sc) ∧
    (¬ x156 < x154 → s_K S155 x1 = 8 ∧
    w_X6_ofSociety x1 x123 (5 : Int32) S155 (fun x159 S158 =>
    ((x159 = 0 → wA_L_law_b884 mc ms kc ks x1 x2 x3 x4 x5 x6 x7 x8 S158 (fun kc ks x1 x2 x3 x4 x5 x6 x7 x8 S => wA_L_law_b242 mc ms  sc n kc ks x1 x2 x3 x4 x5 x6 x7 x8 S) sc) ∧
    (¬ x159 = 0 → wA_L_law_b552 mc ms kc ks  S158  sc)))))))) ∧
    (x125 = 6 → s_K S124 x1 = 8 ∧
    w_X6_ofOwner x1 x120 (2 : Int32) S124 (fun x163 S162 =>
    ((¬ x163 = 0 → s_K S162 x1 = 8 ∧
    w_X6_sell x1 x120 (1 : Int32) S162 (fun x166 S165 =>
    s_K S165 x1 = 8 ∧
    w_X6_ofOwner x1 x120 (0 : Int32) S165 (fun x168 S167 =>
    ((x166 = x168 → ∀ x170 : Int32, x170 = x6 + 1 →
    wA_L_law_b884 mc ms kc ks x1 x2 x3 x4 x5 x170 x7 x8 S167 (fun kc ks x1 x2 x3 x4 x5 x6 x7 x8 S => wA_L_law_b242 mc ms  sc n kc ks x1 x2 x3 x4 x5 x6 x7 x8 S) sc) ∧
    (¬ x166 = x168 → False))))) ∧
    (x163 = 0 → wA_L_law_b884 mc ms kc ks x1 x2 x3 x4 x5 x6 x7 x8 S162 (fun kc ks x1 x2 x3 x4 x5 x6 x7 x8 S => wA_L_law_b242 mc ms  sc n kc ks x1 x2 x3 x4 x5 x6 x7 x8 S) sc)))) ∧
    (x125 = 7 → wA_L_law_b592 mc ms kc ks x1 x2 x3 x4 x5 x6 x7 x8 x117 x120 S124 (fun kc ks x1 x2 x3 x4 x5 x6 x7 x8 S => wA_L_law_b242 mc ms  sc n kc ks x1 x2 x3 x4 x5 x6 x7 x8 S) sc) ∧
    (x125 = 8 → wA_L_law_b592 mc ms kc ks x1 x2 x3 x4 x5 x6 x7 x8 x117 x120 S124 (fun kc ks x1 x2 x3 x4 x5 x6 x7 x8 S => wA_L_law_b242 mc ms  sc n kc ks x1 x2 x3 x4 x5 x6 x7 x8 S) sc) ∧
    (x125 = 9 → wA_L_law_b592 mc ms kc ks x1 x2 x3 x4 x5 x6 x7 x8 x117 x120 S124 (fun kc ks x1 x2 x3 x4 x5 x6 x7 x8 S => wA_L_law_b242 mc ms  sc n kc ks x1 x2 x3 x4 x5 x6 x7 x8 S) sc) ∧
    (x125 = 10 → wA_L_law_b687 mc ms kc ks x1 x2 x3 x4 x5 x6 x7 x8 x117 x120 S124 (fun kc ks x1 x2 x3 x4 x5 x6 x7 x8 S => wA_L_law_b242 mc ms  sc n kc ks x1 x2 x3 x4 x5 x6 x7 x8 S) sc) ∧
    (x125 = 11 → wA_L_law_b687 mc ms kc ks x1 x2 x3 x4 x5 x6 x7 x8 x117 x120 S124 (fun kc ks x1 x2 x3 x4 x5 x6 x7 x8 S => wA_L_law_b242 mc ms  sc n kc ks x1 x2 x3 x4 x5 x6 x7 x8 S) sc) ∧
    ((¬ x125 = 0 ∧ ¬ x125 = 1 ∧ ¬ x125 = 2 ∧ ¬ x125 = 3 ∧ ¬ x125 = 4 ∧ ¬ x125 = 5 ∧ ¬ x125 = 6 ∧ ¬ x125 = 7 ∧ ¬ x125 = 8 ∧ ¬ x125 = 9 ∧ ¬ x125 = 10 ∧ ¬ x125 = 11) → ∀ x176 : Int32, x176 = x117 >>> ((3 : Int32) &&& 31) →
    w_L_below x176 (201 : Int32) S124 (fun x178 S177 =>
    ∀ x179 : Int32, x179 = x117 >>> ((5 : Int32) &&& 31) →
    w_L_below x179 (36 : Int32) S177 (fun x181 S180 =>
    ∀ x182 : Int32, x182 = (5 : Int32) + x181 →
    ∀ x183 : Int32, x183 = x117 >>> ((7 : Int32) &&& 31) →
    w_L_below x183 (4 : Int32) S180 (fun x185 S184 =>
    ((¬ x185 = 0 → wA_L_law_b871 mc ms kc ks x1 x2 x3 x4 x5 x6 x7 x8 (0 : Int32) x182 x178 x1 S184 (fun kc ks x1 x2 x3 x4 x5 x6 x7 x8 S => wA_L_law_b242 mc ms  sc n kc ks x1 x2 x3 x4 x5 x6 x7 x8 S) sc) ∧
    (x185 = 0 → ∀ x187 : Int32, x187 = x117 >>> ((6 : Int32) &&& 31) →
    w_L_below x187 (31 : Int32) S184 (fun x189 S188 =>
    wA_L_law_b871 mc ms kc ks x1 x2 x3 x4 x5 x6 x7 x8 x189 x182 x178 x1 S188 (fun kc ks x1 x2 x3 x4 x5 x6 x7 x8 S => wA_L_law_b242 mc ms  sc n kc ks x1 x2 x3 x4 x5 x6 x7 x8 S) sc))))))))))))))
def wA_L_law_b227 (mc ms kc ks : Nat) (x1 : Nat) (x2 : Int32) (x3 : Int32) (x4 : Nat) (x5 : Nat) (x6 : Int32) (S : sT) (kk132 : Nat → Nat → Nat → Int32 → Int32 → Nat → Nat → Int32 → sT → Prop) (sc : Nat × (Nat → Int32)) : Prop :=
∀ x101 : Int32, x101 = x6 + 1 →
    kk132 kc ks x1 x2 x3 x4 x5 x101 S
def wA_L_law_b132 (mc ms : Nat)  (sc : Nat × (Nat → Int32)) : Nat → Nat → Nat → Nat → Int32 → Int32 → Nat → Nat → Int32 → sT → Prop
  | 0 => fun _ _ _ _ _ _ _ _ _ => False
  | n + 1 => fun kc ks x1 x2 x3 x4 x5 x6 S =>
((x3 ≤ x6 → ∃ n9 : Nat, wA_L_law_b242 mc ms  sc n9 kc ks x1 x2 x3 x4 x5 (0 : Int32) (0 : Int32) (0 : Int32) S) ∧
    (¬ x3 ≤ x6 → w_L_cell sc (5 : Int32) S (fun x103 S102 =>
    ∀ x104 : Int32, x104 = x103 >>> (x6 &&& 31) →
    w_L_below x104 (56 : Int32) S102 (fun x106 S105 =>
    ∀ x107 : Int32, x107 = (5 : Int32) + x106 →
    s_K S105 x4 = 11 ∧
    vp_in x6 (s_N S105 x4) ∧
    ∀ S109 : sT, S109 = s_sB S105 x4 (Int32.toNatClampNeg x6) x107 →
    w_L_cell sc (6 : Int32) S109 (fun x111 S110 =>
    ∀ x112 : Int32, x112 = x111 >>> (x6 &&& 31) →
    w_L_below x112 x2 S110 (fun x114 S113 =>
    w_L_cell sc (7 : Int32) S113 (fun x116 S115 =>
    ∀ x117 : Int32, x117 = x116 >>> (x6 &&& 31) →
    w_L_below x117 (9 : Int32) S115 (fun x119 S118 =>
    ∀ x120 : Int32, x120 = (1 : Int32) + x119 →
    s_K S118 x4 = 11 ∧
    vp_in x6 (s_N S118 x4) ∧
    ∀ x122 : Int32, x122 = s_B S118 x4 (Int32.toNatClampNeg x6) →
    s_K S118 x1 = 8 ∧
    ∃ c123 d124 : Nat, kc + c123 ≤ mc ∧ ks + d124 ≤ ms ∧
    wA_X6_field c123 d124 x1 x114 x120 x122 S118 (fun x126 S125 =>
    ((x126 = x6 → w_L_cell sc (8 : Int32) S125 (fun x129 S128 =>
    ∀ x130 : Int32, x130 = x129 >>> (x6 &&& 31) →
    w_L_below x130 (4 : Int32) S128 (fun x132 S131 =>
    ((x132 ≤ 0 → wA_L_law_b227 mc ms (kc + c123) (ks + d124) x1 x2 x3 x4 x5 x6 S131 (fun kc ks x1 x2 x3 x4 x5 x6 S => wA_L_law_b132 mc ms  sc n kc ks x1 x2 x3 x4 x5 x6 S) sc) ∧
    (¬ x132 ≤ 0 → s_K S131 x1 = 8 ∧
    w_X6_gate x1 x6 (1 : Int32) S131 (fun x135 S134 =>
    wA_L_law_b227 mc ms (kc + c123) (ks + d124) x1 x2 x3 x4 x5 x6 S134 (fun kc ks x1 x2 x3 x4 x5 x6 S => wA_L_law_b132 mc ms  sc n kc ks x1 x2 x3 x4 x5 x6 S) sc)))))) ∧
    (¬ x126 = x6 → False)))))))))))
def wA_L_law_b22 (mc ms : Nat)  (sc : Nat × (Nat → Int32)) : Nat → Nat → Nat → Nat → Int32 → Int32 → sT → Prop
  | 0 => fun _ _ _ _ _ _ => False
  | n + 1 => fun kc ks x1 x2 x3 S =>
((x2 ≤ x3 → w_L_cell sc (4 : Int32) S (fun x103 S102 =>
    w_L_below x103 (9 : Int32) S102 (fun x105 S104 =>
    ∀ x106 : Int32, x106 = (1 : Int32) + x105 →
    (kc + 1) ≤ mc ∧ (ks + 9) ≤ ms ∧
    ∀ q107 : Nat, s_fr S104 q107 →
    ∀ S108 : sT, S108 = s_nw S104 q107 11 9 →
    ((kc + 1) + 1) ≤ mc ∧ ((ks + 9) + 9) ≤ ms ∧
    ∀ q109 : Nat, s_fr S108 q109 →
    ∀ S110 : sT, S110 = s_nw S108 q109 11 9 →
    ∃ n9 : Nat, wA_L_law_b132 mc ms  sc n9 ((kc + 1) + 1) ((ks + 9) + 9) x1 x2 x106 q107 q109 (0 : Int32) S110))) ∧
    (¬ x2 ≤ x3 → w_L_cell sc (1 : Int32) S (fun x112 S111 =>
    ∀ x113 : Int32, x113 = (3 : Int32) * x3 →
    ∀ x114 : Int32, x114 = x112 >>> (x113 &&& 31) →
    w_L_below x114 (9 : Int32) S111 (fun x116 S115 =>
    ∀ x117 : Int32, x117 = (1 : Int32) + x116 →
    w_L_cell sc (2 : Int32) S115 (fun x119 S118 =>
    ∀ x120 : Int32, x120 = (3 : Int32) * x3 →
    ∀ x121 : Int32, x121 = x119 >>> (x120 &&& 31) →
    w_L_below x121 (51 : Int32) S118 (fun x123 S122 =>
    w_L_cell sc (3 : Int32) S122 (fun x125 S124 =>
    ∀ x126 : Int32, x126 = x125 >>> (x3 &&& 31) →
    w_L_below x126 (210 : Int32) S124 (fun x128 S127 =>
    w_L_cell sc (3 : Int32) S127 (fun x130 S129 =>
    ∀ x131 : Int32, x131 = (3 : Int32) + x3 →
    ∀ x132 : Int32, x132 = x130 >>> (x131 &&& 31) →
    w_L_below x132 (151 : Int32) S129 (fun x134 S133 =>
    ∀ x135 : Int32, x135 = (60 : Int32) + x134 →
    s_K S133 x1 = 8 ∧
    ∃ c136 d137 : Nat, kc + c136 ≤ mc ∧ ks + d137 ≤ ms ∧
    wA_X6_society c136 d137 x1 x117 x123 x128 x135 S133 (fun x139 S138 =>
    ((x139 = x3 → ∀ x141 : Int32, x141 = x3 + 1 →
    wA_L_law_b22 mc ms  sc n (kc + c136) (ks + d137) x1 x2 x141 S138) ∧
    (¬ x139 = x3 → False)))))))))))))
def wA_L_law_b0 (mc ms kc ks : Nat)  (S : sT)  (sc : Nat × (Nat → Int32)) : Prop :=
(kc + 1) ≤ mc ∧ (ks + 2) ≤ ms ∧
    ∀ q101 : Nat, s_fr S q101 →
    ∀ S102 : sT, S102 = s_nw S q101 8 0 →
    ∃ c103 d104 : Nat, (kc + 1) + c103 ≤ mc ∧ (ks + 2) + d104 ≤ ms ∧
    wA_X6_init c103 d104 q101 S102 (fun S105 =>
    w_L_cell sc (0 : Int32) S105 (fun x107 S106 =>
    w_L_below x107 (3 : Int32) S106 (fun x109 S108 =>
    ∀ x110 : Int32, x110 = (1 : Int32) + x109 →
    ∃ n9 : Nat, wA_L_law_b22 mc ms  sc n9 ((kc + 1) + c103) ((ks + 2) + d104) q101 x110 (0 : Int32) S108)))
def rA_L_law (mc ms : Nat) : Room := x_rm 13 490 mc ms
set_option maxHeartbeats 4000000 in
theorem tA_L_law_b1023 {sc : Nat × (Nat → Int32)} {mc ms : Nat} (C : x_C p s m args c cL_law RL gg) (hml : c.maxLocals = 14) (hst : l.stackTraces = false) (hX : va_X bb sc.1 sc.2 s s.heap) (hbl : bb < s.heap.size) (hbA : ¬ s_A gg bb) (hret : ∀ (pc : Nat) (H : Heap) (ls : Array Slot) (locs : List Loc), decode cL_law pc = .ok (.ireturn, 1) → (∀ q ∈ locs, s_A gg q.base) → W p l e (rA_L_law mc ms) s m args below meth c H locs mc ms QQ (F0 m pc ls [.int 1])) {kc ks : Nat} (hk : kc ≤ mc ∧ ks ≤ ms) {y0 : Int32}  {S : sT}  (h : wA_L_law_b1023 mc ms kc ks y0 S  sc) : x_X p l e (rA_L_law mc ms) s m args below meth c gg 14 kc ks QQ 1023 [] [.int y0] S := by
  unfold wA_L_law_b1023 at h
  obtain ⟨hx, hb, -⟩ := id C
  intro H locs ls hR hS hl
  obtain ⟨e9, h⟩ := h
  subst e9
  exact W.widen (k := mc) (n := ms) hk.1 hk.2 (hret _ _ _ _ dL_law_1023 hS.2.2)
set_option maxHeartbeats 4000000 in
theorem tA_L_law_b1022 {sc : Nat × (Nat → Int32)} {mc ms : Nat} (C : x_C p s m args c cL_law RL gg) (hml : c.maxLocals = 14) (hst : l.stackTraces = false) (hX : va_X bb sc.1 sc.2 s s.heap) (hbl : bb < s.heap.size) (hbA : ¬ s_A gg bb) (hret : ∀ (pc : Nat) (H : Heap) (ls : Array Slot) (locs : List Loc), decode cL_law pc = .ok (.ireturn, 1) → (∀ q ∈ locs, s_A gg q.base) → W p l e (rA_L_law mc ms) s m args below meth c H locs mc ms QQ (F0 m pc ls [.int 1])) {kc ks : Nat} (hk : kc ≤ mc ∧ ks ≤ ms)   {S : sT}  (h : wA_L_law_b1022 mc ms kc ks  S  sc) : x_X p l e (rA_L_law mc ms) s m args below meth c gg 14 kc ks QQ 1022 [] [] S := by
  unfold wA_L_law_b1022 at h
  obtain ⟨hx, hb, -⟩ := id C
  intro H locs ls hR hS hl
  refine lv_iconst (v := 0) hx hb dL_law_1022 (by decide) ?_
  exact tA_L_law_b1023 C hml hst hX hbl hbA hret hk  h H locs ls hR hS (lv_sub (l' := []) hl [] rfl)
set_option maxHeartbeats 4000000 in
theorem tA_L_law_b981 {sc : Nat × (Nat → Int32)} {mc ms : Nat} (C : x_C p s m args c cL_law RL gg) (hml : c.maxLocals = 14) (hst : l.stackTraces = false) (hX : va_X bb sc.1 sc.2 s s.heap) (hbl : bb < s.heap.size) (hbA : ¬ s_A gg bb) (hret : ∀ (pc : Nat) (H : Heap) (ls : Array Slot) (locs : List Loc), decode cL_law pc = .ok (.ireturn, 1) → (∀ q ∈ locs, s_A gg q.base) → W p l e (rA_L_law mc ms) s m args below meth c H locs mc ms QQ (F0 m pc ls [.int 1])) {kc ks : Nat} (hk : kc ≤ mc ∧ ks ≤ ms)   {S : sT}  (h : wA_L_law_b981 mc ms kc ks  S  sc) : x_X p l e (rA_L_law mc ms) s m args below meth c gg 14 kc ks QQ 981 [] [] S := by
  unfold wA_L_law_b981 at h
  obtain ⟨hx, hb, -⟩ := id C
  intro H locs ls hR hS hl
  refine lv_iconst (v := 0) hx hb dL_law_981 (by decide) ?_
  exact h.elim
set_option maxHeartbeats 4000000 in
theorem tA_L_law_b944 {sc : Nat × (Nat → Int32)} {mc ms : Nat} (C : x_C p s m args c cL_law RL gg) (hml : c.maxLocals = 14) (hst : l.stackTraces = false) (hX : va_X bb sc.1 sc.2 s s.heap) (hbl : bb < s.heap.size) (hbA : ¬ s_A gg bb) (hret : ∀ (pc : Nat) (H : Heap) (ls : Array Slot) (locs : List Loc), decode cL_law pc = .ok (.ireturn, 1) → (∀ q ∈ locs, s_A gg q.base) → W p l e (rA_L_law mc ms) s m args below meth c H locs mc ms QQ (F0 m pc ls [.int 1])) {kc ks : Nat} (hk : kc ≤ mc ∧ ks ≤ ms) {x1 : Nat} {x2 : Int32} {x3 : Int32} {x4 : Nat} {x5 : Nat} {x6 : Int32} {x7 : Int32} {x8 : Int32} {x12 : Int32} {x13 : Int32} {kk242 : Nat → Nat → Nat → Int32 → Int32 → Nat → Nat → Int32 → Int32 → Int32 → sT → Prop} {kk887 : Nat → Nat → Nat → Int32 → Int32 → Nat → Nat → Int32 → Int32 → Int32 → Int32 → sT → Prop} {S : sT} (hk242 : ∀ (kc ks : Nat) (x1 : Nat) (x2 : Int32) (x3 : Int32) (x4 : Nat) (x5 : Nat) (x6 : Int32) (x7 : Int32) (x8 : Int32) (S : sT), kc ≤ mc ∧ ks ≤ ms → kk242 kc ks x1 x2 x3 x4 x5 x6 x7 x8 S → x_X p l e (rA_L_law mc ms) s m args below meth c gg 14 kc ks QQ 242 [(0, .ref bb), (1, .ref x1), (2, .int x2), (3, .int x3), (4, .ref x4), (5, .ref x5), (6, .int x6), (7, .int x7), (8, .int x8)] [] S) (hk887 : ∀ (kc ks : Nat) (x1 : Nat) (x2 : Int32) (x3 : Int32) (x4 : Nat) (x5 : Nat) (x6 : Int32) (x7 : Int32) (x8 : Int32) (x12 : Int32) (S : sT), kc ≤ mc ∧ ks ≤ ms → kk887 kc ks x1 x2 x3 x4 x5 x6 x7 x8 x12 S → x_X p l e (rA_L_law mc ms) s m args below meth c gg 14 kc ks QQ 887 [(0, .ref bb), (1, .ref x1), (2, .int x2), (3, .int x3), (4, .ref x4), (5, .ref x5), (6, .int x6), (7, .int x7), (8, .int x8), (12, .int x12)] [] S) (h : wA_L_law_b944 mc ms kc ks x1 x2 x3 x4 x5 x6 x7 x8 x12 x13 S kk242 kk887 sc) : x_X p l e (rA_L_law mc ms) s m args below meth c gg 14 kc ks QQ 944 [(0, .ref bb), (1, .ref x1), (2, .int x2), (3, .int x3), (4, .ref x4), (5, .ref x5), (6, .int x6), (7, .int x7), (8, .int x8), (12, .int x12), (13, .int x13)] [] S := by
  unfold wA_L_law_b944 at h
  obtain ⟨hx, hb, -⟩ := id C
  intro H locs ls hR hS hl
  refine lv_aload hx hb dL_law_944 (lv_at hl 5 rfl) ?_
  refine lv_iload hx hb dL_law_946 (lv_at hl 9 rfl) ?_
  refine lv_iload hx hb dL_law_948 (lv_at hl 10 rfl) ?_
  obtain ⟨hK_x5, h⟩ := h
  obtain ⟨hi101, h⟩ := h
  refine x_iast C hR hK_x5 hS hi101 dL_law_950 (fun H locs hR hS => ?_)
  obtain ⟨S102, eS102⟩ : ∃ z : sT, z = s_sB S x5 (Int32.toNatClampNeg x12) x13 := ⟨_, rfl⟩
  rw [← eS102] at hR
  replace h := h S102 eS102
  have hK_x5 : s_K S102 x5 = 11 := by rw [eS102]; exact hK_x5
  obtain ⟨x103, ex103⟩ : ∃ z : Int32, z = x12 + 1 := ⟨_, rfl⟩
  replace h := h x103 ex103
  refine lv_iinc (v := x103) (lv' := [(12, .int x103), (0, .ref bb), (1, .ref x1), (2, .int x2), (3, .int x3), (4, .ref x4), (5, .ref x5), (6, .int x6), (7, .int x7), (8, .int x8), (13, .int x13)]) hx hb dL_law_951 hl (k := 9) rfl (by rw [ex103]; rfl) (by decide) rfl (fun ls hl => ?_)
  refine lv_goto (tgt := 887) hx hb dL_law_954 (by decide) ?_
  exact hk887 kc ks x1 x2 x3 x4 x5 x6 x7 x8 x103 S102 hk h H locs ls hR hS (lv_sub (l' := [(0, .ref bb), (1, .ref x1), (2, .int x2), (3, .int x3), (4, .ref x4), (5, .ref x5), (6, .int x6), (7, .int x7), (8, .int x8), (12, .int x103)]) hl [1, 2, 3, 4, 5, 6, 7, 8, 9, 0] rfl)
set_option maxHeartbeats 4000000 in
theorem tA_L_law_b942 {sc : Nat × (Nat → Int32)} {mc ms : Nat} (C : x_C p s m args c cL_law RL gg) (hml : c.maxLocals = 14) (hst : l.stackTraces = false) (hX : va_X bb sc.1 sc.2 s s.heap) (hbl : bb < s.heap.size) (hbA : ¬ s_A gg bb) (hret : ∀ (pc : Nat) (H : Heap) (ls : Array Slot) (locs : List Loc), decode cL_law pc = .ok (.ireturn, 1) → (∀ q ∈ locs, s_A gg q.base) → W p l e (rA_L_law mc ms) s m args below meth c H locs mc ms QQ (F0 m pc ls [.int 1])) {kc ks : Nat} (hk : kc ≤ mc ∧ ks ≤ ms)   {S : sT}  (h : wA_L_law_b942 mc ms kc ks  S  sc) : x_X p l e (rA_L_law mc ms) s m args below meth c gg 14 kc ks QQ 942 [] [] S := by
  unfold wA_L_law_b942 at h
  obtain ⟨hx, hb, -⟩ := id C
  intro H locs ls hR hS hl
  refine lv_iconst (v := 0) hx hb dL_law_942 (by decide) ?_
  exact h.elim
set_option maxHeartbeats 4000000 in
theorem tA_L_law_b917 {sc : Nat × (Nat → Int32)} {mc ms : Nat} (C : x_C p s m args c cL_law RL gg) (hml : c.maxLocals = 14) (hst : l.stackTraces = false) (hX : va_X bb sc.1 sc.2 s s.heap) (hbl : bb < s.heap.size) (hbA : ¬ s_A gg bb) (hret : ∀ (pc : Nat) (H : Heap) (ls : Array Slot) (locs : List Loc), decode cL_law pc = .ok (.ireturn, 1) → (∀ q ∈ locs, s_A gg q.base) → W p l e (rA_L_law mc ms) s m args below meth c H locs mc ms QQ (F0 m pc ls [.int 1])) {kc ks : Nat} (hk : kc ≤ mc ∧ ks ≤ ms) {x1 : Nat} {x2 : Int32} {x3 : Int32} {x4 : Nat} {x5 : Nat} {x6 : Int32} {x7 : Int32} {x8 : Int32} {x12 : Int32} {x13 : Int32} {kk242 : Nat → Nat → Nat → Int32 → Int32 → Nat → Nat → Int32 → Int32 → Int32 → sT → Prop} {kk887 : Nat → Nat → Nat → Int32 → Int32 → Nat → Nat → Int32 → Int32 → Int32 → Int32 → sT → Prop} {S : sT} (hk242 : ∀ (kc ks : Nat) (x1 : Nat) (x2 : Int32) (x3 : Int32) (x4 : Nat) (x5 : Nat) (x6 : Int32) (x7 : Int32) (x8 : Int32) (S : sT), kc ≤ mc ∧ ks ≤ ms → kk242 kc ks x1 x2 x3 x4 x5 x6 x7 x8 S → x_X p l e (rA_L_law mc ms) s m args below meth c gg 14 kc ks QQ 242 [(0, .ref bb), (1, .ref x1), (2, .int x2), (3, .int x3), (4, .ref x4), (5, .ref x5), (6, .int x6), (7, .int x7), (8, .int x8)] [] S) (hk887 : ∀ (kc ks : Nat) (x1 : Nat) (x2 : Int32) (x3 : Int32) (x4 : Nat) (x5 : Nat) (x6 : Int32) (x7 : Int32) (x8 : Int32) (x12 : Int32) (S : sT), kc ≤ mc ∧ ks ≤ ms → kk887 kc ks x1 x2 x3 x4 x5 x6 x7 x8 x12 S → x_X p l e (rA_L_law mc ms) s m args below meth c gg 14 kc ks QQ 887 [(0, .ref bb), (1, .ref x1), (2, .int x2), (3, .int x3), (4, .ref x4), (5, .ref x5), (6, .int x6), (7, .int x7), (8, .int x8), (12, .int x12)] [] S) (h : wA_L_law_b917 mc ms kc ks x1 x2 x3 x4 x5 x6 x7 x8 x12 x13 S kk242 kk887 sc) : x_X p l e (rA_L_law mc ms) s m args below meth c gg 14 kc ks QQ 917 [(0, .ref bb), (1, .ref x1), (2, .int x2), (3, .int x3), (4, .ref x4), (5, .ref x5), (6, .int x6), (7, .int x7), (8, .int x8), (12, .int x12), (13, .int x13)] [] S := by
  unfold wA_L_law_b917 at h
  obtain ⟨hx, hb, -⟩ := id C
  intro H locs ls hR hS hl
  refine lv_iload hx hb dL_law_917 (lv_at hl 10 rfl) ?_
  refine lv_aload hx hb dL_law_919 (lv_at hl 5 rfl) ?_
  refine lv_iload hx hb dL_law_921 (lv_at hl 9 rfl) ?_
  obtain ⟨hK_x5, h⟩ := h
  obtain ⟨hi101, h⟩ := h
  refine x_iald C hR hK_x5 hi101 dL_law_923 ?_
  refine lv_topi (fun x102 ex102 => ?_)
  replace h := h x102 ex102
  refine lv_icmp_le (tgt := 944) hx hb dL_law_924 (by decide) (fun hc103 => ?_) (fun hc103 => ?_)
  · replace h := h.1 hc103
    exact tA_L_law_b944 C hml hst hX hbl hbA hret hk hk242 hk887 h H locs ls hR hS (lv_sub (l' := [(0, .ref bb), (1, .ref x1), (2, .int x2), (3, .int x3), (4, .ref x4), (5, .ref x5), (6, .int x6), (7, .int x7), (8, .int x8), (12, .int x12), (13, .int x13)]) hl [0, 1, 2, 3, 4, 5, 6, 7, 8, 9, 10] rfl)
  · replace h := h.2 hc103
    refine lv_aload hx hb dL_law_927 (lv_at hl 5 rfl) ?_
    refine lv_iload hx hb dL_law_929 (lv_at hl 9 rfl) ?_
    obtain ⟨hi104, h⟩ := h
    refine x_iald C hR hK_x5 hi104 dL_law_931 ?_
    refine lv_topi (fun x105 ex105 => ?_)
    replace h := h x105 ex105
    refine lv_iconst (v := 2) hx hb dL_law_932 (by decide) ?_
    refine lv_icmp_ge (tgt := 944) hx hb dL_law_933 (by decide) (fun hc106 => ?_) (fun hc106 => ?_)
    · replace h := h.1 hc106
      exact tA_L_law_b944 C hml hst hX hbl hbA hret hk hk242 hk887 h H locs ls hR hS (lv_sub (l' := [(0, .ref bb), (1, .ref x1), (2, .int x2), (3, .int x3), (4, .ref x4), (5, .ref x5), (6, .int x6), (7, .int x7), (8, .int x8), (12, .int x12), (13, .int x13)]) hl [0, 1, 2, 3, 4, 5, 6, 7, 8, 9, 10] rfl)
    · replace h := h.2 hc106
      refine lv_iload hx hb dL_law_936 (lv_at hl 10 rfl) ?_
      refine lv_iconst (v := 2) hx hb dL_law_938 (by decide) ?_
      refine lv_icmp_le (tgt := 944) hx hb dL_law_939 (by decide) (fun hc107 => ?_) (fun hc107 => ?_)
      · replace h := h.1 hc107
        exact tA_L_law_b944 C hml hst hX hbl hbA hret hk hk242 hk887 h H locs ls hR hS (lv_sub (l' := [(0, .ref bb), (1, .ref x1), (2, .int x2), (3, .int x3), (4, .ref x4), (5, .ref x5), (6, .int x6), (7, .int x7), (8, .int x8), (12, .int x12), (13, .int x13)]) hl [0, 1, 2, 3, 4, 5, 6, 7, 8, 9, 10] rfl)
      · replace h := h.2 hc107
        exact tA_L_law_b942 C hml hst hX hbl hbA hret hk  h H locs ls hR hS (lv_sub (l' := []) hl [] rfl)
set_option maxHeartbeats 4000000 in
theorem tA_L_law_b887 {sc : Nat × (Nat → Int32)} {mc ms : Nat} (C : x_C p s m args c cL_law RL gg) (hml : c.maxLocals = 14) (hst : l.stackTraces = false) (hX : va_X bb sc.1 sc.2 s s.heap) (hbl : bb < s.heap.size) (hbA : ¬ s_A gg bb) (hret : ∀ (pc : Nat) (H : Heap) (ls : Array Slot) (locs : List Loc), decode cL_law pc = .ok (.ireturn, 1) → (∀ q ∈ locs, s_A gg q.base) → W p l e (rA_L_law mc ms) s m args below meth c H locs mc ms QQ (F0 m pc ls [.int 1])) {kk242 : Nat → Nat → Nat → Int32 → Int32 → Nat → Nat → Int32 → Int32 → Int32 → sT → Prop} (hk242 : ∀ (kc ks : Nat) (x1 : Nat) (x2 : Int32) (x3 : Int32) (x4 : Nat) (x5 : Nat) (x6 : Int32) (x7 : Int32) (x8 : Int32) (S : sT), kc ≤ mc ∧ ks ≤ ms → kk242 kc ks x1 x2 x3 x4 x5 x6 x7 x8 S → x_X p l e (rA_L_law mc ms) s m args below meth c gg 14 kc ks QQ 242 [(0, .ref bb), (1, .ref x1), (2, .int x2), (3, .int x3), (4, .ref x4), (5, .ref x5), (6, .int x6), (7, .int x7), (8, .int x8)] [] S) : ∀ (n : Nat) (kc ks : Nat) (x1 : Nat) (x2 : Int32) (x3 : Int32) (x4 : Nat) (x5 : Nat) (x6 : Int32) (x7 : Int32) (x8 : Int32) (x12 : Int32) (S : sT), kc ≤ mc ∧ ks ≤ ms → wA_L_law_b887 mc ms kk242 sc n kc ks x1 x2 x3 x4 x5 x6 x7 x8 x12 S → x_X p l e (rA_L_law mc ms) s m args below meth c gg 14 kc ks QQ 887 [(0, .ref bb), (1, .ref x1), (2, .int x2), (3, .int x3), (4, .ref x4), (5, .ref x5), (6, .int x6), (7, .int x7), (8, .int x8), (12, .int x12)] [] S := by
  obtain ⟨hx, hb, -⟩ := id C
  intro n
  induction n with
  | zero => intro kc ks x1 x2 x3 x4 x5 x6 x7 x8 x12 S hk h; exact absurd h id
  | succ n ih =>
    intro kc ks x1 x2 x3 x4 x5 x6 x7 x8 x12 S hk h H locs ls hR hS hl
    unfold wA_L_law_b887 at h
    refine lv_iload hx hb dL_law_887 (lv_at hl 9 rfl) ?_
    refine lv_iload_n hx hb dL_law_889 rfl (lv_at hl 3 rfl) ?_
    refine lv_icmp_ge (tgt := 957) hx hb dL_law_890 (by decide) (fun hc101 => ?_) (fun hc101 => ?_)
    · replace h := h.1 hc101
      refine lv_aload_n hx hb dL_law_957 rfl (lv_at hl 1 rfl) ?_
      refine lv_iload_n hx hb dL_law_958 rfl (lv_at hl 2 rfl) ?_
      refine lv_iload_n hx hb dL_law_959 rfl (lv_at hl 3 rfl) ?_
      refine lv_aload hx hb dL_law_960 (lv_at hl 4 rfl) ?_
      refine lv_iload hx hb dL_law_962 (lv_at hl 6 rfl) ?_
      refine x_ki (x_runS (As := [.ref x1, .int x2, .int x3, .ref x4, .int x6]) (rest := []) C hml hR hS (m_L_isSo l gg x1 x2 x3 x4 x6 S h) b_L_isSo q_24_17 rfl rfl ⟨Nat.le_of_ble_eq_true rfl, Nat.le_of_ble_eq_true rfl⟩ rfl hl.1 (Nat.le_of_ble_eq_true rfl) dL_law_964 ⟨hk.1, hk.2⟩) hS (fun x103 S102 H locs hn hR hS => ?_)
      replace h := hn
      clear hn
      refine lv_if_eq (tgt := 981) hx hb dL_law_967 (by decide) (fun hc104 => ?_) (fun hc104 => ?_)
      · replace h := h.1 hc104
        exact tA_L_law_b981 C hml hst hX hbl hbA hret hk  h H locs ls hR hS (lv_sub (l' := []) hl [] rfl)
      · replace h := h.2 hc104
        refine lv_aload_n hx hb dL_law_970 rfl (lv_at hl 1 rfl) ?_
        refine lv_bipush (v := 10) hx hb dL_law_971 (by decide) ?_
        obtain ⟨hK_x1, h⟩ := h
        refine x_ki (x_runV (As := [.int (10 : Int32)]) (rest := []) C hml hR hS (m_X6_many l gg x1 (10 : Int32) S102 h) b_X6_many q_16_15 (by rw [hK_x1]; decide) (s_E_7 hK_x1) rfl rfl rfl rfl ⟨Nat.le_of_ble_eq_true rfl, Nat.le_of_ble_eq_true rfl⟩ rfl hl.1 (Nat.le_of_ble_eq_true rfl) dL_law_973 ⟨hk.1, hk.2⟩) hS (fun x106 S105 H locs hn hR hS => ?_)
        replace h := hn
        clear hn
        refine lv_iload hx hb dL_law_976 (lv_at hl 7 rfl) ?_
        refine lv_icmp_eq (tgt := 983) hx hb dL_law_978 (by decide) (fun hc107 => ?_) (fun hc107 => ?_)
        · replace h := h.1 hc107
          obtain ⟨x108, ex108⟩ : ∃ z : Int32, z = x8 + 1 := ⟨_, rfl⟩
          replace h := h x108 ex108
          refine lv_iinc (v := x108) (lv' := [(8, .int x108), (0, .ref bb), (1, .ref x1), (2, .int x2), (3, .int x3), (4, .ref x4), (5, .ref x5), (6, .int x6), (7, .int x7), (12, .int x12)]) hx hb dL_law_983 hl (k := 8) rfl (by rw [ex108]; rfl) (by decide) rfl (fun ls hl => ?_)
          refine lv_goto (tgt := 242) hx hb dL_law_986 (by decide) ?_
          exact hk242 kc ks x1 x2 x3 x4 x5 x6 x7 x108 S105 hk h H locs ls hR hS (lv_sub (l' := [(0, .ref bb), (1, .ref x1), (2, .int x2), (3, .int x3), (4, .ref x4), (5, .ref x5), (6, .int x6), (7, .int x7), (8, .int x108)]) hl [1, 2, 3, 4, 5, 6, 7, 8, 0] rfl)
        · replace h := h.2 hc107
          exact tA_L_law_b981 C hml hst hX hbl hbA hret hk  h H locs ls hR hS (lv_sub (l' := []) hl [] rfl)
    · replace h := h.2 hc101
      refine lv_aload_n hx hb dL_law_893 rfl (lv_at hl 1 rfl) ?_
      refine lv_iload hx hb dL_law_894 (lv_at hl 9 rfl) ?_
      refine lv_iconst (v := 4) hx hb dL_law_896 (by decide) ?_
      obtain ⟨hK_x1, h⟩ := h
      refine x_ki (x_runV (As := [.int x12, .int (4 : Int32)]) (rest := []) C hml hR hS (m_X6_ofField l gg x1 x12 (4 : Int32) S h) b_X6_ofField q_10_17 (by rw [hK_x1]; decide) (s_E_7 hK_x1) rfl rfl rfl rfl ⟨Nat.le_of_ble_eq_true rfl, Nat.le_of_ble_eq_true rfl⟩ rfl hl.1 (Nat.le_of_ble_eq_true rfl) dL_law_897 ⟨hk.1, hk.2⟩) hS (fun x110 S109 H locs hn hR hS => ?_)
      replace h := hn
      clear hn
      refine lv_istore (lv' := [(13, .int x110), (0, .ref bb), (1, .ref x1), (2, .int x2), (3, .int x3), (4, .ref x4), (5, .ref x5), (6, .int x6), (7, .int x7), (8, .int x8), (12, .int x12)]) hx hb dL_law_900 hl (by decide) rfl (fun ls hl => ?_)
      refine lv_iload hx hb dL_law_902 (lv_at hl 0 rfl) ?_
      refine lv_aload hx hb dL_law_904 (lv_at hl 6 rfl) ?_
      refine lv_iload hx hb dL_law_906 (lv_at hl 10 rfl) ?_
      obtain ⟨hK_x5, h⟩ := h
      obtain ⟨hi111, h⟩ := h
      refine x_iald C hR hK_x5 hi111 dL_law_908 ?_
      refine lv_topi (fun x112 ex112 => ?_)
      replace h := h x112 ex112
      refine lv_icmp_ge (tgt := 917) hx hb dL_law_909 (by decide) (fun hc113 => ?_) (fun hc113 => ?_)
      · replace h := h.1 hc113
        exact tA_L_law_b917 C hml hst hX hbl hbA hret hk hk242 (fun kc ks x1 x2 x3 x4 x5 x6 x7 x8 x12 S hk h => ih kc ks x1 x2 x3 x4 x5 x6 x7 x8 x12 S hk h) h H locs ls hR hS (lv_sub (l' := [(0, .ref bb), (1, .ref x1), (2, .int x2), (3, .int x3), (4, .ref x4), (5, .ref x5), (6, .int x6), (7, .int x7), (8, .int x8), (12, .int x12), (13, .int x110)]) hl [1, 2, 3, 4, 5, 6, 7, 8, 9, 10, 0] rfl)
      · replace h := h.2 hc113
        refine lv_iload hx hb dL_law_912 (lv_at hl 0 rfl) ?_
        refine lv_if_gt (tgt := 942) hx hb dL_law_914 (by decide) (fun hc114 => ?_) (fun hc114 => ?_)
        · replace h := h.1 hc114
          exact tA_L_law_b942 C hml hst hX hbl hbA hret hk  h H locs ls hR hS (lv_sub (l' := []) hl [] rfl)
        · replace h := h.2 hc114
          exact tA_L_law_b917 C hml hst hX hbl hbA hret hk hk242 (fun kc ks x1 x2 x3 x4 x5 x6 x7 x8 x12 S hk h => ih kc ks x1 x2 x3 x4 x5 x6 x7 x8 x12 S hk h) h H locs ls hR hS (lv_sub (l' := [(0, .ref bb), (1, .ref x1), (2, .int x2), (3, .int x3), (4, .ref x4), (5, .ref x5), (6, .int x6), (7, .int x7), (8, .int x8), (12, .int x12), (13, .int x110)]) hl [1, 2, 3, 4, 5, 6, 7, 8, 9, 10, 0] rfl)
set_option maxHeartbeats 4000000 in
theorem tA_L_law_b884 {sc : Nat × (Nat → Int32)} {mc ms : Nat} (C : x_C p s m args c cL_law RL gg) (hml : c.maxLocals = 14) (hst : l.stackTraces = false) (hX : va_X bb sc.1 sc.2 s s.heap) (hbl : bb < s.heap.size) (hbA : ¬ s_A gg bb) (hret : ∀ (pc : Nat) (H : Heap) (ls : Array Slot) (locs : List Loc), decode cL_law pc = .ok (.ireturn, 1) → (∀ q ∈ locs, s_A gg q.base) → W p l e (rA_L_law mc ms) s m args below meth c H locs mc ms QQ (F0 m pc ls [.int 1])) {kc ks : Nat} (hk : kc ≤ mc ∧ ks ≤ ms) {x1 : Nat} {x2 : Int32} {x3 : Int32} {x4 : Nat} {x5 : Nat} {x6 : Int32} {x7 : Int32} {x8 : Int32} {kk242 : Nat → Nat → Nat → Int32 → Int32 → Nat → Nat → Int32 → Int32 → Int32 → sT → Prop} {S : sT} (hk242 : ∀ (kc ks : Nat) (x1 : Nat) (x2 : Int32) (x3 : Int32) (x4 : Nat) (x5 : Nat) (x6 : Int32) (x7 : Int32) (x8 : Int32) (S : sT), kc ≤ mc ∧ ks ≤ ms → kk242 kc ks x1 x2 x3 x4 x5 x6 x7 x8 S → x_X p l e (rA_L_law mc ms) s m args below meth c gg 14 kc ks QQ 242 [(0, .ref bb), (1, .ref x1), (2, .int x2), (3, .int x3), (4, .ref x4), (5, .ref x5), (6, .int x6), (7, .int x7), (8, .int x8)] [] S) (h : wA_L_law_b884 mc ms kc ks x1 x2 x3 x4 x5 x6 x7 x8 S kk242 sc) : x_X p l e (rA_L_law mc ms) s m args below meth c gg 14 kc ks QQ 884 [(0, .ref bb), (1, .ref x1), (2, .int x2), (3, .int x3), (4, .ref x4), (5, .ref x5), (6, .int x6), (7, .int x7), (8, .int x8)] [] S := by
  unfold wA_L_law_b884 at h
  obtain ⟨hx, hb, -⟩ := id C
  intro H locs ls hR hS hl
  refine lv_iconst (v := 0) hx hb dL_law_884 (by decide) ?_
  refine lv_istore (lv' := [(12, .int (0 : Int32)), (0, .ref bb), (1, .ref x1), (2, .int x2), (3, .int x3), (4, .ref x4), (5, .ref x5), (6, .int x6), (7, .int x7), (8, .int x8)]) hx hb dL_law_885 hl (by decide) rfl (fun ls hl => ?_)
  obtain ⟨n9, h⟩ := h
  exact tA_L_law_b887 C hml hst hX hbl hbA hret hk242 n9 kc ks x1 x2 x3 x4 x5 x6 x7 x8 (0 : Int32) S hk h H locs ls hR hS (lv_sub (l' := [(0, .ref bb), (1, .ref x1), (2, .int x2), (3, .int x3), (4, .ref x4), (5, .ref x5), (6, .int x6), (7, .int x7), (8, .int x8), (12, .int (0 : Int32))]) hl [1, 2, 3, 4, 5, 6, 7, 8, 9, 0] rfl)
set_option maxHeartbeats 4000000 in
theorem tA_L_law_b621 {sc : Nat × (Nat → Int32)} {mc ms : Nat} (C : x_C p s m args c cL_law RL gg) (hml : c.maxLocals = 14) (hst : l.stackTraces = false) (hX : va_X bb sc.1 sc.2 s s.heap) (hbl : bb < s.heap.size) (hbA : ¬ s_A gg bb) (hret : ∀ (pc : Nat) (H : Heap) (ls : Array Slot) (locs : List Loc), decode cL_law pc = .ok (.ireturn, 1) → (∀ q ∈ locs, s_A gg q.base) → W p l e (rA_L_law mc ms) s m args below meth c H locs mc ms QQ (F0 m pc ls [.int 1])) {kc ks : Nat} (hk : kc ≤ mc ∧ ks ≤ ms) {x1 : Nat} {x2 : Int32} {x3 : Int32} {x4 : Nat} {x5 : Nat} {x6 : Int32} {x7 : Int32} {x8 : Int32} {x9 : Int32} {x10 : Int32} {kk242 : Nat → Nat → Nat → Int32 → Int32 → Nat → Nat → Int32 → Int32 → Int32 → sT → Prop} {S : sT} (hk242 : ∀ (kc ks : Nat) (x1 : Nat) (x2 : Int32) (x3 : Int32) (x4 : Nat) (x5 : Nat) (x6 : Int32) (x7 : Int32) (x8 : Int32) (S : sT), kc ≤ mc ∧ ks ≤ ms → kk242 kc ks x1 x2 x3 x4 x5 x6 x7 x8 S → x_X p l e (rA_L_law mc ms) s m args below meth c gg 14 kc ks QQ 242 [(0, .ref bb), (1, .ref x1), (2, .int x2), (3, .int x3), (4, .ref x4), (5, .ref x5), (6, .int x6), (7, .int x7), (8, .int x8)] [] S) (h : wA_L_law_b621 mc ms kc ks x1 x2 x3 x4 x5 x6 x7 x8 x9 x10 S kk242 sc) : x_X p l e (rA_L_law mc ms) s m args below meth c gg 14 kc ks QQ 621 [(0, .ref bb), (1, .ref x1), (2, .int x2), (3, .int x3), (4, .ref x4), (5, .ref x5), (6, .int x6), (7, .int x7), (8, .int x8), (9, .int x9), (10, .int x10)] [] S := by
  unfold wA_L_law_b621 at h
  obtain ⟨hx, hb, -⟩ := id C
  intro H locs ls hR hS hl
  refine lv_aload_n hx hb dL_law_621 rfl (lv_at hl 1 rfl) ?_
  refine lv_iload hx hb dL_law_622 (lv_at hl 9 rfl) ?_
  refine lv_bipush (v := 6) hx hb dL_law_624 (by decide) ?_
  refine lv_ishr hx hb dL_law_626 ?_
  refine lv_topi (fun x101 ex101 => ?_)
  replace h := h x101 ex101
  refine lv_iload_n hx hb dL_law_627 rfl (lv_at hl 3 rfl) ?_
  refine x_ki (x_runS (As := [.int x101, .int x3]) (rest := [.ref x1]) C hml hR hS (m_L_below l gg x101 x3 S h) b_L_below q_3_2 rfl rfl ⟨Nat.le_of_ble_eq_true rfl, Nat.le_of_ble_eq_true rfl⟩ rfl hl.1 (Nat.le_of_ble_eq_true rfl) dL_law_628 ⟨hk.1, hk.2⟩) hS (fun x103 S102 H locs hn hR hS => ?_)
  replace h := hn
  clear hn
  refine lv_iload hx hb dL_law_631 (lv_at hl 10 rfl) ?_
  obtain ⟨hK_x1, h⟩ := h
  refine x_ki (x_runV (As := [.int x103, .int x10]) (rest := []) C hml hR hS (m_X6_help l gg x1 x103 x10 S102 h) b_X6_help q_16_11 (by rw [hK_x1]; decide) (s_E_7 hK_x1) rfl rfl rfl rfl ⟨Nat.le_of_ble_eq_true rfl, Nat.le_of_ble_eq_true rfl⟩ rfl hl.1 (Nat.le_of_ble_eq_true rfl) dL_law_633 ⟨hk.1, hk.2⟩) hS (fun x105 S104 H locs hn hR hS => ?_)
  replace h := hn
  clear hn
  refine lv_pop hx hb dL_law_636 rfl ?_
  refine lv_aload_n hx hb dL_law_637 rfl (lv_at hl 1 rfl) ?_
  refine lv_iload hx hb dL_law_638 (lv_at hl 10 rfl) ?_
  refine lv_iconst (v := 4) hx hb dL_law_640 (by decide) ?_
  obtain ⟨hK_x1, h⟩ := h
  refine x_ki (x_runV (As := [.int x10, .int (4 : Int32)]) (rest := []) C hml hR hS (m_X6_ofField l gg x1 x10 (4 : Int32) S104 h) b_X6_ofField q_10_17 (by rw [hK_x1]; decide) (s_E_7 hK_x1) rfl rfl rfl rfl ⟨Nat.le_of_ble_eq_true rfl, Nat.le_of_ble_eq_true rfl⟩ rfl hl.1 (Nat.le_of_ble_eq_true rfl) dL_law_641 ⟨hk.1, hk.2⟩) hS (fun x107 S106 H locs hn hR hS => ?_)
  replace h := hn
  clear hn
  refine lv_iconst (v := 1) hx hb dL_law_644 (by decide) ?_
  refine lv_icmp_ne (tgt := 884) hx hb dL_law_645 (by decide) (fun hc108 => ?_) (fun hc108 => ?_)
  · replace h := h.1 hc108
    exact tA_L_law_b884 C hml hst hX hbl hbA hret hk hk242 h H locs ls hR hS (lv_sub (l' := [(0, .ref bb), (1, .ref x1), (2, .int x2), (3, .int x3), (4, .ref x4), (5, .ref x5), (6, .int x6), (7, .int x7), (8, .int x8)]) hl [0, 1, 2, 3, 4, 5, 6, 7, 8] rfl)
  · replace h := h.2 hc108
    refine lv_aload_n hx hb dL_law_648 rfl (lv_at hl 1 rfl) ?_
    refine lv_iconst (v := 4) hx hb dL_law_649 (by decide) ?_
    obtain ⟨hK_x1, h⟩ := h
    refine x_ki (x_runV (As := [.int (4 : Int32)]) (rest := []) C hml hR hS (m_X6_many l gg x1 (4 : Int32) S106 h) b_X6_many q_16_15 (by rw [hK_x1]; decide) (s_E_7 hK_x1) rfl rfl rfl rfl ⟨Nat.le_of_ble_eq_true rfl, Nat.le_of_ble_eq_true rfl⟩ rfl hl.1 (Nat.le_of_ble_eq_true rfl) dL_law_650 ⟨hk.1, hk.2⟩) hS (fun x110 S109 H locs hn hR hS => ?_)
    replace h := hn
    clear hn
    refine lv_if_ne (tgt := 884) hx hb dL_law_653 (by decide) (fun hc111 => ?_) (fun hc111 => ?_)
    · replace h := h.1 hc111
      exact tA_L_law_b884 C hml hst hX hbl hbA hret hk hk242 h H locs ls hR hS (lv_sub (l' := [(0, .ref bb), (1, .ref x1), (2, .int x2), (3, .int x3), (4, .ref x4), (5, .ref x5), (6, .int x6), (7, .int x7), (8, .int x8)]) hl [0, 1, 2, 3, 4, 5, 6, 7, 8] rfl)
    · replace h := h.2 hc111
      refine lv_aload_n hx hb dL_law_656 rfl (lv_at hl 1 rfl) ?_
      refine lv_iload hx hb dL_law_657 (lv_at hl 10 rfl) ?_
      refine lv_bipush (v := 11) hx hb dL_law_659 (by decide) ?_
      obtain ⟨hK_x1, h⟩ := h
      refine x_ki (x_runV (As := [.int x10, .int (11 : Int32)]) (rest := []) C hml hR hS (m_X6_ofField l gg x1 x10 (11 : Int32) S109 h) b_X6_ofField q_10_17 (by rw [hK_x1]; decide) (s_E_7 hK_x1) rfl rfl rfl rfl ⟨Nat.le_of_ble_eq_true rfl, Nat.le_of_ble_eq_true rfl⟩ rfl hl.1 (Nat.le_of_ble_eq_true rfl) dL_law_661 ⟨hk.1, hk.2⟩) hS (fun x113 S112 H locs hn hR hS => ?_)
      replace h := hn
      clear hn
      refine lv_iconst (v := 3) hx hb dL_law_664 (by decide) ?_
      refine lv_icmp_lt (tgt := 884) hx hb dL_law_665 (by decide) (fun hc114 => ?_) (fun hc114 => ?_)
      · replace h := h.1 hc114
        exact tA_L_law_b884 C hml hst hX hbl hbA hret hk hk242 h H locs ls hR hS (lv_sub (l' := [(0, .ref bb), (1, .ref x1), (2, .int x2), (3, .int x3), (4, .ref x4), (5, .ref x5), (6, .int x6), (7, .int x7), (8, .int x8)]) hl [0, 1, 2, 3, 4, 5, 6, 7, 8] rfl)
      · replace h := h.2 hc114
        refine lv_aload_n hx hb dL_law_668 rfl (lv_at hl 1 rfl) ?_
        refine lv_iload hx hb dL_law_669 (lv_at hl 10 rfl) ?_
        refine lv_iload hx hb dL_law_671 (lv_at hl 9 rfl) ?_
        refine lv_bipush (v := 6) hx hb dL_law_673 (by decide) ?_
        refine lv_ishr hx hb dL_law_675 ?_
        refine lv_topi (fun x115 ex115 => ?_)
        replace h := h x115 ex115
        refine lv_iconst (v := 3) hx hb dL_law_676 (by decide) ?_
        refine x_ki (x_runS (As := [.int x115, .int (3 : Int32)]) (rest := [.int x10, .ref x1]) C hml hR hS (m_L_below l gg x115 (3 : Int32) S112 h) b_L_below q_3_2 rfl rfl ⟨Nat.le_of_ble_eq_true rfl, Nat.le_of_ble_eq_true rfl⟩ rfl hl.1 (Nat.le_of_ble_eq_true rfl) dL_law_677 ⟨hk.1, hk.2⟩) hS (fun x117 S116 H locs hn hR hS => ?_)
        replace h := hn
        clear hn
        obtain ⟨hK_x1, h⟩ := h
        refine x_ki (x_runV (As := [.int x10, .int x117]) (rest := []) C hml hR hS (m_X6_plant l gg x1 x10 x117 S116 h) b_X6_plant q_17_21 (by rw [hK_x1]; decide) (s_E_7 hK_x1) rfl rfl rfl rfl ⟨Nat.le_of_ble_eq_true rfl, Nat.le_of_ble_eq_true rfl⟩ rfl hl.1 (Nat.le_of_ble_eq_true rfl) dL_law_680 ⟨hk.1, hk.2⟩) hS (fun x119 S118 H locs hn hR hS => ?_)
        replace h := hn
        clear hn
        refine lv_pop hx hb dL_law_683 rfl ?_
        refine lv_goto (tgt := 884) hx hb dL_law_684 (by decide) ?_
        exact tA_L_law_b884 C hml hst hX hbl hbA hret hk hk242 h H locs ls hR hS (lv_sub (l' := [(0, .ref bb), (1, .ref x1), (2, .int x2), (3, .int x3), (4, .ref x4), (5, .ref x5), (6, .int x6), (7, .int x7), (8, .int x8)]) hl [0, 1, 2, 3, 4, 5, 6, 7, 8] rfl)
set_option maxHeartbeats 4000000 in
theorem tA_L_law_b592 {sc : Nat × (Nat → Int32)} {mc ms : Nat} (C : x_C p s m args c cL_law RL gg) (hml : c.maxLocals = 14) (hst : l.stackTraces = false) (hX : va_X bb sc.1 sc.2 s s.heap) (hbl : bb < s.heap.size) (hbA : ¬ s_A gg bb) (hret : ∀ (pc : Nat) (H : Heap) (ls : Array Slot) (locs : List Loc), decode cL_law pc = .ok (.ireturn, 1) → (∀ q ∈ locs, s_A gg q.base) → W p l e (rA_L_law mc ms) s m args below meth c H locs mc ms QQ (F0 m pc ls [.int 1])) {kc ks : Nat} (hk : kc ≤ mc ∧ ks ≤ ms) {x1 : Nat} {x2 : Int32} {x3 : Int32} {x4 : Nat} {x5 : Nat} {x6 : Int32} {x7 : Int32} {x8 : Int32} {x9 : Int32} {x10 : Int32} {kk242 : Nat → Nat → Nat → Int32 → Int32 → Nat → Nat → Int32 → Int32 → Int32 → sT → Prop} {S : sT} (hk242 : ∀ (kc ks : Nat) (x1 : Nat) (x2 : Int32) (x3 : Int32) (x4 : Nat) (x5 : Nat) (x6 : Int32) (x7 : Int32) (x8 : Int32) (S : sT), kc ≤ mc ∧ ks ≤ ms → kk242 kc ks x1 x2 x3 x4 x5 x6 x7 x8 S → x_X p l e (rA_L_law mc ms) s m args below meth c gg 14 kc ks QQ 242 [(0, .ref bb), (1, .ref x1), (2, .int x2), (3, .int x3), (4, .ref x4), (5, .ref x5), (6, .int x6), (7, .int x7), (8, .int x8)] [] S) (h : wA_L_law_b592 mc ms kc ks x1 x2 x3 x4 x5 x6 x7 x8 x9 x10 S kk242 sc) : x_X p l e (rA_L_law mc ms) s m args below meth c gg 14 kc ks QQ 592 [(0, .ref bb), (1, .ref x1), (2, .int x2), (3, .int x3), (4, .ref x4), (5, .ref x5), (6, .int x6), (7, .int x7), (8, .int x8), (9, .int x9), (10, .int x10)] [] S := by
  unfold wA_L_law_b592 at h
  obtain ⟨hx, hb, -⟩ := id C
  intro H locs ls hR hS hl
  refine lv_aload_n hx hb dL_law_592 rfl (lv_at hl 1 rfl) ?_
  refine lv_iload hx hb dL_law_593 (lv_at hl 10 rfl) ?_
  refine lv_iconst (v := 4) hx hb dL_law_595 (by decide) ?_
  obtain ⟨hK_x1, h⟩ := h
  refine x_ki (x_runV (As := [.int x10, .int (4 : Int32)]) (rest := []) C hml hR hS (m_X6_ofField l gg x1 x10 (4 : Int32) S h) b_X6_ofField q_10_17 (by rw [hK_x1]; decide) (s_E_7 hK_x1) rfl rfl rfl rfl ⟨Nat.le_of_ble_eq_true rfl, Nat.le_of_ble_eq_true rfl⟩ rfl hl.1 (Nat.le_of_ble_eq_true rfl) dL_law_596 ⟨hk.1, hk.2⟩) hS (fun x102 S101 H locs hn hR hS => ?_)
  replace h := hn
  clear hn
  refine lv_if_ne (tgt := 621) hx hb dL_law_599 (by decide) (fun hc103 => ?_) (fun hc103 => ?_)
  · replace h := h.1 hc103
    exact tA_L_law_b621 C hml hst hX hbl hbA hret hk hk242 h H locs ls hR hS (lv_sub (l' := [(0, .ref bb), (1, .ref x1), (2, .int x2), (3, .int x3), (4, .ref x4), (5, .ref x5), (6, .int x6), (7, .int x7), (8, .int x8), (9, .int x9), (10, .int x10)]) hl [0, 1, 2, 3, 4, 5, 6, 7, 8, 9, 10] rfl)
  · replace h := h.2 hc103
    refine lv_aload_n hx hb dL_law_602 rfl (lv_at hl 1 rfl) ?_
    refine lv_iload hx hb dL_law_603 (lv_at hl 10 rfl) ?_
    refine lv_iconst (v := 1) hx hb dL_law_605 (by decide) ?_
    obtain ⟨hK_x1, h⟩ := h
    refine x_ki (x_runV (As := [.int x10, .int (1 : Int32)]) (rest := []) C hml hR hS (m_X6_ofField l gg x1 x10 (1 : Int32) S101 h) b_X6_ofField q_10_17 (by rw [hK_x1]; decide) (s_E_7 hK_x1) rfl rfl rfl rfl ⟨Nat.le_of_ble_eq_true rfl, Nat.le_of_ble_eq_true rfl⟩ rfl hl.1 (Nat.le_of_ble_eq_true rfl) dL_law_606 ⟨hk.1, hk.2⟩) hS (fun x105 S104 H locs hn hR hS => ?_)
    replace h := hn
    clear hn
    refine lv_bipush (v := 10) hx hb dL_law_609 (by decide) ?_
    refine lv_icmp_lt (tgt := 621) hx hb dL_law_611 (by decide) (fun hc106 => ?_) (fun hc106 => ?_)
    · replace h := h.1 hc106
      exact tA_L_law_b621 C hml hst hX hbl hbA hret hk hk242 h H locs ls hR hS (lv_sub (l' := [(0, .ref bb), (1, .ref x1), (2, .int x2), (3, .int x3), (4, .ref x4), (5, .ref x5), (6, .int x6), (7, .int x7), (8, .int x8), (9, .int x9), (10, .int x10)]) hl [0, 1, 2, 3, 4, 5, 6, 7, 8, 9, 10] rfl)
    · replace h := h.2 hc106
      refine lv_aload_n hx hb dL_law_614 rfl (lv_at hl 1 rfl) ?_
      refine lv_iload hx hb dL_law_615 (lv_at hl 10 rfl) ?_
      obtain ⟨hK_x1, h⟩ := h
      refine x_ki (x_runV (As := [.int x10]) (rest := []) C hml hR hS (m_X6_puddle l gg x1 x10 S104 h) b_X6_puddle q_16_7 (by rw [hK_x1]; decide) (s_E_7 hK_x1) rfl rfl rfl rfl ⟨Nat.le_of_ble_eq_true rfl, Nat.le_of_ble_eq_true rfl⟩ rfl hl.1 (Nat.le_of_ble_eq_true rfl) dL_law_617 ⟨hk.1, hk.2⟩) hS (fun x108 S107 H locs hn hR hS => ?_)
      replace h := hn
      clear hn
      refine lv_pop hx hb dL_law_620 rfl ?_
      exact tA_L_law_b621 C hml hst hX hbl hbA hret hk hk242 h H locs ls hR hS (lv_sub (l' := [(0, .ref bb), (1, .ref x1), (2, .int x2), (3, .int x3), (4, .ref x4), (5, .ref x5), (6, .int x6), (7, .int x7), (8, .int x8), (9, .int x9), (10, .int x10)]) hl [0, 1, 2, 3, 4, 5, 6, 7, 8, 9, 10] rfl)
set_option maxHeartbeats 4000000 in
theorem tA_L_law_b769 {sc : Nat × (Nat → Int32)} {mc ms : Nat} (C : x_C p s m args c cL_law RL gg) (hml : c.maxLocals = 14) (hst : l.stackTraces = false) (hX : va_X bb sc.1 sc.2 s s.heap) (hbl : bb < s.heap.size) (hbA : ¬ s_A gg bb) (hret : ∀ (pc : Nat) (H : Heap) (ls : Array Slot) (locs : List Loc), decode cL_law pc = .ok (.ireturn, 1) → (∀ q ∈ locs, s_A gg q.base) → W p l e (rA_L_law mc ms) s m args below meth c H locs mc ms QQ (F0 m pc ls [.int 1])) {kc ks : Nat} (hk : kc ≤ mc ∧ ks ≤ ms)   {S : sT}  (h : wA_L_law_b769 mc ms kc ks  S  sc) : x_X p l e (rA_L_law mc ms) s m args below meth c gg 14 kc ks QQ 769 [] [] S := by
  unfold wA_L_law_b769 at h
  obtain ⟨hx, hb, -⟩ := id C
  intro H locs ls hR hS hl
  refine lv_iconst (v := 0) hx hb dL_law_769 (by decide) ?_
  exact h.elim
set_option maxHeartbeats 4000000 in
theorem tA_L_law_b813 {sc : Nat × (Nat → Int32)} {mc ms : Nat} (C : x_C p s m args c cL_law RL gg) (hml : c.maxLocals = 14) (hst : l.stackTraces = false) (hX : va_X bb sc.1 sc.2 s s.heap) (hbl : bb < s.heap.size) (hbA : ¬ s_A gg bb) (hret : ∀ (pc : Nat) (H : Heap) (ls : Array Slot) (locs : List Loc), decode cL_law pc = .ok (.ireturn, 1) → (∀ q ∈ locs, s_A gg q.base) → W p l e (rA_L_law mc ms) s m args below meth c H locs mc ms QQ (F0 m pc ls [.int 1])) {kc ks : Nat} (hk : kc ≤ mc ∧ ks ≤ ms) {x1 : Nat} {x2 : Int32} {x3 : Int32} {x4 : Nat} {x5 : Nat} {x6 : Int32} {x7 : Int32} {x8 : Int32} {x12 : Int32} {y0 : Int32} {y1 : Int32} {y2 : Nat} {kk242 : Nat → Nat → Nat → Int32 → Int32 → Nat → Nat → Int32 → Int32 → Int32 → sT → Prop} {S : sT} (hk242 : ∀ (kc ks : Nat) (x1 : Nat) (x2 : Int32) (x3 : Int32) (x4 : Nat) (x5 : Nat) (x6 : Int32) (x7 : Int32) (x8 : Int32) (S : sT), kc ≤ mc ∧ ks ≤ ms → kk242 kc ks x1 x2 x3 x4 x5 x6 x7 x8 S → x_X p l e (rA_L_law mc ms) s m args below meth c gg 14 kc ks QQ 242 [(0, .ref bb), (1, .ref x1), (2, .int x2), (3, .int x3), (4, .ref x4), (5, .ref x5), (6, .int x6), (7, .int x7), (8, .int x8)] [] S) (h : wA_L_law_b813 mc ms kc ks x1 x2 x3 x4 x5 x6 x7 x8 x12 y0 y1 y2 S kk242 sc) : x_X p l e (rA_L_law mc ms) s m args below meth c gg 14 kc ks QQ 813 [(0, .ref bb), (1, .ref x1), (2, .int x2), (3, .int x3), (4, .ref x4), (5, .ref x5), (6, .int x6), (7, .int x7), (8, .int x8), (12, .int x12)] [.int y0, .int y1, .ref y2] S := by
  unfold wA_L_law_b813 at h
  obtain ⟨hx, hb, -⟩ := id C
  intro H locs ls hR hS hl
  obtain ⟨hK_y2, h⟩ := h
  refine x_ki (x_runV (As := [.int y1, .int y0]) (rest := []) C hml hR hS (m_X6_harvest l gg y2 y1 y0 S h) b_X6_harvest q_19_8 (by rw [hK_y2]; decide) (s_E_7 hK_y2) rfl rfl rfl rfl ⟨Nat.le_of_ble_eq_true rfl, Nat.le_of_ble_eq_true rfl⟩ rfl hl.1 (Nat.le_of_ble_eq_true rfl) dL_law_813 ⟨hk.1, hk.2⟩) hS (fun x102 S101 H locs hn hR hS => ?_)
  replace h := hn
  clear hn
  refine lv_iload hx hb dL_law_816 (lv_at hl 9 rfl) ?_
  refine lv_icmp_eq (tgt := 884) hx hb dL_law_818 (by decide) (fun hc103 => ?_) (fun hc103 => ?_)
  · replace h := h.1 hc103
    exact tA_L_law_b884 C hml hst hX hbl hbA hret hk hk242 h H locs ls hR hS (lv_sub (l' := [(0, .ref bb), (1, .ref x1), (2, .int x2), (3, .int x3), (4, .ref x4), (5, .ref x5), (6, .int x6), (7, .int x7), (8, .int x8)]) hl [0, 1, 2, 3, 4, 5, 6, 7, 8] rfl)
  · replace h := h.2 hc103
    refine lv_iconst (v := 0) hx hb dL_law_821 (by decide) ?_
    exact h.elim
set_option maxHeartbeats 4000000 in
theorem tA_L_law_b687 {sc : Nat × (Nat → Int32)} {mc ms : Nat} (C : x_C p s m args c cL_law RL gg) (hml : c.maxLocals = 14) (hst : l.stackTraces = false) (hX : va_X bb sc.1 sc.2 s s.heap) (hbl : bb < s.heap.size) (hbA : ¬ s_A gg bb) (hret : ∀ (pc : Nat) (H : Heap) (ls : Array Slot) (locs : List Loc), decode cL_law pc = .ok (.ireturn, 1) → (∀ q ∈ locs, s_A gg q.base) → W p l e (rA_L_law mc ms) s m args below meth c H locs mc ms QQ (F0 m pc ls [.int 1])) {kc ks : Nat} (hk : kc ≤ mc ∧ ks ≤ ms) {x1 : Nat} {x2 : Int32} {x3 : Int32} {x4 : Nat} {x5 : Nat} {x6 : Int32} {x7 : Int32} {x8 : Int32} {x9 : Int32} {x10 : Int32} {kk242 : Nat → Nat → Nat → Int32 → Int32 → Nat → Nat → Int32 → Int32 → Int32 → sT → Prop} {S : sT} (hk242 : ∀ (kc ks : Nat) (x1 : Nat) (x2 : Int32) (x3 : Int32) (x4 : Nat) (x5 : Nat) (x6 : Int32) (x7 : Int32) (x8 : Int32) (S : sT), kc ≤ mc ∧ ks ≤ ms → kk242 kc ks x1 x2 x3 x4 x5 x6 x7 x8 S → x_X p l e (rA_L_law mc ms) s m args below meth c gg 14 kc ks QQ 242 [(0, .ref bb), (1, .ref x1), (2, .int x2), (3, .int x3), (4, .ref x4), (5, .ref x5), (6, .int x6), (7, .int x7), (8, .int x8)] [] S) (h : wA_L_law_b687 mc ms kc ks x1 x2 x3 x4 x5 x6 x7 x8 x9 x10 S kk242 sc) : x_X p l e (rA_L_law mc ms) s m args below meth c gg 14 kc ks QQ 687 [(0, .ref bb), (1, .ref x1), (2, .int x2), (3, .int x3), (4, .ref x4), (5, .ref x5), (6, .int x6), (7, .int x7), (8, .int x8), (9, .int x9), (10, .int x10)] [] S := by
  unfold wA_L_law_b687 at h
  obtain ⟨hx, hb, -⟩ := id C
  intro H locs ls hR hS hl
  refine lv_aload_n hx hb dL_law_687 rfl (lv_at hl 1 rfl) ?_
  refine lv_iload hx hb dL_law_688 (lv_at hl 10 rfl) ?_
  refine lv_iconst (v := 4) hx hb dL_law_690 (by decide) ?_
  obtain ⟨hK_x1, h⟩ := h
  refine x_ki (x_runV (As := [.int x10, .int (4 : Int32)]) (rest := []) C hml hR hS (m_X6_ofField l gg x1 x10 (4 : Int32) S h) b_X6_ofField q_10_17 (by rw [hK_x1]; decide) (s_E_7 hK_x1) rfl rfl rfl rfl ⟨Nat.le_of_ble_eq_true rfl, Nat.le_of_ble_eq_true rfl⟩ rfl hl.1 (Nat.le_of_ble_eq_true rfl) dL_law_691 ⟨hk.1, hk.2⟩) hS (fun x102 S101 H locs hn hR hS => ?_)
  replace h := hn
  clear hn
  refine lv_iconst (v := 5) hx hb dL_law_694 (by decide) ?_
  refine lv_icmp_ge (tgt := 701) hx hb dL_law_695 (by decide) (fun hc103 => ?_) (fun hc103 => ?_)
  · replace h := h.1 hc103
    refine lv_aload_n hx hb dL_law_701 rfl (lv_at hl 1 rfl) ?_
    refine lv_iload hx hb dL_law_702 (lv_at hl 10 rfl) ?_
    refine lv_bipush (v := 10) hx hb dL_law_704 (by decide) ?_
    obtain ⟨hK_x1, h⟩ := h
    refine x_ki (x_runV (As := [.int x10, .int (10 : Int32)]) (rest := []) C hml hR hS (m_X6_ofField l gg x1 x10 (10 : Int32) S101 h) b_X6_ofField q_10_17 (by rw [hK_x1]; decide) (s_E_7 hK_x1) rfl rfl rfl rfl ⟨Nat.le_of_ble_eq_true rfl, Nat.le_of_ble_eq_true rfl⟩ rfl hl.1 (Nat.le_of_ble_eq_true rfl) dL_law_706 ⟨hk.1, hk.2⟩) hS (fun x105 S104 H locs hn hR hS => ?_)
    replace h := hn
    clear hn
    refine lv_istore (lv' := [(12, .int x105), (0, .ref bb), (1, .ref x1), (2, .int x2), (3, .int x3), (4, .ref x4), (5, .ref x5), (6, .int x6), (7, .int x7), (8, .int x8), (9, .int x9), (10, .int x10)]) hx hb dL_law_709 hl (by decide) rfl (fun ls hl => ?_)
    refine lv_aload_n hx hb dL_law_711 rfl (lv_at hl 2 rfl) ?_
    refine lv_iload hx hb dL_law_712 (lv_at hl 11 rfl) ?_
    obtain ⟨hK_x1, h⟩ := h
    refine x_ki (x_runV (As := [.int x10]) (rest := []) C hml hR hS (m_X6_cut l gg x1 x10 S104 h) b_X6_cut q_18_11 (by rw [hK_x1]; decide) (s_E_7 hK_x1) rfl rfl rfl rfl ⟨Nat.le_of_ble_eq_true rfl, Nat.le_of_ble_eq_true rfl⟩ rfl hl.1 (Nat.le_of_ble_eq_true rfl) dL_law_714 ⟨hk.1, hk.2⟩) hS (fun x107 S106 H locs hn hR hS => ?_)
    replace h := hn
    clear hn
    refine lv_istore (lv' := [(13, .int x107), (12, .int x105), (0, .ref bb), (1, .ref x1), (2, .int x2), (3, .int x3), (4, .ref x4), (5, .ref x5), (6, .int x6), (7, .int x7), (8, .int x8), (9, .int x9), (10, .int x10)]) hx hb dL_law_717 hl (by decide) rfl (fun ls hl => ?_)
    refine lv_iload hx hb dL_law_719 (lv_at hl 0 rfl) ?_
    refine lv_iload hx hb dL_law_721 (lv_at hl 1 rfl) ?_
    refine lv_bipush (v := 110) hx hb dL_law_723 (by decide) ?_
    refine lv_imul hx hb dL_law_725 ?_
    refine lv_topi (fun x108 ex108 => ?_)
    replace h := h x108 ex108
    refine lv_bipush (v := 100) hx hb dL_law_726 (by decide) ?_
    refine lv_idiv hx hb dL_law_728 (by decide) ?_
    refine lv_topi (fun x109 ex109 => ?_)
    replace h := h x109 ex109
    refine lv_icmp_gt (tgt := 769) hx hb dL_law_729 (by decide) (fun hc110 => ?_) (fun hc110 => ?_)
    · replace h := h.1 hc110
      exact tA_L_law_b769 C hml hst hX hbl hbA hret hk  h H locs ls hR hS (lv_sub (l' := []) hl [] rfl)
    · replace h := h.2 hc110
      refine lv_iload hx hb dL_law_732 (lv_at hl 0 rfl) ?_
      refine lv_iload hx hb dL_law_734 (lv_at hl 1 rfl) ?_
      refine lv_bipush (v := 90) hx hb dL_law_736 (by decide) ?_
      refine lv_imul hx hb dL_law_738 ?_
      refine lv_topi (fun x111 ex111 => ?_)
      replace h := h x111 ex111
      refine lv_bipush (v := 100) hx hb dL_law_739 (by decide) ?_
      refine lv_idiv hx hb dL_law_741 (by decide) ?_
      refine lv_topi (fun x112 ex112 => ?_)
      replace h := h x112 ex112
      refine lv_icmp_lt (tgt := 769) hx hb dL_law_742 (by decide) (fun hc113 => ?_) (fun hc113 => ?_)
      · replace h := h.1 hc113
        exact tA_L_law_b769 C hml hst hX hbl hbA hret hk  h H locs ls hR hS (lv_sub (l' := []) hl [] rfl)
      · replace h := h.2 hc113
        refine lv_aload_n hx hb dL_law_745 rfl (lv_at hl 3 rfl) ?_
        refine lv_iload hx hb dL_law_746 (lv_at hl 12 rfl) ?_
        refine lv_iconst (v := 0) hx hb dL_law_748 (by decide) ?_
        obtain ⟨hK_x1, h⟩ := h
        refine x_ki (x_runV (As := [.int x10, .int (0 : Int32)]) (rest := []) C hml hR hS (m_X6_thought l gg x1 x10 (0 : Int32) S106 h) b_X6_thought q_19_2 (by rw [hK_x1]; decide) (s_E_7 hK_x1) rfl rfl rfl rfl ⟨Nat.le_of_ble_eq_true rfl, Nat.le_of_ble_eq_true rfl⟩ rfl hl.1 (Nat.le_of_ble_eq_true rfl) dL_law_749 ⟨hk.1, hk.2⟩) hS (fun x115 S114 H locs hn hR hS => ?_)
        replace h := hn
        clear hn
        refine lv_iload hx hb dL_law_752 (lv_at hl 1 rfl) ?_
        refine lv_icmp_gt (tgt := 769) hx hb dL_law_754 (by decide) (fun hc116 => ?_) (fun hc116 => ?_)
        · replace h := h.1 hc116
          exact tA_L_law_b769 C hml hst hX hbl hbA hret hk  h H locs ls hR hS (lv_sub (l' := []) hl [] rfl)
        · replace h := h.2 hc116
          refine lv_aload_n hx hb dL_law_757 rfl (lv_at hl 3 rfl) ?_
          refine lv_iload hx hb dL_law_758 (lv_at hl 12 rfl) ?_
          refine lv_iconst (v := 1) hx hb dL_law_760 (by decide) ?_
          obtain ⟨hK_x1, h⟩ := h
          refine x_ki (x_runV (As := [.int x10, .int (1 : Int32)]) (rest := []) C hml hR hS (m_X6_thought l gg x1 x10 (1 : Int32) S114 h) b_X6_thought q_19_2 (by rw [hK_x1]; decide) (s_E_7 hK_x1) rfl rfl rfl rfl ⟨Nat.le_of_ble_eq_true rfl, Nat.le_of_ble_eq_true rfl⟩ rfl hl.1 (Nat.le_of_ble_eq_true rfl) dL_law_761 ⟨hk.1, hk.2⟩) hS (fun x118 S117 H locs hn hR hS => ?_)
          replace h := hn
          clear hn
          refine lv_iload hx hb dL_law_764 (lv_at hl 1 rfl) ?_
          refine lv_icmp_ge (tgt := 771) hx hb dL_law_766 (by decide) (fun hc119 => ?_) (fun hc119 => ?_)
          · replace h := h.1 hc119
            refine lv_iload hx hb dL_law_771 (lv_at hl 11 rfl) ?_
            refine lv_bipush (v := 6) hx hb dL_law_773 (by decide) ?_
            refine lv_ishr hx hb dL_law_775 ?_
            refine lv_topi (fun x120 ex120 => ?_)
            replace h := h x120 ex120
            refine lv_iconst (v := 2) hx hb dL_law_776 (by decide) ?_
            refine x_ki (x_runS (As := [.int x120, .int (2 : Int32)]) (rest := []) C hml hR hS (m_L_below l gg x120 (2 : Int32) S117 h) b_L_below q_3_2 rfl rfl ⟨Nat.le_of_ble_eq_true rfl, Nat.le_of_ble_eq_true rfl⟩ rfl hl.1 (Nat.le_of_ble_eq_true rfl) dL_law_777 ⟨hk.1, hk.2⟩) hS (fun x122 S121 H locs hn hR hS => ?_)
            replace h := hn
            clear hn
            refine lv_if_ne (tgt := 786) hx hb dL_law_780 (by decide) (fun hc123 => ?_) (fun hc123 => ?_)
            · replace h := h.1 hc123
              refine lv_iload hx hb dL_law_786 (lv_at hl 9 rfl) ?_
              refine lv_iload hx hb dL_law_788 (lv_at hl 1 rfl) ?_
              refine lv_iadd hx hb dL_law_790 ?_
              refine lv_topi (fun x124 ex124 => ?_)
              replace h := h x124 ex124
              refine lv_istore (lv' := [(7, .int x124), (13, .int x107), (12, .int x105), (0, .ref bb), (1, .ref x1), (2, .int x2), (3, .int x3), (4, .ref x4), (5, .ref x5), (6, .int x6), (8, .int x8), (9, .int x9), (10, .int x10)]) hx hb dL_law_791 hl (by decide) rfl (fun ls hl => ?_)
              refine lv_aload_n hx hb dL_law_793 rfl (lv_at hl 4 rfl) ?_
              refine lv_iload hx hb dL_law_794 (lv_at hl 12 rfl) ?_
              refine lv_iload hx hb dL_law_796 (lv_at hl 11 rfl) ?_
              refine lv_bipush (v := 7) hx hb dL_law_798 (by decide) ?_
              refine lv_ishr hx hb dL_law_800 ?_
              refine lv_topi (fun x125 ex125 => ?_)
              replace h := h x125 ex125
              refine lv_iconst (v := 2) hx hb dL_law_801 (by decide) ?_
              refine x_ki (x_runS (As := [.int x125, .int (2 : Int32)]) (rest := [.int x10, .ref x1]) C hml hR hS (m_L_below l gg x125 (2 : Int32) S121 h) b_L_below q_3_2 rfl rfl ⟨Nat.le_of_ble_eq_true rfl, Nat.le_of_ble_eq_true rfl⟩ rfl hl.1 (Nat.le_of_ble_eq_true rfl) dL_law_802 ⟨hk.1, hk.2⟩) hS (fun x127 S126 H locs hn hR hS => ?_)
              replace h := hn
              clear hn
              refine lv_if_ne (tgt := 812) hx hb dL_law_805 (by decide) (fun hc128 => ?_) (fun hc128 => ?_)
              · replace h := h.1 hc128
                refine lv_iconst (v := 0) hx hb dL_law_812 (by decide) ?_
                exact tA_L_law_b813 C hml hst hX hbl hbA hret hk hk242 h H locs ls hR hS (lv_sub (l' := [(0, .ref bb), (1, .ref x1), (2, .int x2), (3, .int x3), (4, .ref x4), (5, .ref x5), (6, .int x6), (7, .int x124), (8, .int x8), (12, .int x105)]) hl [3, 4, 5, 6, 7, 8, 9, 0, 10, 2] rfl)
              · replace h := h.2 hc128
                refine lv_iconst (v := 1) hx hb dL_law_808 (by decide) ?_
                refine lv_goto (tgt := 813) hx hb dL_law_809 (by decide) ?_
                exact tA_L_law_b813 C hml hst hX hbl hbA hret hk hk242 h H locs ls hR hS (lv_sub (l' := [(0, .ref bb), (1, .ref x1), (2, .int x2), (3, .int x3), (4, .ref x4), (5, .ref x5), (6, .int x6), (7, .int x124), (8, .int x8), (12, .int x105)]) hl [3, 4, 5, 6, 7, 8, 9, 0, 10, 2] rfl)
            · replace h := h.2 hc123
              refine lv_goto (tgt := 884) hx hb dL_law_783 (by decide) ?_
              exact tA_L_law_b884 C hml hst hX hbl hbA hret hk hk242 h H locs ls hR hS (lv_sub (l' := [(0, .ref bb), (1, .ref x1), (2, .int x2), (3, .int x3), (4, .ref x4), (5, .ref x5), (6, .int x6), (7, .int x7), (8, .int x8)]) hl [2, 3, 4, 5, 6, 7, 8, 9, 10] rfl)
          · replace h := h.2 hc119
            exact tA_L_law_b769 C hml hst hX hbl hbA hret hk  h H locs ls hR hS (lv_sub (l' := []) hl [] rfl)
  · replace h := h.2 hc103
    refine lv_goto (tgt := 884) hx hb dL_law_698 (by decide) ?_
    exact tA_L_law_b884 C hml hst hX hbl hbA hret hk hk242 h H locs ls hR hS (lv_sub (l' := [(0, .ref bb), (1, .ref x1), (2, .int x2), (3, .int x3), (4, .ref x4), (5, .ref x5), (6, .int x6), (7, .int x7), (8, .int x8)]) hl [0, 1, 2, 3, 4, 5, 6, 7, 8] rfl)
set_option maxHeartbeats 4000000 in
theorem tA_L_law_b435 {sc : Nat × (Nat → Int32)} {mc ms : Nat} (C : x_C p s m args c cL_law RL gg) (hml : c.maxLocals = 14) (hst : l.stackTraces = false) (hX : va_X bb sc.1 sc.2 s s.heap) (hbl : bb < s.heap.size) (hbA : ¬ s_A gg bb) (hret : ∀ (pc : Nat) (H : Heap) (ls : Array Slot) (locs : List Loc), decode cL_law pc = .ok (.ireturn, 1) → (∀ q ∈ locs, s_A gg q.base) → W p l e (rA_L_law mc ms) s m args below meth c H locs mc ms QQ (F0 m pc ls [.int 1])) {kc ks : Nat} (hk : kc ≤ mc ∧ ks ≤ ms)   {S : sT}  (h : wA_L_law_b435 mc ms kc ks  S  sc) : x_X p l e (rA_L_law mc ms) s m args below meth c gg 14 kc ks QQ 435 [] [] S := by
  unfold wA_L_law_b435 at h
  obtain ⟨hx, hb, -⟩ := id C
  intro H locs ls hR hS hl
  refine lv_iconst (v := 0) hx hb dL_law_435 (by decide) ?_
  exact h.elim
set_option maxHeartbeats 4000000 in
theorem tA_L_law_b432 {sc : Nat × (Nat → Int32)} {mc ms : Nat} (C : x_C p s m args c cL_law RL gg) (hml : c.maxLocals = 14) (hst : l.stackTraces = false) (hX : va_X bb sc.1 sc.2 s s.heap) (hbl : bb < s.heap.size) (hbA : ¬ s_A gg bb) (hret : ∀ (pc : Nat) (H : Heap) (ls : Array Slot) (locs : List Loc), decode cL_law pc = .ok (.ireturn, 1) → (∀ q ∈ locs, s_A gg q.base) → W p l e (rA_L_law mc ms) s m args below meth c H locs mc ms QQ (F0 m pc ls [.int 1])) {kc ks : Nat} (hk : kc ≤ mc ∧ ks ≤ ms) {x1 : Nat} {x2 : Int32} {x3 : Int32} {x4 : Nat} {x5 : Nat} {x6 : Int32} {x7 : Int32} {x8 : Int32} {y0 : Int32} {y1 : Int32} {kk242 : Nat → Nat → Nat → Int32 → Int32 → Nat → Nat → Int32 → Int32 → Int32 → sT → Prop} {S : sT} (hk242 : ∀ (kc ks : Nat) (x1 : Nat) (x2 : Int32) (x3 : Int32) (x4 : Nat) (x5 : Nat) (x6 : Int32) (x7 : Int32) (x8 : Int32) (S : sT), kc ≤ mc ∧ ks ≤ ms → kk242 kc ks x1 x2 x3 x4 x5 x6 x7 x8 S → x_X p l e (rA_L_law mc ms) s m args below meth c gg 14 kc ks QQ 242 [(0, .ref bb), (1, .ref x1), (2, .int x2), (3, .int x3), (4, .ref x4), (5, .ref x5), (6, .int x6), (7, .int x7), (8, .int x8)] [] S) (h : wA_L_law_b432 mc ms kc ks x1 x2 x3 x4 x5 x6 x7 x8 y0 y1 S kk242 sc) : x_X p l e (rA_L_law mc ms) s m args below meth c gg 14 kc ks QQ 432 [(0, .ref bb), (1, .ref x1), (2, .int x2), (3, .int x3), (4, .ref x4), (5, .ref x5), (6, .int x6), (7, .int x7), (8, .int x8)] [.int y0, .int y1] S := by
  unfold wA_L_law_b432 at h
  obtain ⟨hx, hb, -⟩ := id C
  intro H locs ls hR hS hl
  refine lv_icmp_eq (tgt := 884) hx hb dL_law_432 (by decide) (fun hc101 => ?_) (fun hc101 => ?_)
  · replace h := h.1 hc101
    exact tA_L_law_b884 C hml hst hX hbl hbA hret hk hk242 h H locs ls hR hS (lv_sub (l' := [(0, .ref bb), (1, .ref x1), (2, .int x2), (3, .int x3), (4, .ref x4), (5, .ref x5), (6, .int x6), (7, .int x7), (8, .int x8)]) hl [0, 1, 2, 3, 4, 5, 6, 7, 8] rfl)
  · replace h := h.2 hc101
    exact tA_L_law_b435 C hml hst hX hbl hbA hret hk  h H locs ls hR hS (lv_sub (l' := []) hl [] rfl)
set_option maxHeartbeats 4000000 in
theorem tA_L_law_b399 {sc : Nat × (Nat → Int32)} {mc ms : Nat} (C : x_C p s m args c cL_law RL gg) (hml : c.maxLocals = 14) (hst : l.stackTraces = false) (hX : va_X bb sc.1 sc.2 s s.heap) (hbl : bb < s.heap.size) (hbA : ¬ s_A gg bb) (hret : ∀ (pc : Nat) (H : Heap) (ls : Array Slot) (locs : List Loc), decode cL_law pc = .ok (.ireturn, 1) → (∀ q ∈ locs, s_A gg q.base) → W p l e (rA_L_law mc ms) s m args below meth c H locs mc ms QQ (F0 m pc ls [.int 1])) {kc ks : Nat} (hk : kc ≤ mc ∧ ks ≤ ms) {x1 : Nat} {x2 : Int32} {x3 : Int32} {x4 : Nat} {x5 : Nat} {x6 : Int32} {x7 : Int32} {x8 : Int32} {x9 : Int32} {x10 : Int32} {x12 : Int32} {y0 : Int32} {y1 : Int32} {y2 : Nat} {kk242 : Nat → Nat → Nat → Int32 → Int32 → Nat → Nat → Int32 → Int32 → Int32 → sT → Prop} {S : sT} (hk242 : ∀ (kc ks : Nat) (x1 : Nat) (x2 : Int32) (x3 : Int32) (x4 : Nat) (x5 : Nat) (x6 : Int32) (x7 : Int32) (x8 : Int32) (S : sT), kc ≤ mc ∧ ks ≤ ms → kk242 kc ks x1 x2 x3 x4 x5 x6 x7 x8 S → x_X p l e (rA_L_law mc ms) s m args below meth c gg 14 kc ks QQ 242 [(0, .ref bb), (1, .ref x1), (2, .int x2), (3, .int x3), (4, .ref x4), (5, .ref x5), (6, .int x6), (7, .int x7), (8, .int x8)] [] S) (h : wA_L_law_b399 mc ms kc ks x1 x2 x3 x4 x5 x6 x7 x8 x9 x10 x12 y0 y1 y2 S kk242 sc) : x_X p l e (rA_L_law mc ms) s m args below meth c gg 14 kc ks QQ 399 [(0, .ref bb), (1, .ref x1), (2, .int x2), (3, .int x3), (4, .ref x4), (5, .ref x5), (6, .int x6), (7, .int x7), (8, .int x8), (9, .int x9), (10, .int x10), (12, .int x12)] [.int y0, .int y1, .ref y2] S := by
  unfold wA_L_law_b399 at h
  obtain ⟨hx, hb, -⟩ := id C
  intro H locs ls hR hS hl
  obtain ⟨hK_y2, h⟩ := h
  refine x_ki (x_runV (As := [.int y1, .int y0]) (rest := []) C hml hR hS (m_X6_gate l gg y2 y1 y0 S h) b_X6_gate q_10_7 (by rw [hK_y2]; decide) (s_E_7 hK_y2) rfl rfl rfl rfl ⟨Nat.le_of_ble_eq_true rfl, Nat.le_of_ble_eq_true rfl⟩ rfl hl.1 (Nat.le_of_ble_eq_true rfl) dL_law_399 ⟨hk.1, hk.2⟩) hS (fun x102 S101 H locs hn hR hS => ?_)
  replace h := hn
  clear hn
  refine lv_iload hx hb dL_law_402 (lv_at hl 11 rfl) ?_
  refine lv_icmp_ne (tgt := 435) hx hb dL_law_404 (by decide) (fun hc103 => ?_) (fun hc103 => ?_)
  · replace h := h.1 hc103
    exact tA_L_law_b435 C hml hst hX hbl hbA hret hk  h H locs ls hR hS (lv_sub (l' := []) hl [] rfl)
  · replace h := h.2 hc103
    refine lv_aload_n hx hb dL_law_407 rfl (lv_at hl 1 rfl) ?_
    refine lv_iload hx hb dL_law_408 (lv_at hl 10 rfl) ?_
    refine lv_bipush (v := 13) hx hb dL_law_410 (by decide) ?_
    obtain ⟨hK_x1, h⟩ := h
    refine x_ki (x_runV (As := [.int x10, .int (13 : Int32)]) (rest := []) C hml hR hS (m_X6_ofField l gg x1 x10 (13 : Int32) S101 h) b_X6_ofField q_10_17 (by rw [hK_x1]; decide) (s_E_7 hK_x1) rfl rfl rfl rfl ⟨Nat.le_of_ble_eq_true rfl, Nat.le_of_ble_eq_true rfl⟩ rfl hl.1 (Nat.le_of_ble_eq_true rfl) dL_law_412 ⟨hk.1, hk.2⟩) hS (fun x105 S104 H locs hn hR hS => ?_)
    replace h := hn
    clear hn
    refine lv_iload hx hb dL_law_415 (lv_at hl 9 rfl) ?_
    refine lv_bipush (v := 6) hx hb dL_law_417 (by decide) ?_
    refine lv_ishr hx hb dL_law_419 ?_
    refine lv_topi (fun x106 ex106 => ?_)
    replace h := h x106 ex106
    refine lv_iconst (v := 3) hx hb dL_law_420 (by decide) ?_
    refine x_ki (x_runS (As := [.int x106, .int (3 : Int32)]) (rest := [.int x105]) C hml hR hS (m_L_below l gg x106 (3 : Int32) S104 h) b_L_below q_3_2 rfl rfl ⟨Nat.le_of_ble_eq_true rfl, Nat.le_of_ble_eq_true rfl⟩ rfl hl.1 (Nat.le_of_ble_eq_true rfl) dL_law_421 ⟨hk.1, hk.2⟩) hS (fun x108 S107 H locs hn hR hS => ?_)
    replace h := hn
    clear hn
    refine lv_if_le (tgt := 431) hx hb dL_law_424 (by decide) (fun hc109 => ?_) (fun hc109 => ?_)
    · replace h := h.1 hc109
      refine lv_iconst (v := 0) hx hb dL_law_431 (by decide) ?_
      exact tA_L_law_b432 C hml hst hX hbl hbA hret hk hk242 h H locs ls hR hS (lv_sub (l' := [(0, .ref bb), (1, .ref x1), (2, .int x2), (3, .int x3), (4, .ref x4), (5, .ref x5), (6, .int x6), (7, .int x7), (8, .int x8)]) hl [0, 1, 2, 3, 4, 5, 6, 7, 8] rfl)
    · replace h := h.2 hc109
      refine lv_iconst (v := 1) hx hb dL_law_427 (by decide) ?_
      refine lv_goto (tgt := 432) hx hb dL_law_428 (by decide) ?_
      exact tA_L_law_b432 C hml hst hX hbl hbA hret hk hk242 h H locs ls hR hS (lv_sub (l' := [(0, .ref bb), (1, .ref x1), (2, .int x2), (3, .int x3), (4, .ref x4), (5, .ref x5), (6, .int x6), (7, .int x7), (8, .int x8)]) hl [0, 1, 2, 3, 4, 5, 6, 7, 8] rfl)
set_option maxHeartbeats 4000000 in
theorem tA_L_law_b377 {sc : Nat × (Nat → Int32)} {mc ms : Nat} (C : x_C p s m args c cL_law RL gg) (hml : c.maxLocals = 14) (hst : l.stackTraces = false) (hX : va_X bb sc.1 sc.2 s s.heap) (hbl : bb < s.heap.size) (hbA : ¬ s_A gg bb) (hret : ∀ (pc : Nat) (H : Heap) (ls : Array Slot) (locs : List Loc), decode cL_law pc = .ok (.ireturn, 1) → (∀ q ∈ locs, s_A gg q.base) → W p l e (rA_L_law mc ms) s m args below meth c H locs mc ms QQ (F0 m pc ls [.int 1])) {kc ks : Nat} (hk : kc ≤ mc ∧ ks ≤ ms) {x1 : Nat} {x2 : Int32} {x3 : Int32} {x4 : Nat} {x5 : Nat} {x6 : Int32} {x7 : Int32} {x8 : Int32} {x9 : Int32} {x10 : Int32} {y0 : Int32} {kk242 : Nat → Nat → Nat → Int32 → Int32 → Nat → Nat → Int32 → Int32 → Int32 → sT → Prop} {S : sT} (hk242 : ∀ (kc ks : Nat) (x1 : Nat) (x2 : Int32) (x3 : Int32) (x4 : Nat) (x5 : Nat) (x6 : Int32) (x7 : Int32) (x8 : Int32) (S : sT), kc ≤ mc ∧ ks ≤ ms → kk242 kc ks x1 x2 x3 x4 x5 x6 x7 x8 S → x_X p l e (rA_L_law mc ms) s m args below meth c gg 14 kc ks QQ 242 [(0, .ref bb), (1, .ref x1), (2, .int x2), (3, .int x3), (4, .ref x4), (5, .ref x5), (6, .int x6), (7, .int x7), (8, .int x8)] [] S) (h : wA_L_law_b377 mc ms kc ks x1 x2 x3 x4 x5 x6 x7 x8 x9 x10 y0 S kk242 sc) : x_X p l e (rA_L_law mc ms) s m args below meth c gg 14 kc ks QQ 377 [(0, .ref bb), (1, .ref x1), (2, .int x2), (3, .int x3), (4, .ref x4), (5, .ref x5), (6, .int x6), (7, .int x7), (8, .int x8), (9, .int x9), (10, .int x10)] [.int y0] S := by
  unfold wA_L_law_b377 at h
  obtain ⟨hx, hb, -⟩ := id C
  intro H locs ls hR hS hl
  refine lv_istore (lv' := [(12, .int y0), (0, .ref bb), (1, .ref x1), (2, .int x2), (3, .int x3), (4, .ref x4), (5, .ref x5), (6, .int x6), (7, .int x7), (8, .int x8), (9, .int x9), (10, .int x10)]) hx hb dL_law_377 hl (by decide) rfl (fun ls hl => ?_)
  refine lv_aload_n hx hb dL_law_379 rfl (lv_at hl 2 rfl) ?_
  refine lv_iload hx hb dL_law_380 (lv_at hl 11 rfl) ?_
  refine lv_iload hx hb dL_law_382 (lv_at hl 10 rfl) ?_
  refine lv_bipush (v := 6) hx hb dL_law_384 (by decide) ?_
  refine lv_ishr hx hb dL_law_386 ?_
  refine lv_topi (fun x101 ex101 => ?_)
  replace h := h x101 ex101
  refine lv_iconst (v := 3) hx hb dL_law_387 (by decide) ?_
  refine x_ki (x_runS (As := [.int x101, .int (3 : Int32)]) (rest := [.int x10, .ref x1]) C hml hR hS (m_L_below l gg x101 (3 : Int32) S h) b_L_below q_3_2 rfl rfl ⟨Nat.le_of_ble_eq_true rfl, Nat.le_of_ble_eq_true rfl⟩ rfl hl.1 (Nat.le_of_ble_eq_true rfl) dL_law_388 ⟨hk.1, hk.2⟩) hS (fun x103 S102 H locs hn hR hS => ?_)
  replace h := hn
  clear hn
  refine lv_if_le (tgt := 398) hx hb dL_law_391 (by decide) (fun hc104 => ?_) (fun hc104 => ?_)
  · replace h := h.1 hc104
    refine lv_iconst (v := 0) hx hb dL_law_398 (by decide) ?_
    exact tA_L_law_b399 C hml hst hX hbl hbA hret hk hk242 h H locs ls hR hS (lv_sub (l' := [(0, .ref bb), (1, .ref x1), (2, .int x2), (3, .int x3), (4, .ref x4), (5, .ref x5), (6, .int x6), (7, .int x7), (8, .int x8), (9, .int x9), (10, .int x10), (12, .int y0)]) hl [1, 2, 3, 4, 5, 6, 7, 8, 9, 10, 11, 0] rfl)
  · replace h := h.2 hc104
    refine lv_iconst (v := 1) hx hb dL_law_394 (by decide) ?_
    refine lv_goto (tgt := 399) hx hb dL_law_395 (by decide) ?_
    exact tA_L_law_b399 C hml hst hX hbl hbA hret hk hk242 h H locs ls hR hS (lv_sub (l' := [(0, .ref bb), (1, .ref x1), (2, .int x2), (3, .int x3), (4, .ref x4), (5, .ref x5), (6, .int x6), (7, .int x7), (8, .int x8), (9, .int x9), (10, .int x10), (12, .int y0)]) hl [1, 2, 3, 4, 5, 6, 7, 8, 9, 10, 11, 0] rfl)
set_option maxHeartbeats 4000000 in
theorem tA_L_law_b552 {sc : Nat × (Nat → Int32)} {mc ms : Nat} (C : x_C p s m args c cL_law RL gg) (hml : c.maxLocals = 14) (hst : l.stackTraces = false) (hX : va_X bb sc.1 sc.2 s s.heap) (hbl : bb < s.heap.size) (hbA : ¬ s_A gg bb) (hret : ∀ (pc : Nat) (H : Heap) (ls : Array Slot) (locs : List Loc), decode cL_law pc = .ok (.ireturn, 1) → (∀ q ∈ locs, s_A gg q.base) → W p l e (rA_L_law mc ms) s m args below meth c H locs mc ms QQ (F0 m pc ls [.int 1])) {kc ks : Nat} (hk : kc ≤ mc ∧ ks ≤ ms)   {S : sT}  (h : wA_L_law_b552 mc ms kc ks  S  sc) : x_X p l e (rA_L_law mc ms) s m args below meth c gg 14 kc ks QQ 552 [] [] S := by
  unfold wA_L_law_b552 at h
  obtain ⟨hx, hb, -⟩ := id C
  intro H locs ls hR hS hl
  refine lv_iconst (v := 0) hx hb dL_law_552 (by decide) ?_
  exact h.elim
set_option maxHeartbeats 4000000 in
theorem tA_L_law_b478 {sc : Nat × (Nat → Int32)} {mc ms : Nat} (C : x_C p s m args c cL_law RL gg) (hml : c.maxLocals = 14) (hst : l.stackTraces = false) (hX : va_X bb sc.1 sc.2 s s.heap) (hbl : bb < s.heap.size) (hbA : ¬ s_A gg bb) (hret : ∀ (pc : Nat) (H : Heap) (ls : Array Slot) (locs : List Loc), decode cL_law pc = .ok (.ireturn, 1) → (∀ q ∈ locs, s_A gg q.base) → W p l e (rA_L_law mc ms) s m args below meth c H locs mc ms QQ (F0 m pc ls [.int 1])) {kc ks : Nat} (hk : kc ≤ mc ∧ ks ≤ ms) {x1 : Nat} {x2 : Int32} {x3 : Int32} {x4 : Nat} {x5 : Nat} {x6 : Int32} {x7 : Int32} {x8 : Int32} {y0 : Int32} {y1 : Int32} {y2 : Nat} {kk242 : Nat → Nat → Nat → Int32 → Int32 → Nat → Nat → Int32 → Int32 → Int32 → sT → Prop} {S : sT} (hk242 : ∀ (kc ks : Nat) (x1 : Nat) (x2 : Int32) (x3 : Int32) (x4 : Nat) (x5 : Nat) (x6 : Int32) (x7 : Int32) (x8 : Int32) (S : sT), kc ≤ mc ∧ ks ≤ ms → kk242 kc ks x1 x2 x3 x4 x5 x6 x7 x8 S → x_X p l e (rA_L_law mc ms) s m args below meth c gg 14 kc ks QQ 242 [(0, .ref bb), (1, .ref x1), (2, .int x2), (3, .int x3), (4, .ref x4), (5, .ref x5), (6, .int x6), (7, .int x7), (8, .int x8)] [] S) (h : wA_L_law_b478 mc ms kc ks x1 x2 x3 x4 x5 x6 x7 x8 y0 y1 y2 S kk242 sc) : x_X p l e (rA_L_law mc ms) s m args below meth c gg 14 kc ks QQ 478 [(0, .ref bb), (1, .ref x1), (2, .int x2), (3, .int x3), (4, .ref x4), (5, .ref x5), (6, .int x6), (7, .int x7), (8, .int x8)] [.int y0, .int y1, .ref y2] S := by
  unfold wA_L_law_b478 at h
  obtain ⟨hx, hb, -⟩ := id C
  intro H locs ls hR hS hl
  obtain ⟨hK_y2, h⟩ := h
  refine x_ki (x_runV (As := [.int y1, .int y0]) (rest := []) C hml hR hS (m_X6_rotate l gg y2 y1 y0 S h) b_X6_rotate q_12_2 (by rw [hK_y2]; decide) (s_E_7 hK_y2) rfl rfl rfl rfl ⟨Nat.le_of_ble_eq_true rfl, Nat.le_of_ble_eq_true rfl⟩ rfl hl.1 (Nat.le_of_ble_eq_true rfl) dL_law_478 ⟨hk.1, hk.2⟩) hS (fun x102 S101 H locs hn hR hS => ?_)
  replace h := hn
  clear hn
  refine lv_pop hx hb dL_law_481 rfl ?_
  refine lv_goto (tgt := 884) hx hb dL_law_482 (by decide) ?_
  exact tA_L_law_b884 C hml hst hX hbl hbA hret hk hk242 h H locs ls hR hS (lv_sub (l' := [(0, .ref bb), (1, .ref x1), (2, .int x2), (3, .int x3), (4, .ref x4), (5, .ref x5), (6, .int x6), (7, .int x7), (8, .int x8)]) hl [0, 1, 2, 3, 4, 5, 6, 7, 8] rfl)
set_option maxHeartbeats 4000000 in
theorem tA_L_law_b518 {sc : Nat × (Nat → Int32)} {mc ms : Nat} (C : x_C p s m args c cL_law RL gg) (hml : c.maxLocals = 14) (hst : l.stackTraces = false) (hX : va_X bb sc.1 sc.2 s s.heap) (hbl : bb < s.heap.size) (hbA : ¬ s_A gg bb) (hret : ∀ (pc : Nat) (H : Heap) (ls : Array Slot) (locs : List Loc), decode cL_law pc = .ok (.ireturn, 1) → (∀ q ∈ locs, s_A gg q.base) → W p l e (rA_L_law mc ms) s m args below meth c H locs mc ms QQ (F0 m pc ls [.int 1])) {kc ks : Nat} (hk : kc ≤ mc ∧ ks ≤ ms) {x1 : Nat} {x2 : Int32} {x3 : Int32} {x4 : Nat} {x5 : Nat} {x6 : Int32} {x7 : Int32} {x8 : Int32} {y0 : Int32} {y1 : Int32} {y2 : Nat} {kk242 : Nat → Nat → Nat → Int32 → Int32 → Nat → Nat → Int32 → Int32 → Int32 → sT → Prop} {S : sT} (hk242 : ∀ (kc ks : Nat) (x1 : Nat) (x2 : Int32) (x3 : Int32) (x4 : Nat) (x5 : Nat) (x6 : Int32) (x7 : Int32) (x8 : Int32) (S : sT), kc ≤ mc ∧ ks ≤ ms → kk242 kc ks x1 x2 x3 x4 x5 x6 x7 x8 S → x_X p l e (rA_L_law mc ms) s m args below meth c gg 14 kc ks QQ 242 [(0, .ref bb), (1, .ref x1), (2, .int x2), (3, .int x3), (4, .ref x4), (5, .ref x5), (6, .int x6), (7, .int x7), (8, .int x8)] [] S) (h : wA_L_law_b518 mc ms kc ks x1 x2 x3 x4 x5 x6 x7 x8 y0 y1 y2 S kk242 sc) : x_X p l e (rA_L_law mc ms) s m args below meth c gg 14 kc ks QQ 518 [(0, .ref bb), (1, .ref x1), (2, .int x2), (3, .int x3), (4, .ref x4), (5, .ref x5), (6, .int x6), (7, .int x7), (8, .int x8)] [.int y0, .int y1, .ref y2] S := by
  unfold wA_L_law_b518 at h
  obtain ⟨hx, hb, -⟩ := id C
  intro H locs ls hR hS hl
  obtain ⟨hK_y2, h⟩ := h
  refine x_ki (x_runV (As := [.int y1, .int y0]) (rest := []) C hml hR hS (m_X6_ducks l gg y2 y1 y0 S h) b_X6_ducks q_12_19 (by rw [hK_y2]; decide) (s_E_7 hK_y2) rfl rfl rfl rfl ⟨Nat.le_of_ble_eq_true rfl, Nat.le_of_ble_eq_true rfl⟩ rfl hl.1 (Nat.le_of_ble_eq_true rfl) dL_law_518 ⟨hk.1, hk.2⟩) hS (fun x102 S101 H locs hn hR hS => ?_)
  replace h := hn
  clear hn
  refine lv_pop hx hb dL_law_521 rfl ?_
  refine lv_goto (tgt := 884) hx hb dL_law_522 (by decide) ?_
  exact tA_L_law_b884 C hml hst hX hbl hbA hret hk hk242 h H locs ls hR hS (lv_sub (l' := [(0, .ref bb), (1, .ref x1), (2, .int x2), (3, .int x3), (4, .ref x4), (5, .ref x5), (6, .int x6), (7, .int x7), (8, .int x8)]) hl [0, 1, 2, 3, 4, 5, 6, 7, 8] rfl)
set_option maxHeartbeats 4000000 in
theorem tA_L_law_b871 {sc : Nat × (Nat → Int32)} {mc ms : Nat} (C : x_C p s m args c cL_law RL gg) (hml : c.maxLocals = 14) (hst : l.stackTraces = false) (hX : va_X bb sc.1 sc.2 s s.heap) (hbl : bb < s.heap.size) (hbA : ¬ s_A gg bb) (hret : ∀ (pc : Nat) (H : Heap) (ls : Array Slot) (locs : List Loc), decode cL_law pc = .ok (.ireturn, 1) → (∀ q ∈ locs, s_A gg q.base) → W p l e (rA_L_law mc ms) s m args below meth c H locs mc ms QQ (F0 m pc ls [.int 1])) {kc ks : Nat} (hk : kc ≤ mc ∧ ks ≤ ms) {x1 : Nat} {x2 : Int32} {x3 : Int32} {x4 : Nat} {x5 : Nat} {x6 : Int32} {x7 : Int32} {x8 : Int32} {y0 : Int32} {y1 : Int32} {y2 : Int32} {y3 : Nat} {kk242 : Nat → Nat → Nat → Int32 → Int32 → Nat → Nat → Int32 → Int32 → Int32 → sT → Prop} {S : sT} (hk242 : ∀ (kc ks : Nat) (x1 : Nat) (x2 : Int32) (x3 : Int32) (x4 : Nat) (x5 : Nat) (x6 : Int32) (x7 : Int32) (x8 : Int32) (S : sT), kc ≤ mc ∧ ks ≤ ms → kk242 kc ks x1 x2 x3 x4 x5 x6 x7 x8 S → x_X p l e (rA_L_law mc ms) s m args below meth c gg 14 kc ks QQ 242 [(0, .ref bb), (1, .ref x1), (2, .int x2), (3, .int x3), (4, .ref x4), (5, .ref x5), (6, .int x6), (7, .int x7), (8, .int x8)] [] S) (h : wA_L_law_b871 mc ms kc ks x1 x2 x3 x4 x5 x6 x7 x8 y0 y1 y2 y3 S kk242 sc) : x_X p l e (rA_L_law mc ms) s m args below meth c gg 14 kc ks QQ 871 [(0, .ref bb), (1, .ref x1), (2, .int x2), (3, .int x3), (4, .ref x4), (5, .ref x5), (6, .int x6), (7, .int x7), (8, .int x8)] [.int y0, .int y1, .int y2, .ref y3] S := by
  unfold wA_L_law_b871 at h
  obtain ⟨hx, hb, -⟩ := id C
  intro H locs ls hR hS hl
  obtain ⟨hK_y3, h⟩ := h
  refine x_ki (x_runV (As := [.int y2, .int y1, .int y0]) (rest := []) C hml hR hS (m_X6_day l gg y3 y2 y1 y0 S h) b_X6_day q_19_23 (by rw [hK_y3]; decide) (s_E_7 hK_y3) rfl rfl rfl rfl ⟨Nat.le_of_ble_eq_true rfl, Nat.le_of_ble_eq_true rfl⟩ rfl hl.1 (Nat.le_of_ble_eq_true rfl) dL_law_871 ⟨hk.1, hk.2⟩) hS (fun x102 S101 H locs hn hR hS => ?_)
  replace h := hn
  clear hn
  refine lv_aload_n hx hb dL_law_874 rfl (lv_at hl 1 rfl) ?_
  refine lv_iconst (v := 2) hx hb dL_law_875 (by decide) ?_
  obtain ⟨hK_x1, h⟩ := h
  refine x_ki (x_runV (As := [.int (2 : Int32)]) (rest := [.int x102]) C hml hR hS (m_X6_many l gg x1 (2 : Int32) S101 h) b_X6_many q_16_15 (by rw [hK_x1]; decide) (s_E_7 hK_x1) rfl rfl rfl rfl ⟨Nat.le_of_ble_eq_true rfl, Nat.le_of_ble_eq_true rfl⟩ rfl hl.1 (Nat.le_of_ble_eq_true rfl) dL_law_876 ⟨hk.1, hk.2⟩) hS (fun x104 S103 H locs hn hR hS => ?_)
  replace h := hn
  clear hn
  refine lv_icmp_eq (tgt := 884) hx hb dL_law_879 (by decide) (fun hc105 => ?_) (fun hc105 => ?_)
  · replace h := h.1 hc105
    exact tA_L_law_b884 C hml hst hX hbl hbA hret hk hk242 h H locs ls hR hS (lv_sub (l' := [(0, .ref bb), (1, .ref x1), (2, .int x2), (3, .int x3), (4, .ref x4), (5, .ref x5), (6, .int x6), (7, .int x7), (8, .int x8)]) hl [0, 1, 2, 3, 4, 5, 6, 7, 8] rfl)
  · replace h := h.2 hc105
    refine lv_iconst (v := 0) hx hb dL_law_882 (by decide) ?_
    exact h.elim
set_option maxHeartbeats 4000000 in
theorem tA_L_law_b242 {sc : Nat × (Nat → Int32)} {mc ms : Nat} (C : x_C p s m args c cL_law RL gg) (hml : c.maxLocals = 14) (hst : l.stackTraces = false) (hX : va_X bb sc.1 sc.2 s s.heap) (hbl : bb < s.heap.size) (hbA : ¬ s_A gg bb) (hret : ∀ (pc : Nat) (H : Heap) (ls : Array Slot) (locs : List Loc), decode cL_law pc = .ok (.ireturn, 1) → (∀ q ∈ locs, s_A gg q.base) → W p l e (rA_L_law mc ms) s m args below meth c H locs mc ms QQ (F0 m pc ls [.int 1]))   : ∀ (n : Nat) (kc ks : Nat) (x1 : Nat) (x2 : Int32) (x3 : Int32) (x4 : Nat) (x5 : Nat) (x6 : Int32) (x7 : Int32) (x8 : Int32) (S : sT), kc ≤ mc ∧ ks ≤ ms → wA_L_law_b242 mc ms  sc n kc ks x1 x2 x3 x4 x5 x6 x7 x8 S → x_X p l e (rA_L_law mc ms) s m args below meth c gg 14 kc ks QQ 242 [(0, .ref bb), (1, .ref x1), (2, .int x2), (3, .int x3), (4, .ref x4), (5, .ref x5), (6, .int x6), (7, .int x7), (8, .int x8)] [] S := by
  obtain ⟨hx, hb, -⟩ := id C
  intro n
  induction n with
  | zero => intro kc ks x1 x2 x3 x4 x5 x6 x7 x8 S hk h; exact absurd h id
  | succ n ih =>
    intro kc ks x1 x2 x3 x4 x5 x6 x7 x8 S hk h H locs ls hR hS hl
    unfold wA_L_law_b242 at h
    refine lv_iload hx hb dL_law_242 (lv_at hl 8 rfl) ?_
    refine lv_bipush (v := 76) hx hb dL_law_244 (by decide) ?_
    refine lv_icmp_ge (tgt := 989) hx hb dL_law_246 (by decide) (fun hc101 => ?_) (fun hc101 => ?_)
    · replace h := h.1 hc101
      refine lv_aload_n hx hb dL_law_989 rfl (lv_at hl 1 rfl) ?_
      obtain ⟨hK_x1, h⟩ := h
      refine x_kl (x_runV (As := []) (rest := []) C hml hR hS (m_X6_digest l gg x1 S h) b_X6_digest q_26_2 (by rw [hK_x1]; decide) (s_E_7 hK_x1) rfl rfl rfl rfl ⟨Nat.le_of_ble_eq_true rfl, Nat.le_of_ble_eq_true rfl⟩ rfl hl.1 (Nat.le_of_ble_eq_true rfl) dL_law_990 ⟨hk.1, hk.2⟩) hS (fun j103 S102 H locs hn hR hS => ?_)
      replace h := hn
      clear hn
      refine lv_lstore (lv' := [(8, .long j103), (0, .ref bb), (1, .ref x1), (2, .int x2), (3, .int x3), (4, .ref x4), (5, .ref x5), (6, .int x6), (7, .int x7)]) hx hb dL_law_993 hl (by decide) rfl (fun ls hl => ?_)
      refine lv_aload_n hx hb dL_law_995 rfl (lv_at hl 2 rfl) ?_
      refine lv_iload_n hx hb dL_law_996 rfl (lv_at hl 3 rfl) ?_
      refine lv_iload_n hx hb dL_law_997 rfl (lv_at hl 4 rfl) ?_
      refine lv_aload hx hb dL_law_998 (lv_at hl 5 rfl) ?_
      refine lv_iload hx hb dL_law_1000 (lv_at hl 7 rfl) ?_
      refine x_ki (x_runS (As := [.ref x1, .int x2, .int x3, .ref x4, .int x6]) (rest := []) C hml hR hS (m_L_isSo l gg x1 x2 x3 x4 x6 S102 h) b_L_isSo q_24_17 rfl rfl ⟨Nat.le_of_ble_eq_true rfl, Nat.le_of_ble_eq_true rfl⟩ rfl hl.1 (Nat.le_of_ble_eq_true rfl) dL_law_1002 ⟨hk.1, hk.2⟩) hS (fun x105 S104 H locs hn hR hS => ?_)
      replace h := hn
      clear hn
      refine lv_if_eq (tgt := 1022) hx hb dL_law_1005 (by decide) (fun hc106 => ?_) (fun hc106 => ?_)
      · replace h := h.1 hc106
        exact tA_L_law_b1022 C hml hst hX hbl hbA hret hk  h H locs ls hR hS (lv_sub (l' := []) hl [] rfl)
      · replace h := h.2 hc106
        refine lv_aload_n hx hb dL_law_1008 rfl (lv_at hl 2 rfl) ?_
        obtain ⟨hK_x1, h⟩ := h
        refine x_kl (x_runV (As := []) (rest := []) C hml hR hS (m_X6_digest l gg x1 S104 h) b_X6_digest q_26_2 (by rw [hK_x1]; decide) (s_E_7 hK_x1) rfl rfl rfl rfl ⟨Nat.le_of_ble_eq_true rfl, Nat.le_of_ble_eq_true rfl⟩ rfl hl.1 (Nat.le_of_ble_eq_true rfl) dL_law_1009 ⟨hk.1, hk.2⟩) hS (fun j108 S107 H locs hn hR hS => ?_)
        replace h := hn
        clear hn
        refine lv_lload hx hb dL_law_1012 (lv_at hl 0 rfl) ?_
        refine W.lcmp hx hb dL_law_1014 ?_
        refine lv_topi (fun x109 ex109 => ?_)
        replace h := h x109 ex109
        refine lv_if_ne (tgt := 1022) hx hb dL_law_1015 (by decide) (fun hc110 => ?_) (fun hc110 => ?_)
        · replace h := h.1 hc110
          exact tA_L_law_b1022 C hml hst hX hbl hbA hret hk  h H locs ls hR hS (lv_sub (l' := []) hl [] rfl)
        · replace h := h.2 hc110
          refine lv_iconst (v := 1) hx hb dL_law_1018 (by decide) ?_
          refine lv_goto (tgt := 1023) hx hb dL_law_1019 (by decide) ?_
          exact tA_L_law_b1023 C hml hst hX hbl hbA hret hk  h H locs ls hR hS (lv_sub (l' := []) hl [] rfl)
    · replace h := h.2 hc101
      refine lv_aload_n hx hb dL_law_249 rfl (lv_at hl 0 rfl) ?_
      refine lv_bipush (v := 9) hx hb dL_law_250 (by decide) ?_
      refine lv_iload hx hb dL_law_252 (lv_at hl 8 rfl) ?_
      refine lv_bipush (v := 20) hx hb dL_law_254 (by decide) ?_
      refine lv_irem hx hb dL_law_256 (by decide) ?_
      refine lv_topi (fun x111 ex111 => ?_)
      replace h := h x111 ex111
      refine lv_iadd hx hb dL_law_257 ?_
      refine lv_topi (fun x112 ex112 => ?_)
      replace h := h x112 ex112
      refine x_ki (x_runSX (As := [.ref bb, .int x112]) (rest := []) C hml hR hS hX hbl hbA (m_L_cell l gg bb sc x112 S h) b_L_cell q_2_21 rfl rfl ⟨Nat.le_of_ble_eq_true rfl, Nat.le_of_ble_eq_true rfl⟩ rfl hl.1 (Nat.le_of_ble_eq_true rfl) dL_law_258 ⟨hk.1, hk.2⟩) hS (fun x114 S113 H locs hn hR hS => ?_)
      replace h := hn
      clear hn
      refine lv_iload hx hb dL_law_261 (lv_at hl 8 rfl) ?_
      refine lv_bipush (v := 20) hx hb dL_law_263 (by decide) ?_
      refine lv_idiv hx hb dL_law_265 (by decide) ?_
      refine lv_topi (fun x115 ex115 => ?_)
      replace h := h x115 ex115
      refine lv_iconst (v := 3) hx hb dL_law_266 (by decide) ?_
      refine lv_imul hx hb dL_law_267 ?_
      refine lv_topi (fun x116 ex116 => ?_)
      replace h := h x116 ex116
      refine lv_ishr hx hb dL_law_268 ?_
      refine lv_topi (fun x117 ex117 => ?_)
      replace h := h x117 ex117
      refine lv_istore (lv' := [(9, .int x117), (0, .ref bb), (1, .ref x1), (2, .int x2), (3, .int x3), (4, .ref x4), (5, .ref x5), (6, .int x6), (7, .int x7), (8, .int x8)]) hx hb dL_law_269 hl (by decide) rfl (fun ls hl => ?_)
      refine lv_iload hx hb dL_law_271 (lv_at hl 0 rfl) ?_
      refine lv_iconst (v := 4) hx hb dL_law_273 (by decide) ?_
      refine lv_ishr hx hb dL_law_274 ?_
      refine lv_topi (fun x118 ex118 => ?_)
      replace h := h x118 ex118
      refine lv_iload_n hx hb dL_law_275 rfl (lv_at hl 4 rfl) ?_
      refine x_ki (x_runS (As := [.int x118, .int x3]) (rest := []) C hml hR hS (m_L_below l gg x118 x3 S113 h) b_L_below q_3_2 rfl rfl ⟨Nat.le_of_ble_eq_true rfl, Nat.le_of_ble_eq_true rfl⟩ rfl hl.1 (Nat.le_of_ble_eq_true rfl) dL_law_276 ⟨hk.1, hk.2⟩) hS (fun x120 S119 H locs hn hR hS => ?_)
      replace h := hn
      clear hn
      refine lv_istore (lv' := [(10, .int x120), (9, .int x117), (0, .ref bb), (1, .ref x1), (2, .int x2), (3, .int x3), (4, .ref x4), (5, .ref x5), (6, .int x6), (7, .int x7), (8, .int x8)]) hx hb dL_law_279 hl (by decide) rfl (fun ls hl => ?_)
      refine lv_iload hx hb dL_law_281 (lv_at hl 1 rfl) ?_
      refine lv_iconst (v := 5) hx hb dL_law_283 (by decide) ?_
      refine lv_ishr hx hb dL_law_284 ?_
      refine lv_topi (fun x121 ex121 => ?_)
      replace h := h x121 ex121
      refine lv_iload_n hx hb dL_law_285 rfl (lv_at hl 4 rfl) ?_
      refine x_ki (x_runS (As := [.int x121, .int x2]) (rest := []) C hml hR hS (m_L_below l gg x121 x2 S119 h) b_L_below q_3_2 rfl rfl ⟨Nat.le_of_ble_eq_true rfl, Nat.le_of_ble_eq_true rfl⟩ rfl hl.1 (Nat.le_of_ble_eq_true rfl) dL_law_286 ⟨hk.1, hk.2⟩) hS (fun x123 S122 H locs hn hR hS => ?_)
      replace h := hn
      clear hn
      refine lv_istore (lv' := [(11, .int x123), (10, .int x120), (9, .int x117), (0, .ref bb), (1, .ref x1), (2, .int x2), (3, .int x3), (4, .ref x4), (5, .ref x5), (6, .int x6), (7, .int x7), (8, .int x8)]) hx hb dL_law_289 hl (by decide) rfl (fun ls hl => ?_)
      refine lv_iload hx hb dL_law_291 (lv_at hl 2 rfl) ?_
      refine lv_bipush (v := 16) hx hb dL_law_293 (by decide) ?_
      refine x_ki (x_runS (As := [.int x117, .int (16 : Int32)]) (rest := []) C hml hR hS (m_L_below l gg x117 (16 : Int32) S122 h) b_L_below q_3_2 rfl rfl ⟨Nat.le_of_ble_eq_true rfl, Nat.le_of_ble_eq_true rfl⟩ rfl hl.1 (Nat.le_of_ble_eq_true rfl) dL_law_295 ⟨hk.1, hk.2⟩) hS (fun x125 S124 H locs hn hR hS => ?_)
      replace h := hn
      clear hn
      by_cases hc126 : x125 = 0
      · have h := h.1 hc126
        refine lv_tableIn (off := 62) (tgt := 360) hx hb dL_law_298 (by rw [hc126]; decide) (by rw [hc126]; decide) (by rw [hc126]; rfl) (by decide) ?_
        refine lv_aload_n hx hb dL_law_360 rfl (lv_at hl 4 rfl) ?_
        refine lv_iload hx hb dL_law_361 (lv_at hl 1 rfl) ?_
        refine lv_bipush (v := 13) hx hb dL_law_363 (by decide) ?_
        obtain ⟨hK_x1, h⟩ := h
        refine x_ki (x_runV (As := [.int x120, .int (13 : Int32)]) (rest := []) C hml hR hS (m_X6_ofField l gg x1 x120 (13 : Int32) S124 h) b_X6_ofField q_10_17 (by rw [hK_x1]; decide) (s_E_7 hK_x1) rfl rfl rfl rfl ⟨Nat.le_of_ble_eq_true rfl, Nat.le_of_ble_eq_true rfl⟩ rfl hl.1 (Nat.le_of_ble_eq_true rfl) dL_law_365 ⟨hk.1, hk.2⟩) hS (fun x128 S127 H locs hn hR hS => ?_)
        replace h := hn
        clear hn
        refine lv_iconst (v := 1) hx hb dL_law_368 (by decide) ?_
        refine lv_icmp_ne (tgt := 376) hx hb dL_law_369 (by decide) (fun hc129 => ?_) (fun hc129 => ?_)
        · replace h := h.1 hc129
          refine lv_iconst (v := 0) hx hb dL_law_376 (by decide) ?_
          exact tA_L_law_b377 C hml hst hX hbl hbA hret hk (fun kc ks x1 x2 x3 x4 x5 x6 x7 x8 S hk h => ih kc ks x1 x2 x3 x4 x5 x6 x7 x8 S hk h) h H locs ls hR hS (lv_sub (l' := [(0, .ref bb), (1, .ref x1), (2, .int x2), (3, .int x3), (4, .ref x4), (5, .ref x5), (6, .int x6), (7, .int x7), (8, .int x8), (9, .int x117), (10, .int x120)]) hl [3, 4, 5, 6, 7, 8, 9, 10, 11, 2, 1] rfl)
        · replace h := h.2 hc129
          refine lv_iconst (v := 1) hx hb dL_law_372 (by decide) ?_
          refine lv_goto (tgt := 377) hx hb dL_law_373 (by decide) ?_
          exact tA_L_law_b377 C hml hst hX hbl hbA hret hk (fun kc ks x1 x2 x3 x4 x5 x6 x7 x8 S hk h => ih kc ks x1 x2 x3 x4 x5 x6 x7 x8 S hk h) h H locs ls hR hS (lv_sub (l' := [(0, .ref bb), (1, .ref x1), (2, .int x2), (3, .int x3), (4, .ref x4), (5, .ref x5), (6, .int x6), (7, .int x7), (8, .int x8), (9, .int x117), (10, .int x120)]) hl [3, 4, 5, 6, 7, 8, 9, 10, 11, 2, 1] rfl)
      · by_cases hc130 : x125 = 1
        · have h := h.2.1 hc130
          refine lv_tableIn (off := 139) (tgt := 437) hx hb dL_law_298 (by rw [hc130]; decide) (by rw [hc130]; decide) (by rw [hc130]; rfl) (by decide) ?_
          refine lv_aload_n hx hb dL_law_437 rfl (lv_at hl 4 rfl) ?_
          refine lv_iload hx hb dL_law_438 (lv_at hl 1 rfl) ?_
          refine lv_iload hx hb dL_law_440 (lv_at hl 2 rfl) ?_
          refine lv_bipush (v := 6) hx hb dL_law_442 (by decide) ?_
          refine lv_ishr hx hb dL_law_444 ?_
          refine lv_topi (fun x131 ex131 => ?_)
          replace h := h x131 ex131
          refine lv_bipush (v := 6) hx hb dL_law_445 (by decide) ?_
          refine x_ki (x_runS (As := [.int x131, .int (6 : Int32)]) (rest := [.int x120, .ref x1]) C hml hR hS (m_L_below l gg x131 (6 : Int32) S124 h) b_L_below q_3_2 rfl rfl ⟨Nat.le_of_ble_eq_true rfl, Nat.le_of_ble_eq_true rfl⟩ rfl hl.1 (Nat.le_of_ble_eq_true rfl) dL_law_447 ⟨hk.1, hk.2⟩) hS (fun x133 S132 H locs hn hR hS => ?_)
          replace h := hn
          clear hn
          obtain ⟨hK_x1, h⟩ := h
          refine x_ki (x_runV (As := [.int x120, .int x133]) (rest := []) C hml hR hS (m_X6_stones l gg x1 x120 x133 S132 h) b_X6_stones q_11_21 (by rw [hK_x1]; decide) (s_E_7 hK_x1) rfl rfl rfl rfl ⟨Nat.le_of_ble_eq_true rfl, Nat.le_of_ble_eq_true rfl⟩ rfl hl.1 (Nat.le_of_ble_eq_true rfl) dL_law_450 ⟨hk.1, hk.2⟩) hS (fun x135 S134 H locs hn hR hS => ?_)
          replace h := hn
          clear hn
          refine lv_if_ge (tgt := 884) hx hb dL_law_453 (by decide) (fun hc136 => ?_) (fun hc136 => ?_)
          · replace h := h.1 hc136
            exact tA_L_law_b884 C hml hst hX hbl hbA hret hk (fun kc ks x1 x2 x3 x4 x5 x6 x7 x8 S hk h => ih kc ks x1 x2 x3 x4 x5 x6 x7 x8 S hk h) h H locs ls hR hS (lv_sub (l' := [(0, .ref bb), (1, .ref x1), (2, .int x2), (3, .int x3), (4, .ref x4), (5, .ref x5), (6, .int x6), (7, .int x7), (8, .int x8)]) hl [3, 4, 5, 6, 7, 8, 9, 10, 11] rfl)
          · replace h := h.2 hc136
            refine lv_iconst (v := 0) hx hb dL_law_456 (by decide) ?_
            exact h.elim
        · by_cases hc137 : x125 = 2
          · have h := h.2.2.1 hc137
            refine lv_tableIn (off := 160) (tgt := 458) hx hb dL_law_298 (by rw [hc137]; decide) (by rw [hc137]; decide) (by rw [hc137]; rfl) (by decide) ?_
            refine lv_aload_n hx hb dL_law_458 rfl (lv_at hl 4 rfl) ?_
            refine lv_iload hx hb dL_law_459 (lv_at hl 0 rfl) ?_
            refine lv_iload hx hb dL_law_461 (lv_at hl 2 rfl) ?_
            refine lv_bipush (v := 6) hx hb dL_law_463 (by decide) ?_
            refine lv_ishr hx hb dL_law_465 ?_
            refine lv_topi (fun x138 ex138 => ?_)
            replace h := h x138 ex138
            refine lv_iconst (v := 2) hx hb dL_law_466 (by decide) ?_
            refine x_ki (x_runS (As := [.int x138, .int (2 : Int32)]) (rest := [.int x123, .ref x1]) C hml hR hS (m_L_below l gg x138 (2 : Int32) S124 h) b_L_below q_3_2 rfl rfl ⟨Nat.le_of_ble_eq_true rfl, Nat.le_of_ble_eq_true rfl⟩ rfl hl.1 (Nat.le_of_ble_eq_true rfl) dL_law_467 ⟨hk.1, hk.2⟩) hS (fun x140 S139 H locs hn hR hS => ?_)
            replace h := hn
            clear hn
            refine lv_if_ne (tgt := 477) hx hb dL_law_470 (by decide) (fun hc141 => ?_) (fun hc141 => ?_)
            · replace h := h.1 hc141
              refine lv_iconst (v := 0) hx hb dL_law_477 (by decide) ?_
              exact tA_L_law_b478 C hml hst hX hbl hbA hret hk (fun kc ks x1 x2 x3 x4 x5 x6 x7 x8 S hk h => ih kc ks x1 x2 x3 x4 x5 x6 x7 x8 S hk h) h H locs ls hR hS (lv_sub (l' := [(0, .ref bb), (1, .ref x1), (2, .int x2), (3, .int x3), (4, .ref x4), (5, .ref x5), (6, .int x6), (7, .int x7), (8, .int x8)]) hl [3, 4, 5, 6, 7, 8, 9, 10, 11] rfl)
            · replace h := h.2 hc141
              refine lv_iconst (v := 1) hx hb dL_law_473 (by decide) ?_
              refine lv_goto (tgt := 478) hx hb dL_law_474 (by decide) ?_
              exact tA_L_law_b478 C hml hst hX hbl hbA hret hk (fun kc ks x1 x2 x3 x4 x5 x6 x7 x8 S hk h => ih kc ks x1 x2 x3 x4 x5 x6 x7 x8 S hk h) h H locs ls hR hS (lv_sub (l' := [(0, .ref bb), (1, .ref x1), (2, .int x2), (3, .int x3), (4, .ref x4), (5, .ref x5), (6, .int x6), (7, .int x7), (8, .int x8)]) hl [3, 4, 5, 6, 7, 8, 9, 10, 11] rfl)
          · by_cases hc142 : x125 = 3
            · have h := h.2.2.2.1 hc142
              refine lv_tableIn (off := 187) (tgt := 485) hx hb dL_law_298 (by rw [hc142]; decide) (by rw [hc142]; decide) (by rw [hc142]; rfl) (by decide) ?_
              refine lv_aload_n hx hb dL_law_485 rfl (lv_at hl 4 rfl) ?_
              refine lv_iload hx hb dL_law_486 (lv_at hl 0 rfl) ?_
              obtain ⟨hK_x1, h⟩ := h
              refine x_ki (x_runV (As := [.int x123]) (rest := []) C hml hR hS (m_X6_inspect l gg x1 x123 S124 h) b_X6_inspect q_12_7 (by rw [hK_x1]; decide) (s_E_7 hK_x1) rfl rfl rfl rfl ⟨Nat.le_of_ble_eq_true rfl, Nat.le_of_ble_eq_true rfl⟩ rfl hl.1 (Nat.le_of_ble_eq_true rfl) dL_law_488 ⟨hk.1, hk.2⟩) hS (fun x144 S143 H locs hn hR hS => ?_)
              replace h := hn
              clear hn
              refine lv_iconst (v := 5) hx hb dL_law_491 (by decide) ?_
              refine lv_irem hx hb dL_law_492 (by decide) ?_
              refine lv_topi (fun x145 ex145 => ?_)
              replace h := h x145 ex145
              refine lv_if_eq (tgt := 884) hx hb dL_law_493 (by decide) (fun hc146 => ?_) (fun hc146 => ?_)
              · replace h := h.1 hc146
                exact tA_L_law_b884 C hml hst hX hbl hbA hret hk (fun kc ks x1 x2 x3 x4 x5 x6 x7 x8 S hk h => ih kc ks x1 x2 x3 x4 x5 x6 x7 x8 S hk h) h H locs ls hR hS (lv_sub (l' := [(0, .ref bb), (1, .ref x1), (2, .int x2), (3, .int x3), (4, .ref x4), (5, .ref x5), (6, .int x6), (7, .int x7), (8, .int x8)]) hl [3, 4, 5, 6, 7, 8, 9, 10, 11] rfl)
              · replace h := h.2 hc146
                refine lv_iconst (v := 0) hx hb dL_law_496 (by decide) ?_
                exact h.elim
            · by_cases hc147 : x125 = 4
              · have h := h.2.2.2.2.1 hc147
                refine lv_tableIn (off := 200) (tgt := 498) hx hb dL_law_298 (by rw [hc147]; decide) (by rw [hc147]; decide) (by rw [hc147]; rfl) (by decide) ?_
                refine lv_aload_n hx hb dL_law_498 rfl (lv_at hl 4 rfl) ?_
                refine lv_iload hx hb dL_law_499 (lv_at hl 1 rfl) ?_
                refine lv_iload hx hb dL_law_501 (lv_at hl 2 rfl) ?_
                refine lv_bipush (v := 6) hx hb dL_law_503 (by decide) ?_
                refine lv_ishr hx hb dL_law_505 ?_
                refine lv_topi (fun x148 ex148 => ?_)
                replace h := h x148 ex148
                refine lv_iconst (v := 2) hx hb dL_law_506 (by decide) ?_
                refine x_ki (x_runS (As := [.int x148, .int (2 : Int32)]) (rest := [.int x120, .ref x1]) C hml hR hS (m_L_below l gg x148 (2 : Int32) S124 h) b_L_below q_3_2 rfl rfl ⟨Nat.le_of_ble_eq_true rfl, Nat.le_of_ble_eq_true rfl⟩ rfl hl.1 (Nat.le_of_ble_eq_true rfl) dL_law_507 ⟨hk.1, hk.2⟩) hS (fun x150 S149 H locs hn hR hS => ?_)
                replace h := hn
                clear hn
                refine lv_if_ne (tgt := 517) hx hb dL_law_510 (by decide) (fun hc151 => ?_) (fun hc151 => ?_)
                · replace h := h.1 hc151
                  refine lv_iconst (v := 0) hx hb dL_law_517 (by decide) ?_
                  exact tA_L_law_b518 C hml hst hX hbl hbA hret hk (fun kc ks x1 x2 x3 x4 x5 x6 x7 x8 S hk h => ih kc ks x1 x2 x3 x4 x5 x6 x7 x8 S hk h) h H locs ls hR hS (lv_sub (l' := [(0, .ref bb), (1, .ref x1), (2, .int x2), (3, .int x3), (4, .ref x4), (5, .ref x5), (6, .int x6), (7, .int x7), (8, .int x8)]) hl [3, 4, 5, 6, 7, 8, 9, 10, 11] rfl)
                · replace h := h.2 hc151
                  refine lv_iconst (v := 1) hx hb dL_law_513 (by decide) ?_
                  refine lv_goto (tgt := 518) hx hb dL_law_514 (by decide) ?_
                  exact tA_L_law_b518 C hml hst hX hbl hbA hret hk (fun kc ks x1 x2 x3 x4 x5 x6 x7 x8 S hk h => ih kc ks x1 x2 x3 x4 x5 x6 x7 x8 S hk h) h H locs ls hR hS (lv_sub (l' := [(0, .ref bb), (1, .ref x1), (2, .int x2), (3, .int x3), (4, .ref x4), (5, .ref x5), (6, .int x6), (7, .int x7), (8, .int x8)]) hl [3, 4, 5, 6, 7, 8, 9, 10, 11] rfl)
              · by_cases hc152 : x125 = 5
                · have h := h.2.2.2.2.2.1 hc152
                  refine lv_tableIn (off := 227) (tgt := 525) hx hb dL_law_298 (by rw [hc152]; decide) (by rw [hc152]; decide) (by rw [hc152]; rfl) (by decide) ?_
                  refine lv_aload_n hx hb dL_law_525 rfl (lv_at hl 4 rfl) ?_
                  refine lv_iload hx hb dL_law_526 (lv_at hl 0 rfl) ?_
                  obtain ⟨hK_x1, h⟩ := h
                  refine x_ki (x_runV (As := [.int x123]) (rest := []) C hml hR hS (m_X6_vote l gg x1 x123 S124 h) b_X6_vote q_13_0 (by rw [hK_x1]; decide) (s_E_7 hK_x1) rfl rfl rfl rfl ⟨Nat.le_of_ble_eq_true rfl, Nat.le_of_ble_eq_true rfl⟩ rfl hl.1 (Nat.le_of_ble_eq_true rfl) dL_law_528 ⟨hk.1, hk.2⟩) hS (fun x154 S153 H locs hn hR hS => ?_)
                  replace h := hn
                  clear hn
                  refine lv_aload_n hx hb dL_law_531 rfl (lv_at hl 4 rfl) ?_
                  refine lv_iload hx hb dL_law_532 (lv_at hl 0 rfl) ?_
                  refine lv_bipush (v := 6) hx hb dL_law_534 (by decide) ?_
                  obtain ⟨hK_x1, h⟩ := h
                  refine x_ki (x_runV (As := [.int x123, .int (6 : Int32)]) (rest := [.int x154]) C hml hR hS (m_X6_ofSociety l gg x1 x123 (6 : Int32) S153 h) b_X6_ofSociety q_14_3 (by rw [hK_x1]; decide) (s_E_7 hK_x1) rfl rfl rfl rfl ⟨Nat.le_of_ble_eq_true rfl, Nat.le_of_ble_eq_true rfl⟩ rfl hl.1 (Nat.le_of_ble_eq_true rfl) dL_law_536 ⟨hk.1, hk.2⟩) hS (fun x156 S155 H locs hn hR hS => ?_)
                  replace h := hn
                  clear hn
                  refine lv_icmp_gt (tgt := 552) hx hb dL_law_539 (by decide) (fun hc157 => ?_) (fun hc157 => ?_)
                  · replace h := h.1 hc157
                    exact tA_L_law_b552 C hml hst hX hbl hbA hret hk  h H locs ls hR hS (lv_sub (l' := []) hl [] rfl)
                  · replace h := h.2 hc157
                    refine lv_aload_n hx hb dL_law_542 rfl (lv_at hl 4 rfl) ?_
                    refine lv_iload hx hb dL_law_543 (lv_at hl 0 rfl) ?_
                    refine lv_iconst (v := 5) hx hb dL_law_545 (by decide) ?_
                    obtain ⟨hK_x1, h⟩ := h
                    refine x_ki (x_runV (As := [.int x123, .int (5 : Int32)]) (rest := []) C hml hR hS (m_X6_ofSociety l gg x1 x123 (5 : Int32) S155 h) b_X6_ofSociety q_14_3 (by rw [hK_x1]; decide) (s_E_7 hK_x1) rfl rfl rfl rfl ⟨Nat.le_of_ble_eq_true rfl, Nat.le_of_ble_eq_true rfl⟩ rfl hl.1 (Nat.le_of_ble_eq_true rfl) dL_law_546 ⟨hk.1, hk.2⟩) hS (fun x159 S158 H locs hn hR hS => ?_)
                    replace h := hn
                    clear hn
                    refine lv_if_eq (tgt := 884) hx hb dL_law_549 (by decide) (fun hc160 => ?_) (fun hc160 => ?_)
                    · replace h := h.1 hc160
                      exact tA_L_law_b884 C hml hst hX hbl hbA hret hk (fun kc ks x1 x2 x3 x4 x5 x6 x7 x8 S hk h => ih kc ks x1 x2 x3 x4 x5 x6 x7 x8 S hk h) h H locs ls hR hS (lv_sub (l' := [(0, .ref bb), (1, .ref x1), (2, .int x2), (3, .int x3), (4, .ref x4), (5, .ref x5), (6, .int x6), (7, .int x7), (8, .int x8)]) hl [3, 4, 5, 6, 7, 8, 9, 10, 11] rfl)
                    · replace h := h.2 hc160
                      exact tA_L_law_b552 C hml hst hX hbl hbA hret hk  h H locs ls hR hS (lv_sub (l' := []) hl [] rfl)
                · by_cases hc161 : x125 = 6
                  · have h := h.2.2.2.2.2.2.1 hc161
                    refine lv_tableIn (off := 256) (tgt := 554) hx hb dL_law_298 (by rw [hc161]; decide) (by rw [hc161]; decide) (by rw [hc161]; rfl) (by decide) ?_
                    refine lv_aload_n hx hb dL_law_554 rfl (lv_at hl 4 rfl) ?_
                    refine lv_iload hx hb dL_law_555 (lv_at hl 1 rfl) ?_
                    refine lv_iconst (v := 2) hx hb dL_law_557 (by decide) ?_
                    obtain ⟨hK_x1, h⟩ := h
                    refine x_ki (x_runV (As := [.int x120, .int (2 : Int32)]) (rest := []) C hml hR hS (m_X6_ofOwner l gg x1 x120 (2 : Int32) S124 h) b_X6_ofOwner q_15_15 (by rw [hK_x1]; decide) (s_E_7 hK_x1) rfl rfl rfl rfl ⟨Nat.le_of_ble_eq_true rfl, Nat.le_of_ble_eq_true rfl⟩ rfl hl.1 (Nat.le_of_ble_eq_true rfl) dL_law_558 ⟨hk.1, hk.2⟩) hS (fun x163 S162 H locs hn hR hS => ?_)
                    replace h := hn
                    clear hn
                    refine lv_if_ne (tgt := 567) hx hb dL_law_561 (by decide) (fun hc164 => ?_) (fun hc164 => ?_)
                    · replace h := h.1 hc164
                      refine lv_aload_n hx hb dL_law_567 rfl (lv_at hl 4 rfl) ?_
                      refine lv_iload hx hb dL_law_568 (lv_at hl 1 rfl) ?_
                      refine lv_iconst (v := 1) hx hb dL_law_570 (by decide) ?_
                      obtain ⟨hK_x1, h⟩ := h
                      refine x_ki (x_runV (As := [.int x120, .int (1 : Int32)]) (rest := []) C hml hR hS (m_X6_sell l gg x1 x120 (1 : Int32) S162 h) b_X6_sell q_16_3 (by rw [hK_x1]; decide) (s_E_7 hK_x1) rfl rfl rfl rfl ⟨Nat.le_of_ble_eq_true rfl, Nat.le_of_ble_eq_true rfl⟩ rfl hl.1 (Nat.le_of_ble_eq_true rfl) dL_law_571 ⟨hk.1, hk.2⟩) hS (fun x166 S165 H locs hn hR hS => ?_)
                      replace h := hn
                      clear hn
                      refine lv_aload_n hx hb dL_law_574 rfl (lv_at hl 4 rfl) ?_
                      refine lv_iload hx hb dL_law_575 (lv_at hl 1 rfl) ?_
                      refine lv_iconst (v := 0) hx hb dL_law_577 (by decide) ?_
                      obtain ⟨hK_x1, h⟩ := h
                      refine x_ki (x_runV (As := [.int x120, .int (0 : Int32)]) (rest := [.int x166]) C hml hR hS (m_X6_ofOwner l gg x1 x120 (0 : Int32) S165 h) b_X6_ofOwner q_15_15 (by rw [hK_x1]; decide) (s_E_7 hK_x1) rfl rfl rfl rfl ⟨Nat.le_of_ble_eq_true rfl, Nat.le_of_ble_eq_true rfl⟩ rfl hl.1 (Nat.le_of_ble_eq_true rfl) dL_law_578 ⟨hk.1, hk.2⟩) hS (fun x168 S167 H locs hn hR hS => ?_)
                      replace h := hn
                      clear hn
                      refine lv_icmp_eq (tgt := 586) hx hb dL_law_581 (by decide) (fun hc169 => ?_) (fun hc169 => ?_)
                      · replace h := h.1 hc169
                        obtain ⟨x170, ex170⟩ : ∃ z : Int32, z = x6 + 1 := ⟨_, rfl⟩
                        replace h := h x170 ex170
                        refine lv_iinc (v := x170) (lv' := [(6, .int x170), (11, .int x123), (10, .int x120), (9, .int x117), (0, .ref bb), (1, .ref x1), (2, .int x2), (3, .int x3), (4, .ref x4), (5, .ref x5), (7, .int x7), (8, .int x8)]) hx hb dL_law_586 hl (k := 9) rfl (by rw [ex170]; rfl) (by decide) rfl (fun ls hl => ?_)
                        refine lv_goto (tgt := 884) hx hb dL_law_589 (by decide) ?_
                        exact tA_L_law_b884 C hml hst hX hbl hbA hret hk (fun kc ks x1 x2 x3 x4 x5 x6 x7 x8 S hk h => ih kc ks x1 x2 x3 x4 x5 x6 x7 x8 S hk h) h H locs ls hR hS (lv_sub (l' := [(0, .ref bb), (1, .ref x1), (2, .int x2), (3, .int x3), (4, .ref x4), (5, .ref x5), (6, .int x170), (7, .int x7), (8, .int x8)]) hl [4, 5, 6, 7, 8, 9, 0, 10, 11] rfl)
                      · replace h := h.2 hc169
                        refine lv_iconst (v := 0) hx hb dL_law_584 (by decide) ?_
                        exact h.elim
                    · replace h := h.2 hc164
                      refine lv_goto (tgt := 884) hx hb dL_law_564 (by decide) ?_
                      exact tA_L_law_b884 C hml hst hX hbl hbA hret hk (fun kc ks x1 x2 x3 x4 x5 x6 x7 x8 S hk h => ih kc ks x1 x2 x3 x4 x5 x6 x7 x8 S hk h) h H locs ls hR hS (lv_sub (l' := [(0, .ref bb), (1, .ref x1), (2, .int x2), (3, .int x3), (4, .ref x4), (5, .ref x5), (6, .int x6), (7, .int x7), (8, .int x8)]) hl [3, 4, 5, 6, 7, 8, 9, 10, 11] rfl)
                  · by_cases hc171 : x125 = 7
                    · have h := h.2.2.2.2.2.2.2.1 hc171
                      refine lv_tableIn (off := 294) (tgt := 592) hx hb dL_law_298 (by rw [hc171]; decide) (by rw [hc171]; decide) (by rw [hc171]; rfl) (by decide) ?_
                      exact tA_L_law_b592 C hml hst hX hbl hbA hret hk (fun kc ks x1 x2 x3 x4 x5 x6 x7 x8 S hk h => ih kc ks x1 x2 x3 x4 x5 x6 x7 x8 S hk h) h H locs ls hR hS (lv_sub (l' := [(0, .ref bb), (1, .ref x1), (2, .int x2), (3, .int x3), (4, .ref x4), (5, .ref x5), (6, .int x6), (7, .int x7), (8, .int x8), (9, .int x117), (10, .int x120)]) hl [3, 4, 5, 6, 7, 8, 9, 10, 11, 2, 1] rfl)
                    · by_cases hc172 : x125 = 8
                      · have h := h.2.2.2.2.2.2.2.2.1 hc172
                        refine lv_tableIn (off := 294) (tgt := 592) hx hb dL_law_298 (by rw [hc172]; decide) (by rw [hc172]; decide) (by rw [hc172]; rfl) (by decide) ?_
                        exact tA_L_law_b592 C hml hst hX hbl hbA hret hk (fun kc ks x1 x2 x3 x4 x5 x6 x7 x8 S hk h => ih kc ks x1 x2 x3 x4 x5 x6 x7 x8 S hk h) h H locs ls hR hS (lv_sub (l' := [(0, .ref bb), (1, .ref x1), (2, .int x2), (3, .int x3), (4, .ref x4), (5, .ref x5), (6, .int x6), (7, .int x7), (8, .int x8), (9, .int x117), (10, .int x120)]) hl [3, 4, 5, 6, 7, 8, 9, 10, 11, 2, 1] rfl)
                      · by_cases hc173 : x125 = 9
                        · have h := h.2.2.2.2.2.2.2.2.2.1 hc173
                          refine lv_tableIn (off := 294) (tgt := 592) hx hb dL_law_298 (by rw [hc173]; decide) (by rw [hc173]; decide) (by rw [hc173]; rfl) (by decide) ?_
                          exact tA_L_law_b592 C hml hst hX hbl hbA hret hk (fun kc ks x1 x2 x3 x4 x5 x6 x7 x8 S hk h => ih kc ks x1 x2 x3 x4 x5 x6 x7 x8 S hk h) h H locs ls hR hS (lv_sub (l' := [(0, .ref bb), (1, .ref x1), (2, .int x2), (3, .int x3), (4, .ref x4), (5, .ref x5), (6, .int x6), (7, .int x7), (8, .int x8), (9, .int x117), (10, .int x120)]) hl [3, 4, 5, 6, 7, 8, 9, 10, 11, 2, 1] rfl)
                        · by_cases hc174 : x125 = 10
                          · have h := h.2.2.2.2.2.2.2.2.2.2.1 hc174
                            refine lv_tableIn (off := 389) (tgt := 687) hx hb dL_law_298 (by rw [hc174]; decide) (by rw [hc174]; decide) (by rw [hc174]; rfl) (by decide) ?_
                            exact tA_L_law_b687 C hml hst hX hbl hbA hret hk (fun kc ks x1 x2 x3 x4 x5 x6 x7 x8 S hk h => ih kc ks x1 x2 x3 x4 x5 x6 x7 x8 S hk h) h H locs ls hR hS (lv_sub (l' := [(0, .ref bb), (1, .ref x1), (2, .int x2), (3, .int x3), (4, .ref x4), (5, .ref x5), (6, .int x6), (7, .int x7), (8, .int x8), (9, .int x117), (10, .int x120)]) hl [3, 4, 5, 6, 7, 8, 9, 10, 11, 2, 1] rfl)
                          · by_cases hc175 : x125 = 11
                            · have h := h.2.2.2.2.2.2.2.2.2.2.2.1 hc175
                              refine lv_tableIn (off := 389) (tgt := 687) hx hb dL_law_298 (by rw [hc175]; decide) (by rw [hc175]; decide) (by rw [hc175]; rfl) (by decide) ?_
                              exact tA_L_law_b687 C hml hst hX hbl hbA hret hk (fun kc ks x1 x2 x3 x4 x5 x6 x7 x8 S hk h => ih kc ks x1 x2 x3 x4 x5 x6 x7 x8 S hk h) h H locs ls hR hS (lv_sub (l' := [(0, .ref bb), (1, .ref x1), (2, .int x2), (3, .int x3), (4, .ref x4), (5, .ref x5), (6, .int x6), (7, .int x7), (8, .int x8), (9, .int x117), (10, .int x120)]) hl [3, 4, 5, 6, 7, 8, 9, 10, 11, 2, 1] rfl)
                            · have h := h.2.2.2.2.2.2.2.2.2.2.2.2 ⟨hc126, hc130, hc137, hc142, hc147, hc152, hc161, hc171, hc172, hc173, hc174, hc175⟩
                              refine lv_tableOut (tgt := 823) hx hb dL_law_298 (x_tout 0 11 (fun q1 q2 => ?_)) (by decide) ?_
                              · rcases (show x125.toInt = 0 ∨ x125.toInt = 1 ∨ x125.toInt = 2 ∨ x125.toInt = 3 ∨ x125.toInt = 4 ∨ x125.toInt = 5 ∨ x125.toInt = 6 ∨ x125.toInt = 7 ∨ x125.toInt = 8 ∨ x125.toInt = 9 ∨ x125.toInt = 10 ∨ x125.toInt = 11 by omega) with z | z | z | z | z | z | z | z | z | z | z | z
                                · exact hc126 (x_ti z (by decide))
                                · exact hc130 (x_ti z (by decide))
                                · exact hc137 (x_ti z (by decide))
                                · exact hc142 (x_ti z (by decide))
                                · exact hc147 (x_ti z (by decide))
                                · exact hc152 (x_ti z (by decide))
                                · exact hc161 (x_ti z (by decide))
                                · exact hc171 (x_ti z (by decide))
                                · exact hc172 (x_ti z (by decide))
                                · exact hc173 (x_ti z (by decide))
                                · exact hc174 (x_ti z (by decide))
                                · exact hc175 (x_ti z (by decide))
                              refine lv_aload_n hx hb dL_law_823 rfl (lv_at hl 4 rfl) ?_
                              refine lv_iload hx hb dL_law_824 (lv_at hl 2 rfl) ?_
                              refine lv_iconst (v := 3) hx hb dL_law_826 (by decide) ?_
                              refine lv_ishr hx hb dL_law_827 ?_
                              refine lv_topi (fun x176 ex176 => ?_)
                              replace h := h x176 ex176
                              refine lv_sipush (v := 201) hx hb dL_law_828 (by decide) ?_
                              refine x_ki (x_runS (As := [.int x176, .int (201 : Int32)]) (rest := [.ref x1]) C hml hR hS (m_L_below l gg x176 (201 : Int32) S124 h) b_L_below q_3_2 rfl rfl ⟨Nat.le_of_ble_eq_true rfl, Nat.le_of_ble_eq_true rfl⟩ rfl hl.1 (Nat.le_of_ble_eq_true rfl) dL_law_831 ⟨hk.1, hk.2⟩) hS (fun x178 S177 H locs hn hR hS => ?_)
                              replace h := hn
                              clear hn
                              refine lv_iconst (v := 5) hx hb dL_law_834 (by decide) ?_
                              refine lv_iload hx hb dL_law_835 (lv_at hl 2 rfl) ?_
                              refine lv_iconst (v := 5) hx hb dL_law_837 (by decide) ?_
                              refine lv_ishr hx hb dL_law_838 ?_
                              refine lv_topi (fun x179 ex179 => ?_)
                              replace h := h x179 ex179
                              refine lv_bipush (v := 36) hx hb dL_law_839 (by decide) ?_
                              refine x_ki (x_runS (As := [.int x179, .int (36 : Int32)]) (rest := [.int (5 : Int32), .int x178, .ref x1]) C hml hR hS (m_L_below l gg x179 (36 : Int32) S177 h) b_L_below q_3_2 rfl rfl ⟨Nat.le_of_ble_eq_true rfl, Nat.le_of_ble_eq_true rfl⟩ rfl hl.1 (Nat.le_of_ble_eq_true rfl) dL_law_841 ⟨hk.1, hk.2⟩) hS (fun x181 S180 H locs hn hR hS => ?_)
                              replace h := hn
                              clear hn
                              refine lv_iadd hx hb dL_law_844 ?_
                              refine lv_topi (fun x182 ex182 => ?_)
                              replace h := h x182 ex182
                              refine lv_iload hx hb dL_law_845 (lv_at hl 2 rfl) ?_
                              refine lv_bipush (v := 7) hx hb dL_law_847 (by decide) ?_
                              refine lv_ishr hx hb dL_law_849 ?_
                              refine lv_topi (fun x183 ex183 => ?_)
                              replace h := h x183 ex183
                              refine lv_iconst (v := 4) hx hb dL_law_850 (by decide) ?_
                              refine x_ki (x_runS (As := [.int x183, .int (4 : Int32)]) (rest := [.int x182, .int x178, .ref x1]) C hml hR hS (m_L_below l gg x183 (4 : Int32) S180 h) b_L_below q_3_2 rfl rfl ⟨Nat.le_of_ble_eq_true rfl, Nat.le_of_ble_eq_true rfl⟩ rfl hl.1 (Nat.le_of_ble_eq_true rfl) dL_law_851 ⟨hk.1, hk.2⟩) hS (fun x185 S184 H locs hn hR hS => ?_)
                              replace h := hn
                              clear hn
                              refine lv_if_ne (tgt := 870) hx hb dL_law_854 (by decide) (fun hc186 => ?_) (fun hc186 => ?_)
                              · replace h := h.1 hc186
                                refine lv_iconst (v := 0) hx hb dL_law_870 (by decide) ?_
                                exact tA_L_law_b871 C hml hst hX hbl hbA hret hk (fun kc ks x1 x2 x3 x4 x5 x6 x7 x8 S hk h => ih kc ks x1 x2 x3 x4 x5 x6 x7 x8 S hk h) h H locs ls hR hS (lv_sub (l' := [(0, .ref bb), (1, .ref x1), (2, .int x2), (3, .int x3), (4, .ref x4), (5, .ref x5), (6, .int x6), (7, .int x7), (8, .int x8)]) hl [3, 4, 5, 6, 7, 8, 9, 10, 11] rfl)
                              · replace h := h.2 hc186
                                refine lv_iload hx hb dL_law_857 (lv_at hl 2 rfl) ?_
                                refine lv_bipush (v := 6) hx hb dL_law_859 (by decide) ?_
                                refine lv_ishr hx hb dL_law_861 ?_
                                refine lv_topi (fun x187 ex187 => ?_)
                                replace h := h x187 ex187
                                refine lv_bipush (v := 31) hx hb dL_law_862 (by decide) ?_
                                refine x_ki (x_runS (As := [.int x187, .int (31 : Int32)]) (rest := [.int x182, .int x178, .ref x1]) C hml hR hS (m_L_below l gg x187 (31 : Int32) S184 h) b_L_below q_3_2 rfl rfl ⟨Nat.le_of_ble_eq_true rfl, Nat.le_of_ble_eq_true rfl⟩ rfl hl.1 (Nat.le_of_ble_eq_true rfl) dL_law_864 ⟨hk.1, hk.2⟩) hS (fun x189 S188 H locs hn hR hS => ?_)
                                replace h := hn
                                clear hn
                                refine lv_goto (tgt := 871) hx hb dL_law_867 (by decide) ?_
                                exact tA_L_law_b871 C hml hst hX hbl hbA hret hk (fun kc ks x1 x2 x3 x4 x5 x6 x7 x8 S hk h => ih kc ks x1 x2 x3 x4 x5 x6 x7 x8 S hk h) h H locs ls hR hS (lv_sub (l' := [(0, .ref bb), (1, .ref x1), (2, .int x2), (3, .int x3), (4, .ref x4), (5, .ref x5), (6, .int x6), (7, .int x7), (8, .int x8)]) hl [3, 4, 5, 6, 7, 8, 9, 10, 11] rfl)
set_option maxHeartbeats 4000000 in
theorem tA_L_law_b227 {sc : Nat × (Nat → Int32)} {mc ms : Nat} (C : x_C p s m args c cL_law RL gg) (hml : c.maxLocals = 14) (hst : l.stackTraces = false) (hX : va_X bb sc.1 sc.2 s s.heap) (hbl : bb < s.heap.size) (hbA : ¬ s_A gg bb) (hret : ∀ (pc : Nat) (H : Heap) (ls : Array Slot) (locs : List Loc), decode cL_law pc = .ok (.ireturn, 1) → (∀ q ∈ locs, s_A gg q.base) → W p l e (rA_L_law mc ms) s m args below meth c H locs mc ms QQ (F0 m pc ls [.int 1])) {kc ks : Nat} (hk : kc ≤ mc ∧ ks ≤ ms) {x1 : Nat} {x2 : Int32} {x3 : Int32} {x4 : Nat} {x5 : Nat} {x6 : Int32} {kk132 : Nat → Nat → Nat → Int32 → Int32 → Nat → Nat → Int32 → sT → Prop} {S : sT} (hk132 : ∀ (kc ks : Nat) (x1 : Nat) (x2 : Int32) (x3 : Int32) (x4 : Nat) (x5 : Nat) (x6 : Int32) (S : sT), kc ≤ mc ∧ ks ≤ ms → kk132 kc ks x1 x2 x3 x4 x5 x6 S → x_X p l e (rA_L_law mc ms) s m args below meth c gg 14 kc ks QQ 132 [(0, .ref bb), (1, .ref x1), (2, .int x2), (3, .int x3), (4, .ref x4), (5, .ref x5), (6, .int x6)] [] S) (h : wA_L_law_b227 mc ms kc ks x1 x2 x3 x4 x5 x6 S kk132 sc) : x_X p l e (rA_L_law mc ms) s m args below meth c gg 14 kc ks QQ 227 [(0, .ref bb), (1, .ref x1), (2, .int x2), (3, .int x3), (4, .ref x4), (5, .ref x5), (6, .int x6)] [] S := by
  unfold wA_L_law_b227 at h
  obtain ⟨hx, hb, -⟩ := id C
  intro H locs ls hR hS hl
  obtain ⟨x101, ex101⟩ : ∃ z : Int32, z = x6 + 1 := ⟨_, rfl⟩
  replace h := h x101 ex101
  refine lv_iinc (v := x101) (lv' := [(6, .int x101), (0, .ref bb), (1, .ref x1), (2, .int x2), (3, .int x3), (4, .ref x4), (5, .ref x5)]) hx hb dL_law_227 hl (k := 6) rfl (by rw [ex101]; rfl) (by decide) rfl (fun ls hl => ?_)
  refine lv_goto (tgt := 132) hx hb dL_law_230 (by decide) ?_
  exact hk132 kc ks x1 x2 x3 x4 x5 x101 S hk h H locs ls hR hS (lv_sub (l' := [(0, .ref bb), (1, .ref x1), (2, .int x2), (3, .int x3), (4, .ref x4), (5, .ref x5), (6, .int x101)]) hl [1, 2, 3, 4, 5, 6, 0] rfl)
set_option maxHeartbeats 4000000 in
theorem tA_L_law_b132 {sc : Nat × (Nat → Int32)} {mc ms : Nat} (C : x_C p s m args c cL_law RL gg) (hml : c.maxLocals = 14) (hst : l.stackTraces = false) (hX : va_X bb sc.1 sc.2 s s.heap) (hbl : bb < s.heap.size) (hbA : ¬ s_A gg bb) (hret : ∀ (pc : Nat) (H : Heap) (ls : Array Slot) (locs : List Loc), decode cL_law pc = .ok (.ireturn, 1) → (∀ q ∈ locs, s_A gg q.base) → W p l e (rA_L_law mc ms) s m args below meth c H locs mc ms QQ (F0 m pc ls [.int 1]))   : ∀ (n : Nat) (kc ks : Nat) (x1 : Nat) (x2 : Int32) (x3 : Int32) (x4 : Nat) (x5 : Nat) (x6 : Int32) (S : sT), kc ≤ mc ∧ ks ≤ ms → wA_L_law_b132 mc ms  sc n kc ks x1 x2 x3 x4 x5 x6 S → x_X p l e (rA_L_law mc ms) s m args below meth c gg 14 kc ks QQ 132 [(0, .ref bb), (1, .ref x1), (2, .int x2), (3, .int x3), (4, .ref x4), (5, .ref x5), (6, .int x6)] [] S := by
  obtain ⟨hx, hb, -⟩ := id C
  intro n
  induction n with
  | zero => intro kc ks x1 x2 x3 x4 x5 x6 S hk h; exact absurd h id
  | succ n ih =>
    intro kc ks x1 x2 x3 x4 x5 x6 S hk h H locs ls hR hS hl
    unfold wA_L_law_b132 at h
    refine lv_iload hx hb dL_law_132 (lv_at hl 6 rfl) ?_
    refine lv_iload_n hx hb dL_law_134 rfl (lv_at hl 3 rfl) ?_
    refine lv_icmp_ge (tgt := 233) hx hb dL_law_135 (by decide) (fun hc101 => ?_) (fun hc101 => ?_)
    · replace h := h.1 hc101
      refine lv_iconst (v := 0) hx hb dL_law_233 (by decide) ?_
      refine lv_istore (lv' := [(6, .int (0 : Int32)), (0, .ref bb), (1, .ref x1), (2, .int x2), (3, .int x3), (4, .ref x4), (5, .ref x5)]) hx hb dL_law_234 hl (by decide) rfl (fun ls hl => ?_)
      refine lv_iconst (v := 0) hx hb dL_law_236 (by decide) ?_
      refine lv_istore (lv' := [(7, .int (0 : Int32)), (6, .int (0 : Int32)), (0, .ref bb), (1, .ref x1), (2, .int x2), (3, .int x3), (4, .ref x4), (5, .ref x5)]) hx hb dL_law_237 hl (by decide) rfl (fun ls hl => ?_)
      refine lv_iconst (v := 0) hx hb dL_law_239 (by decide) ?_
      refine lv_istore (lv' := [(8, .int (0 : Int32)), (7, .int (0 : Int32)), (6, .int (0 : Int32)), (0, .ref bb), (1, .ref x1), (2, .int x2), (3, .int x3), (4, .ref x4), (5, .ref x5)]) hx hb dL_law_240 hl (by decide) rfl (fun ls hl => ?_)
      obtain ⟨n9, h⟩ := h
      exact tA_L_law_b242 C hml hst hX hbl hbA hret  n9 kc ks x1 x2 x3 x4 x5 (0 : Int32) (0 : Int32) (0 : Int32) S hk h H locs ls hR hS (lv_sub (l' := [(0, .ref bb), (1, .ref x1), (2, .int x2), (3, .int x3), (4, .ref x4), (5, .ref x5), (6, .int (0 : Int32)), (7, .int (0 : Int32)), (8, .int (0 : Int32))]) hl [3, 4, 5, 6, 7, 8, 2, 1, 0] rfl)
    · replace h := h.2 hc101
      refine lv_aload hx hb dL_law_138 (lv_at hl 4 rfl) ?_
      refine lv_iload hx hb dL_law_140 (lv_at hl 6 rfl) ?_
      refine lv_iconst (v := 5) hx hb dL_law_142 (by decide) ?_
      refine lv_aload_n hx hb dL_law_143 rfl (lv_at hl 0 rfl) ?_
      refine lv_iconst (v := 5) hx hb dL_law_144 (by decide) ?_
      refine x_ki (x_runSX (As := [.ref bb, .int (5 : Int32)]) (rest := [.int (5 : Int32), .int x6, .ref x4]) C hml hR hS hX hbl hbA (m_L_cell l gg bb sc (5 : Int32) S h) b_L_cell q_2_21 rfl rfl ⟨Nat.le_of_ble_eq_true rfl, Nat.le_of_ble_eq_true rfl⟩ rfl hl.1 (Nat.le_of_ble_eq_true rfl) dL_law_145 ⟨hk.1, hk.2⟩) hS (fun x103 S102 H locs hn hR hS => ?_)
      replace h := hn
      clear hn
      refine lv_iload hx hb dL_law_148 (lv_at hl 6 rfl) ?_
      refine lv_ishr hx hb dL_law_150 ?_
      refine lv_topi (fun x104 ex104 => ?_)
      replace h := h x104 ex104
      refine lv_bipush (v := 56) hx hb dL_law_151 (by decide) ?_
      refine x_ki (x_runS (As := [.int x104, .int (56 : Int32)]) (rest := [.int (5 : Int32), .int x6, .ref x4]) C hml hR hS (m_L_below l gg x104 (56 : Int32) S102 h) b_L_below q_3_2 rfl rfl ⟨Nat.le_of_ble_eq_true rfl, Nat.le_of_ble_eq_true rfl⟩ rfl hl.1 (Nat.le_of_ble_eq_true rfl) dL_law_153 ⟨hk.1, hk.2⟩) hS (fun x106 S105 H locs hn hR hS => ?_)
      replace h := hn
      clear hn
      refine lv_iadd hx hb dL_law_156 ?_
      refine lv_topi (fun x107 ex107 => ?_)
      replace h := h x107 ex107
      obtain ⟨hK_x4, h⟩ := h
      obtain ⟨hi108, h⟩ := h
      refine x_iast C hR hK_x4 hS hi108 dL_law_157 (fun H locs hR hS => ?_)
      obtain ⟨S109, eS109⟩ : ∃ z : sT, z = s_sB S105 x4 (Int32.toNatClampNeg x6) x107 := ⟨_, rfl⟩
      rw [← eS109] at hR
      replace h := h S109 eS109
      have hK_x4 : s_K S109 x4 = 11 := by rw [eS109]; exact hK_x4
      refine lv_aload_n hx hb dL_law_158 rfl (lv_at hl 1 rfl) ?_
      refine lv_aload_n hx hb dL_law_159 rfl (lv_at hl 0 rfl) ?_
      refine lv_bipush (v := 6) hx hb dL_law_160 (by decide) ?_
      refine x_ki (x_runSX (As := [.ref bb, .int (6 : Int32)]) (rest := [.ref x1]) C hml hR hS hX hbl hbA (m_L_cell l gg bb sc (6 : Int32) S109 h) b_L_cell q_2_21 rfl rfl ⟨Nat.le_of_ble_eq_true rfl, Nat.le_of_ble_eq_true rfl⟩ rfl hl.1 (Nat.le_of_ble_eq_true rfl) dL_law_162 ⟨hk.1, hk.2⟩) hS (fun x111 S110 H locs hn hR hS => ?_)
      replace h := hn
      clear hn
      refine lv_iload hx hb dL_law_165 (lv_at hl 6 rfl) ?_
      refine lv_ishr hx hb dL_law_167 ?_
      refine lv_topi (fun x112 ex112 => ?_)
      replace h := h x112 ex112
      refine lv_iload_n hx hb dL_law_168 rfl (lv_at hl 2 rfl) ?_
      refine x_ki (x_runS (As := [.int x112, .int x2]) (rest := [.ref x1]) C hml hR hS (m_L_below l gg x112 x2 S110 h) b_L_below q_3_2 rfl rfl ⟨Nat.le_of_ble_eq_true rfl, Nat.le_of_ble_eq_true rfl⟩ rfl hl.1 (Nat.le_of_ble_eq_true rfl) dL_law_169 ⟨hk.1, hk.2⟩) hS (fun x114 S113 H locs hn hR hS => ?_)
      replace h := hn
      clear hn
      refine lv_iconst (v := 1) hx hb dL_law_172 (by decide) ?_
      refine lv_aload_n hx hb dL_law_173 rfl (lv_at hl 0 rfl) ?_
      refine lv_bipush (v := 7) hx hb dL_law_174 (by decide) ?_
      refine x_ki (x_runSX (As := [.ref bb, .int (7 : Int32)]) (rest := [.int (1 : Int32), .int x114, .ref x1]) C hml hR hS hX hbl hbA (m_L_cell l gg bb sc (7 : Int32) S113 h) b_L_cell q_2_21 rfl rfl ⟨Nat.le_of_ble_eq_true rfl, Nat.le_of_ble_eq_true rfl⟩ rfl hl.1 (Nat.le_of_ble_eq_true rfl) dL_law_176 ⟨hk.1, hk.2⟩) hS (fun x116 S115 H locs hn hR hS => ?_)
      replace h := hn
      clear hn
      refine lv_iload hx hb dL_law_179 (lv_at hl 6 rfl) ?_
      refine lv_ishr hx hb dL_law_181 ?_
      refine lv_topi (fun x117 ex117 => ?_)
      replace h := h x117 ex117
      refine lv_bipush (v := 9) hx hb dL_law_182 (by decide) ?_
      refine x_ki (x_runS (As := [.int x117, .int (9 : Int32)]) (rest := [.int (1 : Int32), .int x114, .ref x1]) C hml hR hS (m_L_below l gg x117 (9 : Int32) S115 h) b_L_below q_3_2 rfl rfl ⟨Nat.le_of_ble_eq_true rfl, Nat.le_of_ble_eq_true rfl⟩ rfl hl.1 (Nat.le_of_ble_eq_true rfl) dL_law_184 ⟨hk.1, hk.2⟩) hS (fun x119 S118 H locs hn hR hS => ?_)
      replace h := hn
      clear hn
      refine lv_iadd hx hb dL_law_187 ?_
      refine lv_topi (fun x120 ex120 => ?_)
      replace h := h x120 ex120
      refine lv_aload hx hb dL_law_188 (lv_at hl 4 rfl) ?_
      refine lv_iload hx hb dL_law_190 (lv_at hl 6 rfl) ?_
      obtain ⟨hK_x4, h⟩ := h
      obtain ⟨hi121, h⟩ := h
      refine x_iald C hR hK_x4 hi121 dL_law_192 ?_
      refine lv_topi (fun x122 ex122 => ?_)
      replace h := h x122 ex122
      obtain ⟨hK_x1, h⟩ := h
      obtain ⟨c123, d124, hk1, hk2, h⟩ := h
      refine x_ki (x_runV (As := [.int x114, .int x120, .int x122]) (rest := []) C hml hR hS (mA_X6_field l gg c123 d124 x1 x114 x120 x122 S118 h) b_X6_field q_7_1 (by rw [hK_x1]; decide) (s_E_7 hK_x1) rfl rfl rfl rfl ⟨Nat.le_of_ble_eq_true rfl, Nat.le_of_ble_eq_true rfl⟩ rfl hl.1 (Nat.le_of_ble_eq_true rfl) dL_law_193 ⟨hk1, hk2⟩) hS (fun x126 S125 H locs hn hR hS => ?_)
      replace h := hn
      clear hn
      have hk : (kc + c123) ≤ mc ∧ (ks + d124) ≤ ms := ⟨hk1, hk2⟩
      refine lv_iload hx hb dL_law_196 (lv_at hl 6 rfl) ?_
      refine lv_icmp_eq (tgt := 203) hx hb dL_law_198 (by decide) (fun hc127 => ?_) (fun hc127 => ?_)
      · replace h := h.1 hc127
        refine lv_aload_n hx hb dL_law_203 rfl (lv_at hl 0 rfl) ?_
        refine lv_bipush (v := 8) hx hb dL_law_204 (by decide) ?_
        refine x_ki (x_runSX (As := [.ref bb, .int (8 : Int32)]) (rest := []) C hml hR hS hX hbl hbA (m_L_cell l gg bb sc (8 : Int32) S125 h) b_L_cell q_2_21 rfl rfl ⟨Nat.le_of_ble_eq_true rfl, Nat.le_of_ble_eq_true rfl⟩ rfl hl.1 (Nat.le_of_ble_eq_true rfl) dL_law_206 ⟨hk.1, hk.2⟩) hS (fun x129 S128 H locs hn hR hS => ?_)
        replace h := hn
        clear hn
        refine lv_iload hx hb dL_law_209 (lv_at hl 6 rfl) ?_
        refine lv_ishr hx hb dL_law_211 ?_
        refine lv_topi (fun x130 ex130 => ?_)
        replace h := h x130 ex130
        refine lv_iconst (v := 4) hx hb dL_law_212 (by decide) ?_
        refine x_ki (x_runS (As := [.int x130, .int (4 : Int32)]) (rest := []) C hml hR hS (m_L_below l gg x130 (4 : Int32) S128 h) b_L_below q_3_2 rfl rfl ⟨Nat.le_of_ble_eq_true rfl, Nat.le_of_ble_eq_true rfl⟩ rfl hl.1 (Nat.le_of_ble_eq_true rfl) dL_law_213 ⟨hk.1, hk.2⟩) hS (fun x132 S131 H locs hn hR hS => ?_)
        replace h := hn
        clear hn
        refine lv_if_le (tgt := 227) hx hb dL_law_216 (by decide) (fun hc133 => ?_) (fun hc133 => ?_)
        · replace h := h.1 hc133
          exact tA_L_law_b227 C hml hst hX hbl hbA hret hk (fun kc ks x1 x2 x3 x4 x5 x6 S hk h => ih kc ks x1 x2 x3 x4 x5 x6 S hk h) h H locs ls hR hS (lv_sub (l' := [(0, .ref bb), (1, .ref x1), (2, .int x2), (3, .int x3), (4, .ref x4), (5, .ref x5), (6, .int x6)]) hl [0, 1, 2, 3, 4, 5, 6] rfl)
        · replace h := h.2 hc133
          refine lv_aload_n hx hb dL_law_219 rfl (lv_at hl 1 rfl) ?_
          refine lv_iload hx hb dL_law_220 (lv_at hl 6 rfl) ?_
          refine lv_iconst (v := 1) hx hb dL_law_222 (by decide) ?_
          obtain ⟨hK_x1, h⟩ := h
          refine x_ki (x_runV (As := [.int x6, .int (1 : Int32)]) (rest := []) C hml hR hS (m_X6_gate l gg x1 x6 (1 : Int32) S131 h) b_X6_gate q_10_7 (by rw [hK_x1]; decide) (s_E_7 hK_x1) rfl rfl rfl rfl ⟨Nat.le_of_ble_eq_true rfl, Nat.le_of_ble_eq_true rfl⟩ rfl hl.1 (Nat.le_of_ble_eq_true rfl) dL_law_223 ⟨hk.1, hk.2⟩) hS (fun x135 S134 H locs hn hR hS => ?_)
          replace h := hn
          clear hn
          refine lv_pop hx hb dL_law_226 rfl ?_
          exact tA_L_law_b227 C hml hst hX hbl hbA hret hk (fun kc ks x1 x2 x3 x4 x5 x6 S hk h => ih kc ks x1 x2 x3 x4 x5 x6 S hk h) h H locs ls hR hS (lv_sub (l' := [(0, .ref bb), (1, .ref x1), (2, .int x2), (3, .int x3), (4, .ref x4), (5, .ref x5), (6, .int x6)]) hl [0, 1, 2, 3, 4, 5, 6] rfl)
      · replace h := h.2 hc127
        refine lv_iconst (v := 0) hx hb dL_law_201 (by decide) ?_
        exact h.elim
set_option maxHeartbeats 4000000 in
theorem tA_L_law_b22 {sc : Nat × (Nat → Int32)} {mc ms : Nat} (C : x_C p s m args c cL_law RL gg) (hml : c.maxLocals = 14) (hst : l.stackTraces = false) (hX : va_X bb sc.1 sc.2 s s.heap) (hbl : bb < s.heap.size) (hbA : ¬ s_A gg bb) (hret : ∀ (pc : Nat) (H : Heap) (ls : Array Slot) (locs : List Loc), decode cL_law pc = .ok (.ireturn, 1) → (∀ q ∈ locs, s_A gg q.base) → W p l e (rA_L_law mc ms) s m args below meth c H locs mc ms QQ (F0 m pc ls [.int 1]))   : ∀ (n : Nat) (kc ks : Nat) (x1 : Nat) (x2 : Int32) (x3 : Int32) (S : sT), kc ≤ mc ∧ ks ≤ ms → wA_L_law_b22 mc ms  sc n kc ks x1 x2 x3 S → x_X p l e (rA_L_law mc ms) s m args below meth c gg 14 kc ks QQ 22 [(0, .ref bb), (1, .ref x1), (2, .int x2), (3, .int x3)] [] S := by
  obtain ⟨hx, hb, -⟩ := id C
  intro n
  induction n with
  | zero => intro kc ks x1 x2 x3 S hk h; exact absurd h id
  | succ n ih =>
    intro kc ks x1 x2 x3 S hk h H locs ls hR hS hl
    unfold wA_L_law_b22 at h
    refine lv_iload_n hx hb dL_law_22 rfl (lv_at hl 3 rfl) ?_
    refine lv_iload_n hx hb dL_law_23 rfl (lv_at hl 2 rfl) ?_
    refine lv_icmp_ge (tgt := 104) hx hb dL_law_24 (by decide) (fun hc101 => ?_) (fun hc101 => ?_)
    · replace h := h.1 hc101
      refine lv_iconst (v := 1) hx hb dL_law_104 (by decide) ?_
      refine lv_aload_n hx hb dL_law_105 rfl (lv_at hl 0 rfl) ?_
      refine lv_iconst (v := 4) hx hb dL_law_106 (by decide) ?_
      refine x_ki (x_runSX (As := [.ref bb, .int (4 : Int32)]) (rest := [.int (1 : Int32)]) C hml hR hS hX hbl hbA (m_L_cell l gg bb sc (4 : Int32) S h) b_L_cell q_2_21 rfl rfl ⟨Nat.le_of_ble_eq_true rfl, Nat.le_of_ble_eq_true rfl⟩ rfl hl.1 (Nat.le_of_ble_eq_true rfl) dL_law_107 ⟨hk.1, hk.2⟩) hS (fun x103 S102 H locs hn hR hS => ?_)
      replace h := hn
      clear hn
      refine lv_bipush (v := 9) hx hb dL_law_110 (by decide) ?_
      refine x_ki (x_runS (As := [.int x103, .int (9 : Int32)]) (rest := [.int (1 : Int32)]) C hml hR hS (m_L_below l gg x103 (9 : Int32) S102 h) b_L_below q_3_2 rfl rfl ⟨Nat.le_of_ble_eq_true rfl, Nat.le_of_ble_eq_true rfl⟩ rfl hl.1 (Nat.le_of_ble_eq_true rfl) dL_law_112 ⟨hk.1, hk.2⟩) hS (fun x105 S104 H locs hn hR hS => ?_)
      replace h := hn
      clear hn
      refine lv_iadd hx hb dL_law_115 ?_
      refine lv_topi (fun x106 ex106 => ?_)
      replace h := h x106 ex106
      refine lv_istore_n (lv' := [(3, .int x106), (0, .ref bb), (1, .ref x1), (2, .int x2)]) hx hb dL_law_116 rfl hl (by decide) rfl (fun ls hl => ?_)
      refine lv_bipush (v := 9) hx hb dL_law_117 (by decide) ?_
      obtain ⟨hk1, hk2, h⟩ := h
      refine x_newi (N1 := 9) C hR hS q_1_3 (by decide) (by decide) (by decide) hk1 hk2 dL_law_119 (fun q107 H hq9 hq hR hS => ?_)
      replace h := h q107 hq
      have hk : (kc + 1) ≤ mc ∧ (ks + 9) ≤ ms := ⟨hk1, hk2⟩
      obtain ⟨S108, eS108⟩ : ∃ z : sT, z = s_nw S104 q107 11 9 := ⟨_, rfl⟩
      rw [← eS108] at hR
      replace h := h S108 eS108
      have hK_q107 : s_K S108 q107 = 11 := by rw [eS108]; exact s_nw_K
      refine lv_astore (lv' := [(4, .ref q107), (3, .int x106), (0, .ref bb), (1, .ref x1), (2, .int x2)]) hx hb dL_law_121 hl (by decide) rfl (fun ls hl => ?_)
      refine lv_bipush (v := 9) hx hb dL_law_123 (by decide) ?_
      obtain ⟨hk1, hk2, h⟩ := h
      refine x_newi (N1 := 9) C hR hS q_1_3 (by decide) (by decide) (by decide) hk1 hk2 dL_law_125 (fun q109 H hq9 hq hR hS => ?_)
      replace h := h q109 hq
      have hk : ((kc + 1) + 1) ≤ mc ∧ ((ks + 9) + 9) ≤ ms := ⟨hk1, hk2⟩
      obtain ⟨S110, eS110⟩ : ∃ z : sT, z = s_nw S108 q109 11 9 := ⟨_, rfl⟩
      rw [← eS110] at hR
      replace h := h S110 eS110
      have hK_q109 : s_K S110 q109 = 11 := by rw [eS110]; exact s_nw_K
      refine lv_astore (lv' := [(5, .ref q109), (4, .ref q107), (3, .int x106), (0, .ref bb), (1, .ref x1), (2, .int x2)]) hx hb dL_law_127 hl (by decide) rfl (fun ls hl => ?_)
      refine lv_iconst (v := 0) hx hb dL_law_129 (by decide) ?_
      refine lv_istore (lv' := [(6, .int (0 : Int32)), (5, .ref q109), (4, .ref q107), (3, .int x106), (0, .ref bb), (1, .ref x1), (2, .int x2)]) hx hb dL_law_130 hl (by decide) rfl (fun ls hl => ?_)
      obtain ⟨n9, h⟩ := h
      exact tA_L_law_b132 C hml hst hX hbl hbA hret  n9 ((kc + 1) + 1) ((ks + 9) + 9) x1 x2 x106 q107 q109 (0 : Int32) S110 hk h H locs ls hR hS (lv_sub (l' := [(0, .ref bb), (1, .ref x1), (2, .int x2), (3, .int x106), (4, .ref q107), (5, .ref q109), (6, .int (0 : Int32))]) hl [4, 5, 6, 3, 2, 1, 0] rfl)
    · replace h := h.2 hc101
      refine lv_aload_n hx hb dL_law_27 rfl (lv_at hl 1 rfl) ?_
      refine lv_iconst (v := 1) hx hb dL_law_28 (by decide) ?_
      refine lv_aload_n hx hb dL_law_29 rfl (lv_at hl 0 rfl) ?_
      refine lv_iconst (v := 1) hx hb dL_law_30 (by decide) ?_
      refine x_ki (x_runSX (As := [.ref bb, .int (1 : Int32)]) (rest := [.int (1 : Int32), .ref x1]) C hml hR hS hX hbl hbA (m_L_cell l gg bb sc (1 : Int32) S h) b_L_cell q_2_21 rfl rfl ⟨Nat.le_of_ble_eq_true rfl, Nat.le_of_ble_eq_true rfl⟩ rfl hl.1 (Nat.le_of_ble_eq_true rfl) dL_law_31 ⟨hk.1, hk.2⟩) hS (fun x112 S111 H locs hn hR hS => ?_)
      replace h := hn
      clear hn
      refine lv_iconst (v := 3) hx hb dL_law_34 (by decide) ?_
      refine lv_iload_n hx hb dL_law_35 rfl (lv_at hl 3 rfl) ?_
      refine lv_imul hx hb dL_law_36 ?_
      refine lv_topi (fun x113 ex113 => ?_)
      replace h := h x113 ex113
      refine lv_ishr hx hb dL_law_37 ?_
      refine lv_topi (fun x114 ex114 => ?_)
      replace h := h x114 ex114
      refine lv_bipush (v := 9) hx hb dL_law_38 (by decide) ?_
      refine x_ki (x_runS (As := [.int x114, .int (9 : Int32)]) (rest := [.int (1 : Int32), .ref x1]) C hml hR hS (m_L_below l gg x114 (9 : Int32) S111 h) b_L_below q_3_2 rfl rfl ⟨Nat.le_of_ble_eq_true rfl, Nat.le_of_ble_eq_true rfl⟩ rfl hl.1 (Nat.le_of_ble_eq_true rfl) dL_law_40 ⟨hk.1, hk.2⟩) hS (fun x116 S115 H locs hn hR hS => ?_)
      replace h := hn
      clear hn
      refine lv_iadd hx hb dL_law_43 ?_
      refine lv_topi (fun x117 ex117 => ?_)
      replace h := h x117 ex117
      refine lv_aload_n hx hb dL_law_44 rfl (lv_at hl 0 rfl) ?_
      refine lv_iconst (v := 2) hx hb dL_law_45 (by decide) ?_
      refine x_ki (x_runSX (As := [.ref bb, .int (2 : Int32)]) (rest := [.int x117, .ref x1]) C hml hR hS hX hbl hbA (m_L_cell l gg bb sc (2 : Int32) S115 h) b_L_cell q_2_21 rfl rfl ⟨Nat.le_of_ble_eq_true rfl, Nat.le_of_ble_eq_true rfl⟩ rfl hl.1 (Nat.le_of_ble_eq_true rfl) dL_law_46 ⟨hk.1, hk.2⟩) hS (fun x119 S118 H locs hn hR hS => ?_)
      replace h := hn
      clear hn
      refine lv_iconst (v := 3) hx hb dL_law_49 (by decide) ?_
      refine lv_iload_n hx hb dL_law_50 rfl (lv_at hl 3 rfl) ?_
      refine lv_imul hx hb dL_law_51 ?_
      refine lv_topi (fun x120 ex120 => ?_)
      replace h := h x120 ex120
      refine lv_ishr hx hb dL_law_52 ?_
      refine lv_topi (fun x121 ex121 => ?_)
      replace h := h x121 ex121
      refine lv_bipush (v := 51) hx hb dL_law_53 (by decide) ?_
      refine x_ki (x_runS (As := [.int x121, .int (51 : Int32)]) (rest := [.int x117, .ref x1]) C hml hR hS (m_L_below l gg x121 (51 : Int32) S118 h) b_L_below q_3_2 rfl rfl ⟨Nat.le_of_ble_eq_true rfl, Nat.le_of_ble_eq_true rfl⟩ rfl hl.1 (Nat.le_of_ble_eq_true rfl) dL_law_55 ⟨hk.1, hk.2⟩) hS (fun x123 S122 H locs hn hR hS => ?_)
      replace h := hn
      clear hn
      refine lv_aload_n hx hb dL_law_58 rfl (lv_at hl 0 rfl) ?_
      refine lv_iconst (v := 3) hx hb dL_law_59 (by decide) ?_
      refine x_ki (x_runSX (As := [.ref bb, .int (3 : Int32)]) (rest := [.int x123, .int x117, .ref x1]) C hml hR hS hX hbl hbA (m_L_cell l gg bb sc (3 : Int32) S122 h) b_L_cell q_2_21 rfl rfl ⟨Nat.le_of_ble_eq_true rfl, Nat.le_of_ble_eq_true rfl⟩ rfl hl.1 (Nat.le_of_ble_eq_true rfl) dL_law_60 ⟨hk.1, hk.2⟩) hS (fun x125 S124 H locs hn hR hS => ?_)
      replace h := hn
      clear hn
      refine lv_iload_n hx hb dL_law_63 rfl (lv_at hl 3 rfl) ?_
      refine lv_ishr hx hb dL_law_64 ?_
      refine lv_topi (fun x126 ex126 => ?_)
      replace h := h x126 ex126
      refine lv_sipush (v := 210) hx hb dL_law_65 (by decide) ?_
      refine x_ki (x_runS (As := [.int x126, .int (210 : Int32)]) (rest := [.int x123, .int x117, .ref x1]) C hml hR hS (m_L_below l gg x126 (210 : Int32) S124 h) b_L_below q_3_2 rfl rfl ⟨Nat.le_of_ble_eq_true rfl, Nat.le_of_ble_eq_true rfl⟩ rfl hl.1 (Nat.le_of_ble_eq_true rfl) dL_law_68 ⟨hk.1, hk.2⟩) hS (fun x128 S127 H locs hn hR hS => ?_)
      replace h := hn
      clear hn
      refine lv_bipush (v := 60) hx hb dL_law_71 (by decide) ?_
      refine lv_aload_n hx hb dL_law_73 rfl (lv_at hl 0 rfl) ?_
      refine lv_iconst (v := 3) hx hb dL_law_74 (by decide) ?_
      refine x_ki (x_runSX (As := [.ref bb, .int (3 : Int32)]) (rest := [.int (60 : Int32), .int x128, .int x123, .int x117, .ref x1]) C hml hR hS hX hbl hbA (m_L_cell l gg bb sc (3 : Int32) S127 h) b_L_cell q_2_21 rfl rfl ⟨Nat.le_of_ble_eq_true rfl, Nat.le_of_ble_eq_true rfl⟩ rfl hl.1 (Nat.le_of_ble_eq_true rfl) dL_law_75 ⟨hk.1, hk.2⟩) hS (fun x130 S129 H locs hn hR hS => ?_)
      replace h := hn
      clear hn
      refine lv_iconst (v := 3) hx hb dL_law_78 (by decide) ?_
      refine lv_iload_n hx hb dL_law_79 rfl (lv_at hl 3 rfl) ?_
      refine lv_iadd hx hb dL_law_80 ?_
      refine lv_topi (fun x131 ex131 => ?_)
      replace h := h x131 ex131
      refine lv_ishr hx hb dL_law_81 ?_
      refine lv_topi (fun x132 ex132 => ?_)
      replace h := h x132 ex132
      refine lv_sipush (v := 151) hx hb dL_law_82 (by decide) ?_
      refine x_ki (x_runS (As := [.int x132, .int (151 : Int32)]) (rest := [.int (60 : Int32), .int x128, .int x123, .int x117, .ref x1]) C hml hR hS (m_L_below l gg x132 (151 : Int32) S129 h) b_L_below q_3_2 rfl rfl ⟨Nat.le_of_ble_eq_true rfl, Nat.le_of_ble_eq_true rfl⟩ rfl hl.1 (Nat.le_of_ble_eq_true rfl) dL_law_85 ⟨hk.1, hk.2⟩) hS (fun x134 S133 H locs hn hR hS => ?_)
      replace h := hn
      clear hn
      refine lv_iadd hx hb dL_law_88 ?_
      refine lv_topi (fun x135 ex135 => ?_)
      replace h := h x135 ex135
      obtain ⟨hK_x1, h⟩ := h
      obtain ⟨c136, d137, hk1, hk2, h⟩ := h
      refine x_ki (x_runV (As := [.int x117, .int x123, .int x128, .int x135]) (rest := []) C hml hR hS (mA_X6_society l gg c136 d137 x1 x117 x123 x128 x135 S133 h) b_X6_society q_3_6 (by rw [hK_x1]; decide) (s_E_7 hK_x1) rfl rfl rfl rfl ⟨Nat.le_of_ble_eq_true rfl, Nat.le_of_ble_eq_true rfl⟩ rfl hl.1 (Nat.le_of_ble_eq_true rfl) dL_law_89 ⟨hk1, hk2⟩) hS (fun x139 S138 H locs hn hR hS => ?_)
      replace h := hn
      clear hn
      have hk : (kc + c136) ≤ mc ∧ (ks + d137) ≤ ms := ⟨hk1, hk2⟩
      refine lv_iload_n hx hb dL_law_92 rfl (lv_at hl 3 rfl) ?_
      refine lv_icmp_eq (tgt := 98) hx hb dL_law_93 (by decide) (fun hc140 => ?_) (fun hc140 => ?_)
      · replace h := h.1 hc140
        obtain ⟨x141, ex141⟩ : ∃ z : Int32, z = x3 + 1 := ⟨_, rfl⟩
        replace h := h x141 ex141
        refine lv_iinc (v := x141) (lv' := [(3, .int x141), (0, .ref bb), (1, .ref x1), (2, .int x2)]) hx hb dL_law_98 hl (k := 3) rfl (by rw [ex141]; rfl) (by decide) rfl (fun ls hl => ?_)
        refine lv_goto (tgt := 22) hx hb dL_law_101 (by decide) ?_
        exact ih (kc + c136) (ks + d137) x1 x2 x141 S138 hk h H locs ls hR hS (lv_sub (l' := [(0, .ref bb), (1, .ref x1), (2, .int x2), (3, .int x141)]) hl [1, 2, 3, 0] rfl)
      · replace h := h.2 hc140
        refine lv_iconst (v := 0) hx hb dL_law_96 (by decide) ?_
        exact h.elim
set_option maxHeartbeats 4000000 in
theorem tA_L_law_b0 {sc : Nat × (Nat → Int32)} {mc ms : Nat} (C : x_C p s m args c cL_law RL gg) (hml : c.maxLocals = 14) (hst : l.stackTraces = false) (hX : va_X bb sc.1 sc.2 s s.heap) (hbl : bb < s.heap.size) (hbA : ¬ s_A gg bb) (hret : ∀ (pc : Nat) (H : Heap) (ls : Array Slot) (locs : List Loc), decode cL_law pc = .ok (.ireturn, 1) → (∀ q ∈ locs, s_A gg q.base) → W p l e (rA_L_law mc ms) s m args below meth c H locs mc ms QQ (F0 m pc ls [.int 1])) {kc ks : Nat} (hk : kc ≤ mc ∧ ks ≤ ms)   {S : sT}  (h : wA_L_law_b0 mc ms kc ks  S  sc) : x_X p l e (rA_L_law mc ms) s m args below meth c gg 14 kc ks QQ 0 [(0, .ref bb)] [] S := by
  unfold wA_L_law_b0 at h
  obtain ⟨hx, hb, -⟩ := id C
  intro H locs ls hR hS hl
  obtain ⟨hk1, hk2, h⟩ := h
  refine x_nw_7 (a := 0) C hR hS q_1_0 q_1_1 q_1_2 hk1 hk2 dL_law_0 (fun q101 H hq9 hq hR hS => ?_)
  replace h := h q101 hq
  have hk : (kc + 1) ≤ mc ∧ (ks + 2) ≤ ms := ⟨hk1, hk2⟩
  obtain ⟨S102, eS102⟩ : ∃ z : sT, z = s_nw S q101 8 0 := ⟨_, rfl⟩
  rw [← eS102] at hR
  replace h := h S102 eS102
  have hK_q101 : s_K S102 q101 = 8 := by rw [eS102]; exact s_nw_K
  refine lv_dup hx hb dL_law_3 rfl ?_
  obtain ⟨c103, d104, hk1, hk2, h⟩ := h
  refine x_kv (x_runI (As := []) (rest := [.ref q101]) C hml hR hS (mA_X6_init l gg c103 d104 q101 S102 h) b_X6_init q_1_4 rfl rfl ⟨Nat.le_of_ble_eq_true rfl, Nat.le_of_ble_eq_true rfl⟩ rfl hl.1 (Nat.le_of_ble_eq_true rfl) dL_law_4 ⟨hk1, hk2⟩) hS (fun S105 H locs hn hR hS => ?_)
  replace h := hn
  clear hn
  have hk : ((kc + 1) + c103) ≤ mc ∧ ((ks + 2) + d104) ≤ ms := ⟨hk1, hk2⟩
  refine lv_astore_n (lv' := [(1, .ref q101), (0, .ref bb)]) hx hb dL_law_7 rfl hl (by decide) rfl (fun ls hl => ?_)
  refine lv_iconst (v := 1) hx hb dL_law_8 (by decide) ?_
  refine lv_aload_n hx hb dL_law_9 rfl (lv_at hl 1 rfl) ?_
  refine lv_iconst (v := 0) hx hb dL_law_10 (by decide) ?_
  refine x_ki (x_runSX (As := [.ref bb, .int (0 : Int32)]) (rest := [.int (1 : Int32)]) C hml hR hS hX hbl hbA (m_L_cell l gg bb sc (0 : Int32) S105 h) b_L_cell q_2_21 rfl rfl ⟨Nat.le_of_ble_eq_true rfl, Nat.le_of_ble_eq_true rfl⟩ rfl hl.1 (Nat.le_of_ble_eq_true rfl) dL_law_11 ⟨hk.1, hk.2⟩) hS (fun x107 S106 H locs hn hR hS => ?_)
  replace h := hn
  clear hn
  refine lv_iconst (v := 3) hx hb dL_law_14 (by decide) ?_
  refine x_ki (x_runS (As := [.int x107, .int (3 : Int32)]) (rest := [.int (1 : Int32)]) C hml hR hS (m_L_below l gg x107 (3 : Int32) S106 h) b_L_below q_3_2 rfl rfl ⟨Nat.le_of_ble_eq_true rfl, Nat.le_of_ble_eq_true rfl⟩ rfl hl.1 (Nat.le_of_ble_eq_true rfl) dL_law_15 ⟨hk.1, hk.2⟩) hS (fun x109 S108 H locs hn hR hS => ?_)
  replace h := hn
  clear hn
  refine lv_iadd hx hb dL_law_18 ?_
  refine lv_topi (fun x110 ex110 => ?_)
  replace h := h x110 ex110
  refine lv_istore_n (lv' := [(2, .int x110), (1, .ref q101), (0, .ref bb)]) hx hb dL_law_19 rfl hl (by decide) rfl (fun ls hl => ?_)
  refine lv_iconst (v := 0) hx hb dL_law_20 (by decide) ?_
  refine lv_istore_n (lv' := [(3, .int (0 : Int32)), (2, .int x110), (1, .ref q101), (0, .ref bb)]) hx hb dL_law_21 rfl hl (by decide) rfl (fun ls hl => ?_)
  obtain ⟨n9, h⟩ := h
  exact tA_L_law_b22 C hml hst hX hbl hbA hret  n9 ((kc + 1) + c103) ((ks + 2) + d104) q101 x110 (0 : Int32) S108 hk h H locs ls hR hS (lv_sub (l' := [(0, .ref bb), (1, .ref q101), (2, .int x110), (3, .int (0 : Int32))]) hl [3, 2, 1, 0] rfl)
end
