/-! deps: 22b -/
/-! ===== the reference is made ===== -/
/-! 128 yX10_init -/
theorem vc_128_0 (tt : Nat → Nat) (a0 : Nat) (h : am_H) (Q : am_H → Prop) (Qx : String → am_H → Prop) (q :
  (am_w [] ≤ 8 ∧
  am_Ev tt 128 4 [some (.ref a0)] [] h (am_pV Q Qx))) :
  am_Ev tt 128 0 [some (.ref a0)] [] h (am_pV Q Qx) := am_vc 5 [(4, [true]), (12, [true]), (20, [true]), (29, [true]), (37, [true]), (45, [true]), (53, [true]), (61, [true]), (69, [true]), (77, [true]), (85, [true]), (93, [true]), (101, [true]), (109, [true]), (117, [true]), (125, [true]), (133, [true]), (142, [true]), (151, [true]), (160, [true]), (169, [true]), (177, [true]), (185, [true]), (193, [true]), (201, [true]), (209, [true]), (217, [true]), (225, [true]), (233, [true]), (241, [true]), (249, [true]), (257, [true]), (265, [true]), (273, [true]), (281, [true]), (289, [true]), (297, [true]), (306, [true]), (314, [true]), (322, [true]), (330, [true]), (338, [true]), (345, [true]), (352, [true]), (360, [true]), (367, [true]), (374, [true]), (381, [true]), (388, [true]), (396, [true])] q
theorem vc_128_4 (tt : Nat → Nat) (a0 : Nat) (h : am_H) (Q : am_H → Prop) (Qx : String → am_H → Prop) (q :
  (¬ (Int32.ofNat 24) < (Int32.ofNat 0) ∧ ((Int32.ofNat 24)).toNatClampNeg ≤ 60000 ∧ am_U h + 1 ≤ am_LC ∧ am_V h + ((Int32.ofNat 24)).toNatClampNeg ≤ am_LS ∧ ∀ q1, am_K h q1 = 0 →
  (am_K (am_nA h q1 21 ((Int32.ofNat 24)).toNatClampNeg) a0 = 11 ∧
  am_Ev tt 128 12 [some (.ref a0)] [] (am_sR (am_nA h q1 21 ((Int32.ofNat 24)).toNatClampNeg) 10 2 a0 (some q1)) (am_pV Q Qx)))) :
  am_Ev tt 128 4 [some (.ref a0)] [] h (am_pV Q Qx) := am_vc 7 [(4, [true]), (12, [true]), (20, [true]), (29, [true]), (37, [true]), (45, [true]), (53, [true]), (61, [true]), (69, [true]), (77, [true]), (85, [true]), (93, [true]), (101, [true]), (109, [true]), (117, [true]), (125, [true]), (133, [true]), (142, [true]), (151, [true]), (160, [true]), (169, [true]), (177, [true]), (185, [true]), (193, [true]), (201, [true]), (209, [true]), (217, [true]), (225, [true]), (233, [true]), (241, [true]), (249, [true]), (257, [true]), (265, [true]), (273, [true]), (281, [true]), (289, [true]), (297, [true]), (306, [true]), (314, [true]), (322, [true]), (330, [true]), (338, [true]), (345, [true]), (352, [true]), (360, [true]), (367, [true]), (374, [true]), (381, [true]), (388, [true]), (396, [true])] q
theorem vc_128_12 (tt : Nat → Nat) (a0 : Nat) (h : am_H) (Q : am_H → Prop) (Qx : String → am_H → Prop) (q :
  (¬ (Int32.ofNat 24) < (Int32.ofNat 0) ∧ ((Int32.ofNat 24)).toNatClampNeg ≤ 60000 ∧ am_U h + 1 ≤ am_LC ∧ am_V h + ((Int32.ofNat 24)).toNatClampNeg ≤ am_LS ∧ ∀ q1, am_K h q1 = 0 →
  (am_K (am_nA h q1 21 ((Int32.ofNat 24)).toNatClampNeg) a0 = 11 ∧
  am_Ev tt 128 20 [some (.ref a0)] [] (am_sR (am_nA h q1 21 ((Int32.ofNat 24)).toNatClampNeg) 10 3 a0 (some q1)) (am_pV Q Qx)))) :
  am_Ev tt 128 12 [some (.ref a0)] [] h (am_pV Q Qx) := am_vc 7 [(4, [true]), (12, [true]), (20, [true]), (29, [true]), (37, [true]), (45, [true]), (53, [true]), (61, [true]), (69, [true]), (77, [true]), (85, [true]), (93, [true]), (101, [true]), (109, [true]), (117, [true]), (125, [true]), (133, [true]), (142, [true]), (151, [true]), (160, [true]), (169, [true]), (177, [true]), (185, [true]), (193, [true]), (201, [true]), (209, [true]), (217, [true]), (225, [true]), (233, [true]), (241, [true]), (249, [true]), (257, [true]), (265, [true]), (273, [true]), (281, [true]), (289, [true]), (297, [true]), (306, [true]), (314, [true]), (322, [true]), (330, [true]), (338, [true]), (345, [true]), (352, [true]), (360, [true]), (367, [true]), (374, [true]), (381, [true]), (388, [true]), (396, [true])] q
theorem vc_128_20 (tt : Nat → Nat) (a0 : Nat) (h : am_H) (Q : am_H → Prop) (Qx : String → am_H → Prop) (q :
  (¬ (Int32.ofNat 480) < (Int32.ofNat 0) ∧ ((Int32.ofNat 480)).toNatClampNeg ≤ 60000 ∧ am_U h + 1 ≤ am_LC ∧ am_V h + ((Int32.ofNat 480)).toNatClampNeg ≤ am_LS ∧ ∀ q1, am_K h q1 = 0 →
  (am_K (am_nA h q1 21 ((Int32.ofNat 480)).toNatClampNeg) a0 = 11 ∧
  am_Ev tt 128 29 [some (.ref a0)] [] (am_sR (am_nA h q1 21 ((Int32.ofNat 480)).toNatClampNeg) 10 4 a0 (some q1)) (am_pV Q Qx)))) :
  am_Ev tt 128 20 [some (.ref a0)] [] h (am_pV Q Qx) := am_vc 7 [(4, [true]), (12, [true]), (20, [true]), (29, [true]), (37, [true]), (45, [true]), (53, [true]), (61, [true]), (69, [true]), (77, [true]), (85, [true]), (93, [true]), (101, [true]), (109, [true]), (117, [true]), (125, [true]), (133, [true]), (142, [true]), (151, [true]), (160, [true]), (169, [true]), (177, [true]), (185, [true]), (193, [true]), (201, [true]), (209, [true]), (217, [true]), (225, [true]), (233, [true]), (241, [true]), (249, [true]), (257, [true]), (265, [true]), (273, [true]), (281, [true]), (289, [true]), (297, [true]), (306, [true]), (314, [true]), (322, [true]), (330, [true]), (338, [true]), (345, [true]), (352, [true]), (360, [true]), (367, [true]), (374, [true]), (381, [true]), (388, [true]), (396, [true])] q
theorem vc_128_29 (tt : Nat → Nat) (a0 : Nat) (h : am_H) (Q : am_H → Prop) (Qx : String → am_H → Prop) (q :
  (¬ (Int32.ofNat 24) < (Int32.ofNat 0) ∧ ((Int32.ofNat 24)).toNatClampNeg ≤ 60000 ∧ am_U h + 1 ≤ am_LC ∧ am_V h + ((Int32.ofNat 24)).toNatClampNeg ≤ am_LS ∧ ∀ q1, am_K h q1 = 0 →
  (am_K (am_nA h q1 24 ((Int32.ofNat 24)).toNatClampNeg) a0 = 11 ∧
  am_Ev tt 128 37 [some (.ref a0)] [] (am_sR (am_nA h q1 24 ((Int32.ofNat 24)).toNatClampNeg) 10 5 a0 (some q1)) (am_pV Q Qx)))) :
  am_Ev tt 128 29 [some (.ref a0)] [] h (am_pV Q Qx) := am_vc 7 [(4, [true]), (12, [true]), (20, [true]), (29, [true]), (37, [true]), (45, [true]), (53, [true]), (61, [true]), (69, [true]), (77, [true]), (85, [true]), (93, [true]), (101, [true]), (109, [true]), (117, [true]), (125, [true]), (133, [true]), (142, [true]), (151, [true]), (160, [true]), (169, [true]), (177, [true]), (185, [true]), (193, [true]), (201, [true]), (209, [true]), (217, [true]), (225, [true]), (233, [true]), (241, [true]), (249, [true]), (257, [true]), (265, [true]), (273, [true]), (281, [true]), (289, [true]), (297, [true]), (306, [true]), (314, [true]), (322, [true]), (330, [true]), (338, [true]), (345, [true]), (352, [true]), (360, [true]), (367, [true]), (374, [true]), (381, [true]), (388, [true]), (396, [true])] q
theorem vc_128_37 (tt : Nat → Nat) (a0 : Nat) (h : am_H) (Q : am_H → Prop) (Qx : String → am_H → Prop) (q :
  (¬ (Int32.ofNat 24) < (Int32.ofNat 0) ∧ ((Int32.ofNat 24)).toNatClampNeg ≤ 60000 ∧ am_U h + 1 ≤ am_LC ∧ am_V h + ((Int32.ofNat 24)).toNatClampNeg ≤ am_LS ∧ ∀ q1, am_K h q1 = 0 →
  (am_K (am_nA h q1 22 ((Int32.ofNat 24)).toNatClampNeg) a0 = 11 ∧
  am_Ev tt 128 45 [some (.ref a0)] [] (am_sR (am_nA h q1 22 ((Int32.ofNat 24)).toNatClampNeg) 10 6 a0 (some q1)) (am_pV Q Qx)))) :
  am_Ev tt 128 37 [some (.ref a0)] [] h (am_pV Q Qx) := am_vc 7 [(4, [true]), (12, [true]), (20, [true]), (29, [true]), (37, [true]), (45, [true]), (53, [true]), (61, [true]), (69, [true]), (77, [true]), (85, [true]), (93, [true]), (101, [true]), (109, [true]), (117, [true]), (125, [true]), (133, [true]), (142, [true]), (151, [true]), (160, [true]), (169, [true]), (177, [true]), (185, [true]), (193, [true]), (201, [true]), (209, [true]), (217, [true]), (225, [true]), (233, [true]), (241, [true]), (249, [true]), (257, [true]), (265, [true]), (273, [true]), (281, [true]), (289, [true]), (297, [true]), (306, [true]), (314, [true]), (322, [true]), (330, [true]), (338, [true]), (345, [true]), (352, [true]), (360, [true]), (367, [true]), (374, [true]), (381, [true]), (388, [true]), (396, [true])] q
theorem vc_128_45 (tt : Nat → Nat) (a0 : Nat) (h : am_H) (Q : am_H → Prop) (Qx : String → am_H → Prop) (q :
  (¬ (Int32.ofNat 24) < (Int32.ofNat 0) ∧ ((Int32.ofNat 24)).toNatClampNeg ≤ 60000 ∧ am_U h + 1 ≤ am_LC ∧ am_V h + ((Int32.ofNat 24)).toNatClampNeg ≤ am_LS ∧ ∀ q1, am_K h q1 = 0 →
  (am_K (am_nA h q1 24 ((Int32.ofNat 24)).toNatClampNeg) a0 = 11 ∧
  am_Ev tt 128 53 [some (.ref a0)] [] (am_sR (am_nA h q1 24 ((Int32.ofNat 24)).toNatClampNeg) 10 7 a0 (some q1)) (am_pV Q Qx)))) :
  am_Ev tt 128 45 [some (.ref a0)] [] h (am_pV Q Qx) := am_vc 7 [(4, [true]), (12, [true]), (20, [true]), (29, [true]), (37, [true]), (45, [true]), (53, [true]), (61, [true]), (69, [true]), (77, [true]), (85, [true]), (93, [true]), (101, [true]), (109, [true]), (117, [true]), (125, [true]), (133, [true]), (142, [true]), (151, [true]), (160, [true]), (169, [true]), (177, [true]), (185, [true]), (193, [true]), (201, [true]), (209, [true]), (217, [true]), (225, [true]), (233, [true]), (241, [true]), (249, [true]), (257, [true]), (265, [true]), (273, [true]), (281, [true]), (289, [true]), (297, [true]), (306, [true]), (314, [true]), (322, [true]), (330, [true]), (338, [true]), (345, [true]), (352, [true]), (360, [true]), (367, [true]), (374, [true]), (381, [true]), (388, [true]), (396, [true])] q
theorem vc_128_53 (tt : Nat → Nat) (a0 : Nat) (h : am_H) (Q : am_H → Prop) (Qx : String → am_H → Prop) (q :
  (¬ (Int32.ofNat 24) < (Int32.ofNat 0) ∧ ((Int32.ofNat 24)).toNatClampNeg ≤ 60000 ∧ am_U h + 1 ≤ am_LC ∧ am_V h + ((Int32.ofNat 24)).toNatClampNeg ≤ am_LS ∧ ∀ q1, am_K h q1 = 0 →
  (am_K (am_nA h q1 21 ((Int32.ofNat 24)).toNatClampNeg) a0 = 11 ∧
  am_Ev tt 128 61 [some (.ref a0)] [] (am_sR (am_nA h q1 21 ((Int32.ofNat 24)).toNatClampNeg) 10 8 a0 (some q1)) (am_pV Q Qx)))) :
  am_Ev tt 128 53 [some (.ref a0)] [] h (am_pV Q Qx) := am_vc 7 [(4, [true]), (12, [true]), (20, [true]), (29, [true]), (37, [true]), (45, [true]), (53, [true]), (61, [true]), (69, [true]), (77, [true]), (85, [true]), (93, [true]), (101, [true]), (109, [true]), (117, [true]), (125, [true]), (133, [true]), (142, [true]), (151, [true]), (160, [true]), (169, [true]), (177, [true]), (185, [true]), (193, [true]), (201, [true]), (209, [true]), (217, [true]), (225, [true]), (233, [true]), (241, [true]), (249, [true]), (257, [true]), (265, [true]), (273, [true]), (281, [true]), (289, [true]), (297, [true]), (306, [true]), (314, [true]), (322, [true]), (330, [true]), (338, [true]), (345, [true]), (352, [true]), (360, [true]), (367, [true]), (374, [true]), (381, [true]), (388, [true]), (396, [true])] q
theorem vc_128_61 (tt : Nat → Nat) (a0 : Nat) (h : am_H) (Q : am_H → Prop) (Qx : String → am_H → Prop) (q :
  (¬ (Int32.ofNat 24) < (Int32.ofNat 0) ∧ ((Int32.ofNat 24)).toNatClampNeg ≤ 60000 ∧ am_U h + 1 ≤ am_LC ∧ am_V h + ((Int32.ofNat 24)).toNatClampNeg ≤ am_LS ∧ ∀ q1, am_K h q1 = 0 →
  (am_K (am_nA h q1 21 ((Int32.ofNat 24)).toNatClampNeg) a0 = 11 ∧
  am_Ev tt 128 69 [some (.ref a0)] [] (am_sR (am_nA h q1 21 ((Int32.ofNat 24)).toNatClampNeg) 10 9 a0 (some q1)) (am_pV Q Qx)))) :
  am_Ev tt 128 61 [some (.ref a0)] [] h (am_pV Q Qx) := am_vc 7 [(4, [true]), (12, [true]), (20, [true]), (29, [true]), (37, [true]), (45, [true]), (53, [true]), (61, [true]), (69, [true]), (77, [true]), (85, [true]), (93, [true]), (101, [true]), (109, [true]), (117, [true]), (125, [true]), (133, [true]), (142, [true]), (151, [true]), (160, [true]), (169, [true]), (177, [true]), (185, [true]), (193, [true]), (201, [true]), (209, [true]), (217, [true]), (225, [true]), (233, [true]), (241, [true]), (249, [true]), (257, [true]), (265, [true]), (273, [true]), (281, [true]), (289, [true]), (297, [true]), (306, [true]), (314, [true]), (322, [true]), (330, [true]), (338, [true]), (345, [true]), (352, [true]), (360, [true]), (367, [true]), (374, [true]), (381, [true]), (388, [true]), (396, [true])] q
theorem vc_128_69 (tt : Nat → Nat) (a0 : Nat) (h : am_H) (Q : am_H → Prop) (Qx : String → am_H → Prop) (q :
  ((0 : Nat) = 0 ∧
  (¬ (Int32.ofNat 57600) < (Int32.ofNat 0) ∧ ((Int32.ofNat 57600)).toNatClampNeg ≤ 60000 ∧ am_U h + 1 ≤ am_LC ∧ am_V h + ((Int32.ofNat 57600)).toNatClampNeg ≤ am_LS ∧ ∀ q1, am_K h q1 = 0 →
  (am_K (am_nA h q1 23 ((Int32.ofNat 57600)).toNatClampNeg) a0 = 11 ∧
  am_Ev tt 128 77 [some (.ref a0)] [] (am_sR (am_nA h q1 23 ((Int32.ofNat 57600)).toNatClampNeg) 10 10 a0 (some q1)) (am_pV Q Qx))))) :
  am_Ev tt 128 69 [some (.ref a0)] [] h (am_pV Q Qx) := am_vc 7 [(4, [true]), (12, [true]), (20, [true]), (29, [true]), (37, [true]), (45, [true]), (53, [true]), (61, [true]), (69, [true]), (77, [true]), (85, [true]), (93, [true]), (101, [true]), (109, [true]), (117, [true]), (125, [true]), (133, [true]), (142, [true]), (151, [true]), (160, [true]), (169, [true]), (177, [true]), (185, [true]), (193, [true]), (201, [true]), (209, [true]), (217, [true]), (225, [true]), (233, [true]), (241, [true]), (249, [true]), (257, [true]), (265, [true]), (273, [true]), (281, [true]), (289, [true]), (297, [true]), (306, [true]), (314, [true]), (322, [true]), (330, [true]), (338, [true]), (345, [true]), (352, [true]), (360, [true]), (367, [true]), (374, [true]), (381, [true]), (388, [true]), (396, [true])] q
theorem vc_128_77 (tt : Nat → Nat) (a0 : Nat) (h : am_H) (Q : am_H → Prop) (Qx : String → am_H → Prop) (q :
  (¬ (Int32.ofNat 24) < (Int32.ofNat 0) ∧ ((Int32.ofNat 24)).toNatClampNeg ≤ 60000 ∧ am_U h + 1 ≤ am_LC ∧ am_V h + ((Int32.ofNat 24)).toNatClampNeg ≤ am_LS ∧ ∀ q1, am_K h q1 = 0 →
  (am_K (am_nA h q1 21 ((Int32.ofNat 24)).toNatClampNeg) a0 = 11 ∧
  am_Ev tt 128 85 [some (.ref a0)] [] (am_sR (am_nA h q1 21 ((Int32.ofNat 24)).toNatClampNeg) 10 11 a0 (some q1)) (am_pV Q Qx)))) :
  am_Ev tt 128 77 [some (.ref a0)] [] h (am_pV Q Qx) := am_vc 7 [(4, [true]), (12, [true]), (20, [true]), (29, [true]), (37, [true]), (45, [true]), (53, [true]), (61, [true]), (69, [true]), (77, [true]), (85, [true]), (93, [true]), (101, [true]), (109, [true]), (117, [true]), (125, [true]), (133, [true]), (142, [true]), (151, [true]), (160, [true]), (169, [true]), (177, [true]), (185, [true]), (193, [true]), (201, [true]), (209, [true]), (217, [true]), (225, [true]), (233, [true]), (241, [true]), (249, [true]), (257, [true]), (265, [true]), (273, [true]), (281, [true]), (289, [true]), (297, [true]), (306, [true]), (314, [true]), (322, [true]), (330, [true]), (338, [true]), (345, [true]), (352, [true]), (360, [true]), (367, [true]), (374, [true]), (381, [true]), (388, [true]), (396, [true])] q
theorem vc_128_85 (tt : Nat → Nat) (a0 : Nat) (h : am_H) (Q : am_H → Prop) (Qx : String → am_H → Prop) (q :
  (¬ (Int32.ofNat 24) < (Int32.ofNat 0) ∧ ((Int32.ofNat 24)).toNatClampNeg ≤ 60000 ∧ am_U h + 1 ≤ am_LC ∧ am_V h + ((Int32.ofNat 24)).toNatClampNeg ≤ am_LS ∧ ∀ q1, am_K h q1 = 0 →
  (am_K (am_nA h q1 24 ((Int32.ofNat 24)).toNatClampNeg) a0 = 11 ∧
  am_Ev tt 128 93 [some (.ref a0)] [] (am_sR (am_nA h q1 24 ((Int32.ofNat 24)).toNatClampNeg) 10 12 a0 (some q1)) (am_pV Q Qx)))) :
  am_Ev tt 128 85 [some (.ref a0)] [] h (am_pV Q Qx) := am_vc 7 [(4, [true]), (12, [true]), (20, [true]), (29, [true]), (37, [true]), (45, [true]), (53, [true]), (61, [true]), (69, [true]), (77, [true]), (85, [true]), (93, [true]), (101, [true]), (109, [true]), (117, [true]), (125, [true]), (133, [true]), (142, [true]), (151, [true]), (160, [true]), (169, [true]), (177, [true]), (185, [true]), (193, [true]), (201, [true]), (209, [true]), (217, [true]), (225, [true]), (233, [true]), (241, [true]), (249, [true]), (257, [true]), (265, [true]), (273, [true]), (281, [true]), (289, [true]), (297, [true]), (306, [true]), (314, [true]), (322, [true]), (330, [true]), (338, [true]), (345, [true]), (352, [true]), (360, [true]), (367, [true]), (374, [true]), (381, [true]), (388, [true]), (396, [true])] q
theorem vc_128_93 (tt : Nat → Nat) (a0 : Nat) (h : am_H) (Q : am_H → Prop) (Qx : String → am_H → Prop) (q :
  (¬ (Int32.ofNat 24) < (Int32.ofNat 0) ∧ ((Int32.ofNat 24)).toNatClampNeg ≤ 60000 ∧ am_U h + 1 ≤ am_LC ∧ am_V h + ((Int32.ofNat 24)).toNatClampNeg ≤ am_LS ∧ ∀ q1, am_K h q1 = 0 →
  (am_K (am_nA h q1 24 ((Int32.ofNat 24)).toNatClampNeg) a0 = 11 ∧
  am_Ev tt 128 101 [some (.ref a0)] [] (am_sR (am_nA h q1 24 ((Int32.ofNat 24)).toNatClampNeg) 10 13 a0 (some q1)) (am_pV Q Qx)))) :
  am_Ev tt 128 93 [some (.ref a0)] [] h (am_pV Q Qx) := am_vc 7 [(4, [true]), (12, [true]), (20, [true]), (29, [true]), (37, [true]), (45, [true]), (53, [true]), (61, [true]), (69, [true]), (77, [true]), (85, [true]), (93, [true]), (101, [true]), (109, [true]), (117, [true]), (125, [true]), (133, [true]), (142, [true]), (151, [true]), (160, [true]), (169, [true]), (177, [true]), (185, [true]), (193, [true]), (201, [true]), (209, [true]), (217, [true]), (225, [true]), (233, [true]), (241, [true]), (249, [true]), (257, [true]), (265, [true]), (273, [true]), (281, [true]), (289, [true]), (297, [true]), (306, [true]), (314, [true]), (322, [true]), (330, [true]), (338, [true]), (345, [true]), (352, [true]), (360, [true]), (367, [true]), (374, [true]), (381, [true]), (388, [true]), (396, [true])] q
theorem vc_128_101 (tt : Nat → Nat) (a0 : Nat) (h : am_H) (Q : am_H → Prop) (Qx : String → am_H → Prop) (q :
  (¬ (Int32.ofNat 6) < (Int32.ofNat 0) ∧ ((Int32.ofNat 6)).toNatClampNeg ≤ 60000 ∧ am_U h + 1 ≤ am_LC ∧ am_V h + ((Int32.ofNat 6)).toNatClampNeg ≤ am_LS ∧ ∀ q1, am_K h q1 = 0 →
  (am_K (am_nA h q1 21 ((Int32.ofNat 6)).toNatClampNeg) a0 = 11 ∧
  am_Ev tt 128 109 [some (.ref a0)] [] (am_sR (am_nA h q1 21 ((Int32.ofNat 6)).toNatClampNeg) 10 14 a0 (some q1)) (am_pV Q Qx)))) :
  am_Ev tt 128 101 [some (.ref a0)] [] h (am_pV Q Qx) := am_vc 7 [(4, [true]), (12, [true]), (20, [true]), (29, [true]), (37, [true]), (45, [true]), (53, [true]), (61, [true]), (69, [true]), (77, [true]), (85, [true]), (93, [true]), (101, [true]), (109, [true]), (117, [true]), (125, [true]), (133, [true]), (142, [true]), (151, [true]), (160, [true]), (169, [true]), (177, [true]), (185, [true]), (193, [true]), (201, [true]), (209, [true]), (217, [true]), (225, [true]), (233, [true]), (241, [true]), (249, [true]), (257, [true]), (265, [true]), (273, [true]), (281, [true]), (289, [true]), (297, [true]), (306, [true]), (314, [true]), (322, [true]), (330, [true]), (338, [true]), (345, [true]), (352, [true]), (360, [true]), (367, [true]), (374, [true]), (381, [true]), (388, [true]), (396, [true])] q
theorem vc_128_109 (tt : Nat → Nat) (a0 : Nat) (h : am_H) (Q : am_H → Prop) (Qx : String → am_H → Prop) (q :
  (¬ (Int32.ofNat 18) < (Int32.ofNat 0) ∧ ((Int32.ofNat 18)).toNatClampNeg ≤ 60000 ∧ am_U h + 1 ≤ am_LC ∧ am_V h + ((Int32.ofNat 18)).toNatClampNeg ≤ am_LS ∧ ∀ q1, am_K h q1 = 0 →
  (am_K (am_nA h q1 21 ((Int32.ofNat 18)).toNatClampNeg) a0 = 11 ∧
  am_Ev tt 128 117 [some (.ref a0)] [] (am_sR (am_nA h q1 21 ((Int32.ofNat 18)).toNatClampNeg) 10 15 a0 (some q1)) (am_pV Q Qx)))) :
  am_Ev tt 128 109 [some (.ref a0)] [] h (am_pV Q Qx) := am_vc 7 [(4, [true]), (12, [true]), (20, [true]), (29, [true]), (37, [true]), (45, [true]), (53, [true]), (61, [true]), (69, [true]), (77, [true]), (85, [true]), (93, [true]), (101, [true]), (109, [true]), (117, [true]), (125, [true]), (133, [true]), (142, [true]), (151, [true]), (160, [true]), (169, [true]), (177, [true]), (185, [true]), (193, [true]), (201, [true]), (209, [true]), (217, [true]), (225, [true]), (233, [true]), (241, [true]), (249, [true]), (257, [true]), (265, [true]), (273, [true]), (281, [true]), (289, [true]), (297, [true]), (306, [true]), (314, [true]), (322, [true]), (330, [true]), (338, [true]), (345, [true]), (352, [true]), (360, [true]), (367, [true]), (374, [true]), (381, [true]), (388, [true]), (396, [true])] q
theorem vc_128_117 (tt : Nat → Nat) (a0 : Nat) (h : am_H) (Q : am_H → Prop) (Qx : String → am_H → Prop) (q :
  (¬ (Int32.ofNat 18) < (Int32.ofNat 0) ∧ ((Int32.ofNat 18)).toNatClampNeg ≤ 60000 ∧ am_U h + 1 ≤ am_LC ∧ am_V h + ((Int32.ofNat 18)).toNatClampNeg ≤ am_LS ∧ ∀ q1, am_K h q1 = 0 →
  (am_K (am_nA h q1 21 ((Int32.ofNat 18)).toNatClampNeg) a0 = 11 ∧
  am_Ev tt 128 125 [some (.ref a0)] [] (am_sR (am_nA h q1 21 ((Int32.ofNat 18)).toNatClampNeg) 10 16 a0 (some q1)) (am_pV Q Qx)))) :
  am_Ev tt 128 117 [some (.ref a0)] [] h (am_pV Q Qx) := am_vc 7 [(4, [true]), (12, [true]), (20, [true]), (29, [true]), (37, [true]), (45, [true]), (53, [true]), (61, [true]), (69, [true]), (77, [true]), (85, [true]), (93, [true]), (101, [true]), (109, [true]), (117, [true]), (125, [true]), (133, [true]), (142, [true]), (151, [true]), (160, [true]), (169, [true]), (177, [true]), (185, [true]), (193, [true]), (201, [true]), (209, [true]), (217, [true]), (225, [true]), (233, [true]), (241, [true]), (249, [true]), (257, [true]), (265, [true]), (273, [true]), (281, [true]), (289, [true]), (297, [true]), (306, [true]), (314, [true]), (322, [true]), (330, [true]), (338, [true]), (345, [true]), (352, [true]), (360, [true]), (367, [true]), (374, [true]), (381, [true]), (388, [true]), (396, [true])] q
theorem vc_128_125 (tt : Nat → Nat) (a0 : Nat) (h : am_H) (Q : am_H → Prop) (Qx : String → am_H → Prop) (q :
  (¬ (Int32.ofNat 6) < (Int32.ofNat 0) ∧ ((Int32.ofNat 6)).toNatClampNeg ≤ 60000 ∧ am_U h + 1 ≤ am_LC ∧ am_V h + ((Int32.ofNat 6)).toNatClampNeg ≤ am_LS ∧ ∀ q1, am_K h q1 = 0 →
  (am_K (am_nA h q1 24 ((Int32.ofNat 6)).toNatClampNeg) a0 = 11 ∧
  am_Ev tt 128 133 [some (.ref a0)] [] (am_sR (am_nA h q1 24 ((Int32.ofNat 6)).toNatClampNeg) 10 17 a0 (some q1)) (am_pV Q Qx)))) :
  am_Ev tt 128 125 [some (.ref a0)] [] h (am_pV Q Qx) := am_vc 7 [(4, [true]), (12, [true]), (20, [true]), (29, [true]), (37, [true]), (45, [true]), (53, [true]), (61, [true]), (69, [true]), (77, [true]), (85, [true]), (93, [true]), (101, [true]), (109, [true]), (117, [true]), (125, [true]), (133, [true]), (142, [true]), (151, [true]), (160, [true]), (169, [true]), (177, [true]), (185, [true]), (193, [true]), (201, [true]), (209, [true]), (217, [true]), (225, [true]), (233, [true]), (241, [true]), (249, [true]), (257, [true]), (265, [true]), (273, [true]), (281, [true]), (289, [true]), (297, [true]), (306, [true]), (314, [true]), (322, [true]), (330, [true]), (338, [true]), (345, [true]), (352, [true]), (360, [true]), (367, [true]), (374, [true]), (381, [true]), (388, [true]), (396, [true])] q
theorem vc_128_133 (tt : Nat → Nat) (a0 : Nat) (h : am_H) (Q : am_H → Prop) (Qx : String → am_H → Prop) (q :
  (¬ (Int32.ofNat 5000) < (Int32.ofNat 0) ∧ ((Int32.ofNat 5000)).toNatClampNeg ≤ 60000 ∧ am_U h + 1 ≤ am_LC ∧ am_V h + ((Int32.ofNat 5000)).toNatClampNeg ≤ am_LS ∧ ∀ q1, am_K h q1 = 0 →
  (am_K (am_nA h q1 23 ((Int32.ofNat 5000)).toNatClampNeg) a0 = 11 ∧
  am_Ev tt 128 142 [some (.ref a0)] [] (am_sR (am_nA h q1 23 ((Int32.ofNat 5000)).toNatClampNeg) 10 18 a0 (some q1)) (am_pV Q Qx)))) :
  am_Ev tt 128 133 [some (.ref a0)] [] h (am_pV Q Qx) := am_vc 7 [(4, [true]), (12, [true]), (20, [true]), (29, [true]), (37, [true]), (45, [true]), (53, [true]), (61, [true]), (69, [true]), (77, [true]), (85, [true]), (93, [true]), (101, [true]), (109, [true]), (117, [true]), (125, [true]), (133, [true]), (142, [true]), (151, [true]), (160, [true]), (169, [true]), (177, [true]), (185, [true]), (193, [true]), (201, [true]), (209, [true]), (217, [true]), (225, [true]), (233, [true]), (241, [true]), (249, [true]), (257, [true]), (265, [true]), (273, [true]), (281, [true]), (289, [true]), (297, [true]), (306, [true]), (314, [true]), (322, [true]), (330, [true]), (338, [true]), (345, [true]), (352, [true]), (360, [true]), (367, [true]), (374, [true]), (381, [true]), (388, [true]), (396, [true])] q
theorem vc_128_142 (tt : Nat → Nat) (a0 : Nat) (h : am_H) (Q : am_H → Prop) (Qx : String → am_H → Prop) (q :
  (¬ (Int32.ofNat 2880) < (Int32.ofNat 0) ∧ ((Int32.ofNat 2880)).toNatClampNeg ≤ 60000 ∧ am_U h + 1 ≤ am_LC ∧ am_V h + ((Int32.ofNat 2880)).toNatClampNeg ≤ am_LS ∧ ∀ q1, am_K h q1 = 0 →
  (am_K (am_nA h q1 23 ((Int32.ofNat 2880)).toNatClampNeg) a0 = 11 ∧
  am_Ev tt 128 151 [some (.ref a0)] [] (am_sR (am_nA h q1 23 ((Int32.ofNat 2880)).toNatClampNeg) 10 21 a0 (some q1)) (am_pV Q Qx)))) :
  am_Ev tt 128 142 [some (.ref a0)] [] h (am_pV Q Qx) := am_vc 7 [(4, [true]), (12, [true]), (20, [true]), (29, [true]), (37, [true]), (45, [true]), (53, [true]), (61, [true]), (69, [true]), (77, [true]), (85, [true]), (93, [true]), (101, [true]), (109, [true]), (117, [true]), (125, [true]), (133, [true]), (142, [true]), (151, [true]), (160, [true]), (169, [true]), (177, [true]), (185, [true]), (193, [true]), (201, [true]), (209, [true]), (217, [true]), (225, [true]), (233, [true]), (241, [true]), (249, [true]), (257, [true]), (265, [true]), (273, [true]), (281, [true]), (289, [true]), (297, [true]), (306, [true]), (314, [true]), (322, [true]), (330, [true]), (338, [true]), (345, [true]), (352, [true]), (360, [true]), (367, [true]), (374, [true]), (381, [true]), (388, [true]), (396, [true])] q
theorem vc_128_151 (tt : Nat → Nat) (a0 : Nat) (h : am_H) (Q : am_H → Prop) (Qx : String → am_H → Prop) (q :
  (¬ (Int32.ofNat 2880) < (Int32.ofNat 0) ∧ ((Int32.ofNat 2880)).toNatClampNeg ≤ 60000 ∧ am_U h + 1 ≤ am_LC ∧ am_V h + ((Int32.ofNat 2880)).toNatClampNeg ≤ am_LS ∧ ∀ q1, am_K h q1 = 0 →
  (am_K (am_nA h q1 23 ((Int32.ofNat 2880)).toNatClampNeg) a0 = 11 ∧
  am_Ev tt 128 160 [some (.ref a0)] [] (am_sR (am_nA h q1 23 ((Int32.ofNat 2880)).toNatClampNeg) 10 22 a0 (some q1)) (am_pV Q Qx)))) :
  am_Ev tt 128 151 [some (.ref a0)] [] h (am_pV Q Qx) := am_vc 7 [(4, [true]), (12, [true]), (20, [true]), (29, [true]), (37, [true]), (45, [true]), (53, [true]), (61, [true]), (69, [true]), (77, [true]), (85, [true]), (93, [true]), (101, [true]), (109, [true]), (117, [true]), (125, [true]), (133, [true]), (142, [true]), (151, [true]), (160, [true]), (169, [true]), (177, [true]), (185, [true]), (193, [true]), (201, [true]), (209, [true]), (217, [true]), (225, [true]), (233, [true]), (241, [true]), (249, [true]), (257, [true]), (265, [true]), (273, [true]), (281, [true]), (289, [true]), (297, [true]), (306, [true]), (314, [true]), (322, [true]), (330, [true]), (338, [true]), (345, [true]), (352, [true]), (360, [true]), (367, [true]), (374, [true]), (381, [true]), (388, [true]), (396, [true])] q
theorem vc_128_160 (tt : Nat → Nat) (a0 : Nat) (h : am_H) (Q : am_H → Prop) (Qx : String → am_H → Prop) (q :
  (¬ (Int32.ofNat 9300) < (Int32.ofNat 0) ∧ ((Int32.ofNat 9300)).toNatClampNeg ≤ 60000 ∧ am_U h + 1 ≤ am_LC ∧ am_V h + ((Int32.ofNat 9300)).toNatClampNeg ≤ am_LS ∧ ∀ q1, am_K h q1 = 0 →
  (am_K (am_nA h q1 23 ((Int32.ofNat 9300)).toNatClampNeg) a0 = 11 ∧
  am_Ev tt 128 169 [some (.ref a0)] [] (am_sR (am_nA h q1 23 ((Int32.ofNat 9300)).toNatClampNeg) 10 23 a0 (some q1)) (am_pV Q Qx)))) :
  am_Ev tt 128 160 [some (.ref a0)] [] h (am_pV Q Qx) := am_vc 7 [(4, [true]), (12, [true]), (20, [true]), (29, [true]), (37, [true]), (45, [true]), (53, [true]), (61, [true]), (69, [true]), (77, [true]), (85, [true]), (93, [true]), (101, [true]), (109, [true]), (117, [true]), (125, [true]), (133, [true]), (142, [true]), (151, [true]), (160, [true]), (169, [true]), (177, [true]), (185, [true]), (193, [true]), (201, [true]), (209, [true]), (217, [true]), (225, [true]), (233, [true]), (241, [true]), (249, [true]), (257, [true]), (265, [true]), (273, [true]), (281, [true]), (289, [true]), (297, [true]), (306, [true]), (314, [true]), (322, [true]), (330, [true]), (338, [true]), (345, [true]), (352, [true]), (360, [true]), (367, [true]), (374, [true]), (381, [true]), (388, [true]), (396, [true])] q
theorem vc_128_169 (tt : Nat → Nat) (a0 : Nat) (h : am_H) (Q : am_H → Prop) (Qx : String → am_H → Prop) (q :
  (¬ (Int32.ofNat 24) < (Int32.ofNat 0) ∧ ((Int32.ofNat 24)).toNatClampNeg ≤ 60000 ∧ am_U h + 1 ≤ am_LC ∧ am_V h + ((Int32.ofNat 24)).toNatClampNeg ≤ am_LS ∧ ∀ q1, am_K h q1 = 0 →
  (am_K (am_nA h q1 21 ((Int32.ofNat 24)).toNatClampNeg) a0 = 11 ∧
  am_Ev tt 128 177 [some (.ref a0)] [] (am_sR (am_nA h q1 21 ((Int32.ofNat 24)).toNatClampNeg) 10 25 a0 (some q1)) (am_pV Q Qx)))) :
  am_Ev tt 128 169 [some (.ref a0)] [] h (am_pV Q Qx) := am_vc 7 [(4, [true]), (12, [true]), (20, [true]), (29, [true]), (37, [true]), (45, [true]), (53, [true]), (61, [true]), (69, [true]), (77, [true]), (85, [true]), (93, [true]), (101, [true]), (109, [true]), (117, [true]), (125, [true]), (133, [true]), (142, [true]), (151, [true]), (160, [true]), (169, [true]), (177, [true]), (185, [true]), (193, [true]), (201, [true]), (209, [true]), (217, [true]), (225, [true]), (233, [true]), (241, [true]), (249, [true]), (257, [true]), (265, [true]), (273, [true]), (281, [true]), (289, [true]), (297, [true]), (306, [true]), (314, [true]), (322, [true]), (330, [true]), (338, [true]), (345, [true]), (352, [true]), (360, [true]), (367, [true]), (374, [true]), (381, [true]), (388, [true]), (396, [true])] q
theorem vc_128_177 (tt : Nat → Nat) (a0 : Nat) (h : am_H) (Q : am_H → Prop) (Qx : String → am_H → Prop) (q :
  (¬ (Int32.ofNat 24) < (Int32.ofNat 0) ∧ ((Int32.ofNat 24)).toNatClampNeg ≤ 60000 ∧ am_U h + 1 ≤ am_LC ∧ am_V h + ((Int32.ofNat 24)).toNatClampNeg ≤ am_LS ∧ ∀ q1, am_K h q1 = 0 →
  (am_K (am_nA h q1 24 ((Int32.ofNat 24)).toNatClampNeg) a0 = 11 ∧
  am_Ev tt 128 185 [some (.ref a0)] [] (am_sR (am_nA h q1 24 ((Int32.ofNat 24)).toNatClampNeg) 10 26 a0 (some q1)) (am_pV Q Qx)))) :
  am_Ev tt 128 177 [some (.ref a0)] [] h (am_pV Q Qx) := am_vc 7 [(4, [true]), (12, [true]), (20, [true]), (29, [true]), (37, [true]), (45, [true]), (53, [true]), (61, [true]), (69, [true]), (77, [true]), (85, [true]), (93, [true]), (101, [true]), (109, [true]), (117, [true]), (125, [true]), (133, [true]), (142, [true]), (151, [true]), (160, [true]), (169, [true]), (177, [true]), (185, [true]), (193, [true]), (201, [true]), (209, [true]), (217, [true]), (225, [true]), (233, [true]), (241, [true]), (249, [true]), (257, [true]), (265, [true]), (273, [true]), (281, [true]), (289, [true]), (297, [true]), (306, [true]), (314, [true]), (322, [true]), (330, [true]), (338, [true]), (345, [true]), (352, [true]), (360, [true]), (367, [true]), (374, [true]), (381, [true]), (388, [true]), (396, [true])] q
theorem vc_128_185 (tt : Nat → Nat) (a0 : Nat) (h : am_H) (Q : am_H → Prop) (Qx : String → am_H → Prop) (q :
  (¬ (Int32.ofNat 6) < (Int32.ofNat 0) ∧ ((Int32.ofNat 6)).toNatClampNeg ≤ 60000 ∧ am_U h + 1 ≤ am_LC ∧ am_V h + ((Int32.ofNat 6)).toNatClampNeg ≤ am_LS ∧ ∀ q1, am_K h q1 = 0 →
  (am_K (am_nA h q1 21 ((Int32.ofNat 6)).toNatClampNeg) a0 = 11 ∧
  am_Ev tt 128 193 [some (.ref a0)] [] (am_sR (am_nA h q1 21 ((Int32.ofNat 6)).toNatClampNeg) 10 31 a0 (some q1)) (am_pV Q Qx)))) :
  am_Ev tt 128 185 [some (.ref a0)] [] h (am_pV Q Qx) := am_vc 7 [(4, [true]), (12, [true]), (20, [true]), (29, [true]), (37, [true]), (45, [true]), (53, [true]), (61, [true]), (69, [true]), (77, [true]), (85, [true]), (93, [true]), (101, [true]), (109, [true]), (117, [true]), (125, [true]), (133, [true]), (142, [true]), (151, [true]), (160, [true]), (169, [true]), (177, [true]), (185, [true]), (193, [true]), (201, [true]), (209, [true]), (217, [true]), (225, [true]), (233, [true]), (241, [true]), (249, [true]), (257, [true]), (265, [true]), (273, [true]), (281, [true]), (289, [true]), (297, [true]), (306, [true]), (314, [true]), (322, [true]), (330, [true]), (338, [true]), (345, [true]), (352, [true]), (360, [true]), (367, [true]), (374, [true]), (381, [true]), (388, [true]), (396, [true])] q
theorem vc_128_193 (tt : Nat → Nat) (a0 : Nat) (h : am_H) (Q : am_H → Prop) (Qx : String → am_H → Prop) (q :
  (¬ (Int32.ofNat 6) < (Int32.ofNat 0) ∧ ((Int32.ofNat 6)).toNatClampNeg ≤ 60000 ∧ am_U h + 1 ≤ am_LC ∧ am_V h + ((Int32.ofNat 6)).toNatClampNeg ≤ am_LS ∧ ∀ q1, am_K h q1 = 0 →
  (am_K (am_nA h q1 21 ((Int32.ofNat 6)).toNatClampNeg) a0 = 11 ∧
  am_Ev tt 128 201 [some (.ref a0)] [] (am_sR (am_nA h q1 21 ((Int32.ofNat 6)).toNatClampNeg) 10 32 a0 (some q1)) (am_pV Q Qx)))) :
  am_Ev tt 128 193 [some (.ref a0)] [] h (am_pV Q Qx) := am_vc 7 [(4, [true]), (12, [true]), (20, [true]), (29, [true]), (37, [true]), (45, [true]), (53, [true]), (61, [true]), (69, [true]), (77, [true]), (85, [true]), (93, [true]), (101, [true]), (109, [true]), (117, [true]), (125, [true]), (133, [true]), (142, [true]), (151, [true]), (160, [true]), (169, [true]), (177, [true]), (185, [true]), (193, [true]), (201, [true]), (209, [true]), (217, [true]), (225, [true]), (233, [true]), (241, [true]), (249, [true]), (257, [true]), (265, [true]), (273, [true]), (281, [true]), (289, [true]), (297, [true]), (306, [true]), (314, [true]), (322, [true]), (330, [true]), (338, [true]), (345, [true]), (352, [true]), (360, [true]), (367, [true]), (374, [true]), (381, [true]), (388, [true]), (396, [true])] q
theorem vc_128_201 (tt : Nat → Nat) (a0 : Nat) (h : am_H) (Q : am_H → Prop) (Qx : String → am_H → Prop) (q :
  (¬ (Int32.ofNat 6) < (Int32.ofNat 0) ∧ ((Int32.ofNat 6)).toNatClampNeg ≤ 60000 ∧ am_U h + 1 ≤ am_LC ∧ am_V h + ((Int32.ofNat 6)).toNatClampNeg ≤ am_LS ∧ ∀ q1, am_K h q1 = 0 →
  (am_K (am_nA h q1 21 ((Int32.ofNat 6)).toNatClampNeg) a0 = 11 ∧
  am_Ev tt 128 209 [some (.ref a0)] [] (am_sR (am_nA h q1 21 ((Int32.ofNat 6)).toNatClampNeg) 10 33 a0 (some q1)) (am_pV Q Qx)))) :
  am_Ev tt 128 201 [some (.ref a0)] [] h (am_pV Q Qx) := am_vc 7 [(4, [true]), (12, [true]), (20, [true]), (29, [true]), (37, [true]), (45, [true]), (53, [true]), (61, [true]), (69, [true]), (77, [true]), (85, [true]), (93, [true]), (101, [true]), (109, [true]), (117, [true]), (125, [true]), (133, [true]), (142, [true]), (151, [true]), (160, [true]), (169, [true]), (177, [true]), (185, [true]), (193, [true]), (201, [true]), (209, [true]), (217, [true]), (225, [true]), (233, [true]), (241, [true]), (249, [true]), (257, [true]), (265, [true]), (273, [true]), (281, [true]), (289, [true]), (297, [true]), (306, [true]), (314, [true]), (322, [true]), (330, [true]), (338, [true]), (345, [true]), (352, [true]), (360, [true]), (367, [true]), (374, [true]), (381, [true]), (388, [true]), (396, [true])] q
theorem vc_128_209 (tt : Nat → Nat) (a0 : Nat) (h : am_H) (Q : am_H → Prop) (Qx : String → am_H → Prop) (q :
  (¬ (Int32.ofNat 6) < (Int32.ofNat 0) ∧ ((Int32.ofNat 6)).toNatClampNeg ≤ 60000 ∧ am_U h + 1 ≤ am_LC ∧ am_V h + ((Int32.ofNat 6)).toNatClampNeg ≤ am_LS ∧ ∀ q1, am_K h q1 = 0 →
  (am_K (am_nA h q1 24 ((Int32.ofNat 6)).toNatClampNeg) a0 = 11 ∧
  am_Ev tt 128 217 [some (.ref a0)] [] (am_sR (am_nA h q1 24 ((Int32.ofNat 6)).toNatClampNeg) 10 34 a0 (some q1)) (am_pV Q Qx)))) :
  am_Ev tt 128 209 [some (.ref a0)] [] h (am_pV Q Qx) := am_vc 7 [(4, [true]), (12, [true]), (20, [true]), (29, [true]), (37, [true]), (45, [true]), (53, [true]), (61, [true]), (69, [true]), (77, [true]), (85, [true]), (93, [true]), (101, [true]), (109, [true]), (117, [true]), (125, [true]), (133, [true]), (142, [true]), (151, [true]), (160, [true]), (169, [true]), (177, [true]), (185, [true]), (193, [true]), (201, [true]), (209, [true]), (217, [true]), (225, [true]), (233, [true]), (241, [true]), (249, [true]), (257, [true]), (265, [true]), (273, [true]), (281, [true]), (289, [true]), (297, [true]), (306, [true]), (314, [true]), (322, [true]), (330, [true]), (338, [true]), (345, [true]), (352, [true]), (360, [true]), (367, [true]), (374, [true]), (381, [true]), (388, [true]), (396, [true])] q
theorem vc_128_217 (tt : Nat → Nat) (a0 : Nat) (h : am_H) (Q : am_H → Prop) (Qx : String → am_H → Prop) (q :
  (¬ (Int32.ofNat 18) < (Int32.ofNat 0) ∧ ((Int32.ofNat 18)).toNatClampNeg ≤ 60000 ∧ am_U h + 1 ≤ am_LC ∧ am_V h + ((Int32.ofNat 18)).toNatClampNeg ≤ am_LS ∧ ∀ q1, am_K h q1 = 0 →
  (am_K (am_nA h q1 21 ((Int32.ofNat 18)).toNatClampNeg) a0 = 11 ∧
  am_Ev tt 128 225 [some (.ref a0)] [] (am_sR (am_nA h q1 21 ((Int32.ofNat 18)).toNatClampNeg) 10 35 a0 (some q1)) (am_pV Q Qx)))) :
  am_Ev tt 128 217 [some (.ref a0)] [] h (am_pV Q Qx) := am_vc 7 [(4, [true]), (12, [true]), (20, [true]), (29, [true]), (37, [true]), (45, [true]), (53, [true]), (61, [true]), (69, [true]), (77, [true]), (85, [true]), (93, [true]), (101, [true]), (109, [true]), (117, [true]), (125, [true]), (133, [true]), (142, [true]), (151, [true]), (160, [true]), (169, [true]), (177, [true]), (185, [true]), (193, [true]), (201, [true]), (209, [true]), (217, [true]), (225, [true]), (233, [true]), (241, [true]), (249, [true]), (257, [true]), (265, [true]), (273, [true]), (281, [true]), (289, [true]), (297, [true]), (306, [true]), (314, [true]), (322, [true]), (330, [true]), (338, [true]), (345, [true]), (352, [true]), (360, [true]), (367, [true]), (374, [true]), (381, [true]), (388, [true]), (396, [true])] q
theorem vc_128_225 (tt : Nat → Nat) (a0 : Nat) (h : am_H) (Q : am_H → Prop) (Qx : String → am_H → Prop) (q :
  (¬ (Int32.ofNat 18) < (Int32.ofNat 0) ∧ ((Int32.ofNat 18)).toNatClampNeg ≤ 60000 ∧ am_U h + 1 ≤ am_LC ∧ am_V h + ((Int32.ofNat 18)).toNatClampNeg ≤ am_LS ∧ ∀ q1, am_K h q1 = 0 →
  (am_K (am_nA h q1 21 ((Int32.ofNat 18)).toNatClampNeg) a0 = 11 ∧
  am_Ev tt 128 233 [some (.ref a0)] [] (am_sR (am_nA h q1 21 ((Int32.ofNat 18)).toNatClampNeg) 10 36 a0 (some q1)) (am_pV Q Qx)))) :
  am_Ev tt 128 225 [some (.ref a0)] [] h (am_pV Q Qx) := am_vc 7 [(4, [true]), (12, [true]), (20, [true]), (29, [true]), (37, [true]), (45, [true]), (53, [true]), (61, [true]), (69, [true]), (77, [true]), (85, [true]), (93, [true]), (101, [true]), (109, [true]), (117, [true]), (125, [true]), (133, [true]), (142, [true]), (151, [true]), (160, [true]), (169, [true]), (177, [true]), (185, [true]), (193, [true]), (201, [true]), (209, [true]), (217, [true]), (225, [true]), (233, [true]), (241, [true]), (249, [true]), (257, [true]), (265, [true]), (273, [true]), (281, [true]), (289, [true]), (297, [true]), (306, [true]), (314, [true]), (322, [true]), (330, [true]), (338, [true]), (345, [true]), (352, [true]), (360, [true]), (367, [true]), (374, [true]), (381, [true]), (388, [true]), (396, [true])] q
set_option maxRecDepth 4096 in
theorem vc_128_233 (tt : Nat → Nat) (a0 : Nat) (h : am_H) (Q : am_H → Prop) (Qx : String → am_H → Prop) (q :
  (¬ (Int32.ofNat 6) < (Int32.ofNat 0) ∧ ((Int32.ofNat 6)).toNatClampNeg ≤ 60000 ∧ am_U h + 1 ≤ am_LC ∧ am_V h + ((Int32.ofNat 6)).toNatClampNeg ≤ am_LS ∧ ∀ q1, am_K h q1 = 0 →
  (am_K (am_nA h q1 21 ((Int32.ofNat 6)).toNatClampNeg) a0 = 11 ∧
  am_Ev tt 128 241 [some (.ref a0)] [] (am_sR (am_nA h q1 21 ((Int32.ofNat 6)).toNatClampNeg) 10 37 a0 (some q1)) (am_pV Q Qx)))) :
  am_Ev tt 128 233 [some (.ref a0)] [] h (am_pV Q Qx) := am_vc 7 [(4, [true]), (12, [true]), (20, [true]), (29, [true]), (37, [true]), (45, [true]), (53, [true]), (61, [true]), (69, [true]), (77, [true]), (85, [true]), (93, [true]), (101, [true]), (109, [true]), (117, [true]), (125, [true]), (133, [true]), (142, [true]), (151, [true]), (160, [true]), (169, [true]), (177, [true]), (185, [true]), (193, [true]), (201, [true]), (209, [true]), (217, [true]), (225, [true]), (233, [true]), (241, [true]), (249, [true]), (257, [true]), (265, [true]), (273, [true]), (281, [true]), (289, [true]), (297, [true]), (306, [true]), (314, [true]), (322, [true]), (330, [true]), (338, [true]), (345, [true]), (352, [true]), (360, [true]), (367, [true]), (374, [true]), (381, [true]), (388, [true]), (396, [true])] q
set_option maxRecDepth 4096 in
theorem vc_128_241 (tt : Nat → Nat) (a0 : Nat) (h : am_H) (Q : am_H → Prop) (Qx : String → am_H → Prop) (q :
  (¬ (Int32.ofNat 24) < (Int32.ofNat 0) ∧ ((Int32.ofNat 24)).toNatClampNeg ≤ 60000 ∧ am_U h + 1 ≤ am_LC ∧ am_V h + ((Int32.ofNat 24)).toNatClampNeg ≤ am_LS ∧ ∀ q1, am_K h q1 = 0 →
  (am_K (am_nA h q1 21 ((Int32.ofNat 24)).toNatClampNeg) a0 = 11 ∧
  am_Ev tt 128 249 [some (.ref a0)] [] (am_sR (am_nA h q1 21 ((Int32.ofNat 24)).toNatClampNeg) 10 38 a0 (some q1)) (am_pV Q Qx)))) :
  am_Ev tt 128 241 [some (.ref a0)] [] h (am_pV Q Qx) := am_vc 7 [(4, [true]), (12, [true]), (20, [true]), (29, [true]), (37, [true]), (45, [true]), (53, [true]), (61, [true]), (69, [true]), (77, [true]), (85, [true]), (93, [true]), (101, [true]), (109, [true]), (117, [true]), (125, [true]), (133, [true]), (142, [true]), (151, [true]), (160, [true]), (169, [true]), (177, [true]), (185, [true]), (193, [true]), (201, [true]), (209, [true]), (217, [true]), (225, [true]), (233, [true]), (241, [true]), (249, [true]), (257, [true]), (265, [true]), (273, [true]), (281, [true]), (289, [true]), (297, [true]), (306, [true]), (314, [true]), (322, [true]), (330, [true]), (338, [true]), (345, [true]), (352, [true]), (360, [true]), (367, [true]), (374, [true]), (381, [true]), (388, [true]), (396, [true])] q
set_option maxRecDepth 4096 in
theorem vc_128_249 (tt : Nat → Nat) (a0 : Nat) (h : am_H) (Q : am_H → Prop) (Qx : String → am_H → Prop) (q :
  (¬ (Int32.ofNat 24) < (Int32.ofNat 0) ∧ ((Int32.ofNat 24)).toNatClampNeg ≤ 60000 ∧ am_U h + 1 ≤ am_LC ∧ am_V h + ((Int32.ofNat 24)).toNatClampNeg ≤ am_LS ∧ ∀ q1, am_K h q1 = 0 →
  (am_K (am_nA h q1 21 ((Int32.ofNat 24)).toNatClampNeg) a0 = 11 ∧
  am_Ev tt 128 257 [some (.ref a0)] [] (am_sR (am_nA h q1 21 ((Int32.ofNat 24)).toNatClampNeg) 10 39 a0 (some q1)) (am_pV Q Qx)))) :
  am_Ev tt 128 249 [some (.ref a0)] [] h (am_pV Q Qx) := am_vc 7 [(4, [true]), (12, [true]), (20, [true]), (29, [true]), (37, [true]), (45, [true]), (53, [true]), (61, [true]), (69, [true]), (77, [true]), (85, [true]), (93, [true]), (101, [true]), (109, [true]), (117, [true]), (125, [true]), (133, [true]), (142, [true]), (151, [true]), (160, [true]), (169, [true]), (177, [true]), (185, [true]), (193, [true]), (201, [true]), (209, [true]), (217, [true]), (225, [true]), (233, [true]), (241, [true]), (249, [true]), (257, [true]), (265, [true]), (273, [true]), (281, [true]), (289, [true]), (297, [true]), (306, [true]), (314, [true]), (322, [true]), (330, [true]), (338, [true]), (345, [true]), (352, [true]), (360, [true]), (367, [true]), (374, [true]), (381, [true]), (388, [true]), (396, [true])] q
set_option maxRecDepth 4096 in
theorem vc_128_257 (tt : Nat → Nat) (a0 : Nat) (h : am_H) (Q : am_H → Prop) (Qx : String → am_H → Prop) (q :
  (¬ (Int32.ofNat 24) < (Int32.ofNat 0) ∧ ((Int32.ofNat 24)).toNatClampNeg ≤ 60000 ∧ am_U h + 1 ≤ am_LC ∧ am_V h + ((Int32.ofNat 24)).toNatClampNeg ≤ am_LS ∧ ∀ q1, am_K h q1 = 0 →
  (am_K (am_nA h q1 22 ((Int32.ofNat 24)).toNatClampNeg) a0 = 11 ∧
  am_Ev tt 128 265 [some (.ref a0)] [] (am_sR (am_nA h q1 22 ((Int32.ofNat 24)).toNatClampNeg) 10 40 a0 (some q1)) (am_pV Q Qx)))) :
  am_Ev tt 128 257 [some (.ref a0)] [] h (am_pV Q Qx) := am_vc 7 [(4, [true]), (12, [true]), (20, [true]), (29, [true]), (37, [true]), (45, [true]), (53, [true]), (61, [true]), (69, [true]), (77, [true]), (85, [true]), (93, [true]), (101, [true]), (109, [true]), (117, [true]), (125, [true]), (133, [true]), (142, [true]), (151, [true]), (160, [true]), (169, [true]), (177, [true]), (185, [true]), (193, [true]), (201, [true]), (209, [true]), (217, [true]), (225, [true]), (233, [true]), (241, [true]), (249, [true]), (257, [true]), (265, [true]), (273, [true]), (281, [true]), (289, [true]), (297, [true]), (306, [true]), (314, [true]), (322, [true]), (330, [true]), (338, [true]), (345, [true]), (352, [true]), (360, [true]), (367, [true]), (374, [true]), (381, [true]), (388, [true]), (396, [true])] q
set_option maxRecDepth 4096 in
theorem vc_128_265 (tt : Nat → Nat) (a0 : Nat) (h : am_H) (Q : am_H → Prop) (Qx : String → am_H → Prop) (q :
  (¬ (Int32.ofNat 24) < (Int32.ofNat 0) ∧ ((Int32.ofNat 24)).toNatClampNeg ≤ 60000 ∧ am_U h + 1 ≤ am_LC ∧ am_V h + ((Int32.ofNat 24)).toNatClampNeg ≤ am_LS ∧ ∀ q1, am_K h q1 = 0 →
  (am_K (am_nA h q1 24 ((Int32.ofNat 24)).toNatClampNeg) a0 = 11 ∧
  am_Ev tt 128 273 [some (.ref a0)] [] (am_sR (am_nA h q1 24 ((Int32.ofNat 24)).toNatClampNeg) 10 42 a0 (some q1)) (am_pV Q Qx)))) :
  am_Ev tt 128 265 [some (.ref a0)] [] h (am_pV Q Qx) := am_vc 7 [(4, [true]), (12, [true]), (20, [true]), (29, [true]), (37, [true]), (45, [true]), (53, [true]), (61, [true]), (69, [true]), (77, [true]), (85, [true]), (93, [true]), (101, [true]), (109, [true]), (117, [true]), (125, [true]), (133, [true]), (142, [true]), (151, [true]), (160, [true]), (169, [true]), (177, [true]), (185, [true]), (193, [true]), (201, [true]), (209, [true]), (217, [true]), (225, [true]), (233, [true]), (241, [true]), (249, [true]), (257, [true]), (265, [true]), (273, [true]), (281, [true]), (289, [true]), (297, [true]), (306, [true]), (314, [true]), (322, [true]), (330, [true]), (338, [true]), (345, [true]), (352, [true]), (360, [true]), (367, [true]), (374, [true]), (381, [true]), (388, [true]), (396, [true])] q
set_option maxRecDepth 4096 in
theorem vc_128_273 (tt : Nat → Nat) (a0 : Nat) (h : am_H) (Q : am_H → Prop) (Qx : String → am_H → Prop) (q :
  (¬ (Int32.ofNat 24) < (Int32.ofNat 0) ∧ ((Int32.ofNat 24)).toNatClampNeg ≤ 60000 ∧ am_U h + 1 ≤ am_LC ∧ am_V h + ((Int32.ofNat 24)).toNatClampNeg ≤ am_LS ∧ ∀ q1, am_K h q1 = 0 →
  (am_K (am_nA h q1 24 ((Int32.ofNat 24)).toNatClampNeg) a0 = 11 ∧
  am_Ev tt 128 281 [some (.ref a0)] [] (am_sR (am_nA h q1 24 ((Int32.ofNat 24)).toNatClampNeg) 10 43 a0 (some q1)) (am_pV Q Qx)))) :
  am_Ev tt 128 273 [some (.ref a0)] [] h (am_pV Q Qx) := am_vc 7 [(4, [true]), (12, [true]), (20, [true]), (29, [true]), (37, [true]), (45, [true]), (53, [true]), (61, [true]), (69, [true]), (77, [true]), (85, [true]), (93, [true]), (101, [true]), (109, [true]), (117, [true]), (125, [true]), (133, [true]), (142, [true]), (151, [true]), (160, [true]), (169, [true]), (177, [true]), (185, [true]), (193, [true]), (201, [true]), (209, [true]), (217, [true]), (225, [true]), (233, [true]), (241, [true]), (249, [true]), (257, [true]), (265, [true]), (273, [true]), (281, [true]), (289, [true]), (297, [true]), (306, [true]), (314, [true]), (322, [true]), (330, [true]), (338, [true]), (345, [true]), (352, [true]), (360, [true]), (367, [true]), (374, [true]), (381, [true]), (388, [true]), (396, [true])] q
set_option maxRecDepth 4096 in
theorem vc_128_281 (tt : Nat → Nat) (a0 : Nat) (h : am_H) (Q : am_H → Prop) (Qx : String → am_H → Prop) (q :
  (¬ (Int32.ofNat 24) < (Int32.ofNat 0) ∧ ((Int32.ofNat 24)).toNatClampNeg ≤ 60000 ∧ am_U h + 1 ≤ am_LC ∧ am_V h + ((Int32.ofNat 24)).toNatClampNeg ≤ am_LS ∧ ∀ q1, am_K h q1 = 0 →
  (am_K (am_nA h q1 24 ((Int32.ofNat 24)).toNatClampNeg) a0 = 11 ∧
  am_Ev tt 128 289 [some (.ref a0)] [] (am_sR (am_nA h q1 24 ((Int32.ofNat 24)).toNatClampNeg) 10 44 a0 (some q1)) (am_pV Q Qx)))) :
  am_Ev tt 128 281 [some (.ref a0)] [] h (am_pV Q Qx) := am_vc 7 [(4, [true]), (12, [true]), (20, [true]), (29, [true]), (37, [true]), (45, [true]), (53, [true]), (61, [true]), (69, [true]), (77, [true]), (85, [true]), (93, [true]), (101, [true]), (109, [true]), (117, [true]), (125, [true]), (133, [true]), (142, [true]), (151, [true]), (160, [true]), (169, [true]), (177, [true]), (185, [true]), (193, [true]), (201, [true]), (209, [true]), (217, [true]), (225, [true]), (233, [true]), (241, [true]), (249, [true]), (257, [true]), (265, [true]), (273, [true]), (281, [true]), (289, [true]), (297, [true]), (306, [true]), (314, [true]), (322, [true]), (330, [true]), (338, [true]), (345, [true]), (352, [true]), (360, [true]), (367, [true]), (374, [true]), (381, [true]), (388, [true]), (396, [true])] q
set_option maxRecDepth 4096 in
theorem vc_128_289 (tt : Nat → Nat) (a0 : Nat) (h : am_H) (Q : am_H → Prop) (Qx : String → am_H → Prop) (q :
  (¬ (Int32.ofNat 24) < (Int32.ofNat 0) ∧ ((Int32.ofNat 24)).toNatClampNeg ≤ 60000 ∧ am_U h + 1 ≤ am_LC ∧ am_V h + ((Int32.ofNat 24)).toNatClampNeg ≤ am_LS ∧ ∀ q1, am_K h q1 = 0 →
  (am_K (am_nA h q1 21 ((Int32.ofNat 24)).toNatClampNeg) a0 = 11 ∧
  am_Ev tt 128 297 [some (.ref a0)] [] (am_sR (am_nA h q1 21 ((Int32.ofNat 24)).toNatClampNeg) 10 45 a0 (some q1)) (am_pV Q Qx)))) :
  am_Ev tt 128 289 [some (.ref a0)] [] h (am_pV Q Qx) := am_vc 7 [(4, [true]), (12, [true]), (20, [true]), (29, [true]), (37, [true]), (45, [true]), (53, [true]), (61, [true]), (69, [true]), (77, [true]), (85, [true]), (93, [true]), (101, [true]), (109, [true]), (117, [true]), (125, [true]), (133, [true]), (142, [true]), (151, [true]), (160, [true]), (169, [true]), (177, [true]), (185, [true]), (193, [true]), (201, [true]), (209, [true]), (217, [true]), (225, [true]), (233, [true]), (241, [true]), (249, [true]), (257, [true]), (265, [true]), (273, [true]), (281, [true]), (289, [true]), (297, [true]), (306, [true]), (314, [true]), (322, [true]), (330, [true]), (338, [true]), (345, [true]), (352, [true]), (360, [true]), (367, [true]), (374, [true]), (381, [true]), (388, [true]), (396, [true])] q
set_option maxRecDepth 4096 in
theorem vc_128_297 (tt : Nat → Nat) (a0 : Nat) (h : am_H) (Q : am_H → Prop) (Qx : String → am_H → Prop) (q :
  (¬ (Int32.ofNat 480) < (Int32.ofNat 0) ∧ ((Int32.ofNat 480)).toNatClampNeg ≤ 60000 ∧ am_U h + 1 ≤ am_LC ∧ am_V h + ((Int32.ofNat 480)).toNatClampNeg ≤ am_LS ∧ ∀ q1, am_K h q1 = 0 →
  (am_K (am_nA h q1 21 ((Int32.ofNat 480)).toNatClampNeg) a0 = 11 ∧
  am_Ev tt 128 306 [some (.ref a0)] [] (am_sR (am_nA h q1 21 ((Int32.ofNat 480)).toNatClampNeg) 10 46 a0 (some q1)) (am_pV Q Qx)))) :
  am_Ev tt 128 297 [some (.ref a0)] [] h (am_pV Q Qx) := am_vc 7 [(4, [true]), (12, [true]), (20, [true]), (29, [true]), (37, [true]), (45, [true]), (53, [true]), (61, [true]), (69, [true]), (77, [true]), (85, [true]), (93, [true]), (101, [true]), (109, [true]), (117, [true]), (125, [true]), (133, [true]), (142, [true]), (151, [true]), (160, [true]), (169, [true]), (177, [true]), (185, [true]), (193, [true]), (201, [true]), (209, [true]), (217, [true]), (225, [true]), (233, [true]), (241, [true]), (249, [true]), (257, [true]), (265, [true]), (273, [true]), (281, [true]), (289, [true]), (297, [true]), (306, [true]), (314, [true]), (322, [true]), (330, [true]), (338, [true]), (345, [true]), (352, [true]), (360, [true]), (367, [true]), (374, [true]), (381, [true]), (388, [true]), (396, [true])] q
set_option maxRecDepth 4096 in
theorem vc_128_306 (tt : Nat → Nat) (a0 : Nat) (h : am_H) (Q : am_H → Prop) (Qx : String → am_H → Prop) (q :
  (¬ (Int32.ofNat 24) < (Int32.ofNat 0) ∧ ((Int32.ofNat 24)).toNatClampNeg ≤ 60000 ∧ am_U h + 1 ≤ am_LC ∧ am_V h + ((Int32.ofNat 24)).toNatClampNeg ≤ am_LS ∧ ∀ q1, am_K h q1 = 0 →
  (am_K (am_nA h q1 24 ((Int32.ofNat 24)).toNatClampNeg) a0 = 11 ∧
  am_Ev tt 128 314 [some (.ref a0)] [] (am_sR (am_nA h q1 24 ((Int32.ofNat 24)).toNatClampNeg) 10 47 a0 (some q1)) (am_pV Q Qx)))) :
  am_Ev tt 128 306 [some (.ref a0)] [] h (am_pV Q Qx) := am_vc 7 [(4, [true]), (12, [true]), (20, [true]), (29, [true]), (37, [true]), (45, [true]), (53, [true]), (61, [true]), (69, [true]), (77, [true]), (85, [true]), (93, [true]), (101, [true]), (109, [true]), (117, [true]), (125, [true]), (133, [true]), (142, [true]), (151, [true]), (160, [true]), (169, [true]), (177, [true]), (185, [true]), (193, [true]), (201, [true]), (209, [true]), (217, [true]), (225, [true]), (233, [true]), (241, [true]), (249, [true]), (257, [true]), (265, [true]), (273, [true]), (281, [true]), (289, [true]), (297, [true]), (306, [true]), (314, [true]), (322, [true]), (330, [true]), (338, [true]), (345, [true]), (352, [true]), (360, [true]), (367, [true]), (374, [true]), (381, [true]), (388, [true]), (396, [true])] q
set_option maxRecDepth 4096 in
theorem vc_128_314 (tt : Nat → Nat) (a0 : Nat) (h : am_H) (Q : am_H → Prop) (Qx : String → am_H → Prop) (q :
  (¬ (Int32.ofNat 24) < (Int32.ofNat 0) ∧ ((Int32.ofNat 24)).toNatClampNeg ≤ 60000 ∧ am_U h + 1 ≤ am_LC ∧ am_V h + ((Int32.ofNat 24)).toNatClampNeg ≤ am_LS ∧ ∀ q1, am_K h q1 = 0 →
  (am_K (am_nA h q1 22 ((Int32.ofNat 24)).toNatClampNeg) a0 = 11 ∧
  am_Ev tt 128 322 [some (.ref a0)] [] (am_sR (am_nA h q1 22 ((Int32.ofNat 24)).toNatClampNeg) 10 48 a0 (some q1)) (am_pV Q Qx)))) :
  am_Ev tt 128 314 [some (.ref a0)] [] h (am_pV Q Qx) := am_vc 7 [(4, [true]), (12, [true]), (20, [true]), (29, [true]), (37, [true]), (45, [true]), (53, [true]), (61, [true]), (69, [true]), (77, [true]), (85, [true]), (93, [true]), (101, [true]), (109, [true]), (117, [true]), (125, [true]), (133, [true]), (142, [true]), (151, [true]), (160, [true]), (169, [true]), (177, [true]), (185, [true]), (193, [true]), (201, [true]), (209, [true]), (217, [true]), (225, [true]), (233, [true]), (241, [true]), (249, [true]), (257, [true]), (265, [true]), (273, [true]), (281, [true]), (289, [true]), (297, [true]), (306, [true]), (314, [true]), (322, [true]), (330, [true]), (338, [true]), (345, [true]), (352, [true]), (360, [true]), (367, [true]), (374, [true]), (381, [true]), (388, [true]), (396, [true])] q
set_option maxRecDepth 4096 in
theorem vc_128_322 (tt : Nat → Nat) (a0 : Nat) (h : am_H) (Q : am_H → Prop) (Qx : String → am_H → Prop) (q :
  (¬ (Int32.ofNat 24) < (Int32.ofNat 0) ∧ ((Int32.ofNat 24)).toNatClampNeg ≤ 60000 ∧ am_U h + 1 ≤ am_LC ∧ am_V h + ((Int32.ofNat 24)).toNatClampNeg ≤ am_LS ∧ ∀ q1, am_K h q1 = 0 →
  (am_K (am_nA h q1 24 ((Int32.ofNat 24)).toNatClampNeg) a0 = 11 ∧
  am_Ev tt 128 330 [some (.ref a0)] [] (am_sR (am_nA h q1 24 ((Int32.ofNat 24)).toNatClampNeg) 10 49 a0 (some q1)) (am_pV Q Qx)))) :
  am_Ev tt 128 322 [some (.ref a0)] [] h (am_pV Q Qx) := am_vc 7 [(4, [true]), (12, [true]), (20, [true]), (29, [true]), (37, [true]), (45, [true]), (53, [true]), (61, [true]), (69, [true]), (77, [true]), (85, [true]), (93, [true]), (101, [true]), (109, [true]), (117, [true]), (125, [true]), (133, [true]), (142, [true]), (151, [true]), (160, [true]), (169, [true]), (177, [true]), (185, [true]), (193, [true]), (201, [true]), (209, [true]), (217, [true]), (225, [true]), (233, [true]), (241, [true]), (249, [true]), (257, [true]), (265, [true]), (273, [true]), (281, [true]), (289, [true]), (297, [true]), (306, [true]), (314, [true]), (322, [true]), (330, [true]), (338, [true]), (345, [true]), (352, [true]), (360, [true]), (367, [true]), (374, [true]), (381, [true]), (388, [true]), (396, [true])] q
set_option maxRecDepth 4096 in
theorem vc_128_330 (tt : Nat → Nat) (a0 : Nat) (h : am_H) (Q : am_H → Prop) (Qx : String → am_H → Prop) (q :
  (¬ (Int32.ofNat 24) < (Int32.ofNat 0) ∧ ((Int32.ofNat 24)).toNatClampNeg ≤ 60000 ∧ am_U h + 1 ≤ am_LC ∧ am_V h + ((Int32.ofNat 24)).toNatClampNeg ≤ am_LS ∧ ∀ q1, am_K h q1 = 0 →
  (am_K (am_nA h q1 21 ((Int32.ofNat 24)).toNatClampNeg) a0 = 11 ∧
  am_Ev tt 128 338 [some (.ref a0)] [] (am_sR (am_nA h q1 21 ((Int32.ofNat 24)).toNatClampNeg) 10 50 a0 (some q1)) (am_pV Q Qx)))) :
  am_Ev tt 128 330 [some (.ref a0)] [] h (am_pV Q Qx) := am_vc 7 [(4, [true]), (12, [true]), (20, [true]), (29, [true]), (37, [true]), (45, [true]), (53, [true]), (61, [true]), (69, [true]), (77, [true]), (85, [true]), (93, [true]), (101, [true]), (109, [true]), (117, [true]), (125, [true]), (133, [true]), (142, [true]), (151, [true]), (160, [true]), (169, [true]), (177, [true]), (185, [true]), (193, [true]), (201, [true]), (209, [true]), (217, [true]), (225, [true]), (233, [true]), (241, [true]), (249, [true]), (257, [true]), (265, [true]), (273, [true]), (281, [true]), (289, [true]), (297, [true]), (306, [true]), (314, [true]), (322, [true]), (330, [true]), (338, [true]), (345, [true]), (352, [true]), (360, [true]), (367, [true]), (374, [true]), (381, [true]), (388, [true]), (396, [true])] q
set_option maxRecDepth 4096 in
theorem vc_128_338 (tt : Nat → Nat) (a0 : Nat) (h : am_H) (Q : am_H → Prop) (Qx : String → am_H → Prop) (q :
  (¬ (Int32.ofNat 3) < (Int32.ofNat 0) ∧ ((Int32.ofNat 3)).toNatClampNeg ≤ 60000 ∧ am_U h + 1 ≤ am_LC ∧ am_V h + ((Int32.ofNat 3)).toNatClampNeg ≤ am_LS ∧ ∀ q1, am_K h q1 = 0 →
  (am_K (am_nA h q1 21 ((Int32.ofNat 3)).toNatClampNeg) a0 = 11 ∧
  am_Ev tt 128 345 [some (.ref a0)] [] (am_sR (am_nA h q1 21 ((Int32.ofNat 3)).toNatClampNeg) 10 52 a0 (some q1)) (am_pV Q Qx)))) :
  am_Ev tt 128 338 [some (.ref a0)] [] h (am_pV Q Qx) := am_vc 7 [(4, [true]), (12, [true]), (20, [true]), (29, [true]), (37, [true]), (45, [true]), (53, [true]), (61, [true]), (69, [true]), (77, [true]), (85, [true]), (93, [true]), (101, [true]), (109, [true]), (117, [true]), (125, [true]), (133, [true]), (142, [true]), (151, [true]), (160, [true]), (169, [true]), (177, [true]), (185, [true]), (193, [true]), (201, [true]), (209, [true]), (217, [true]), (225, [true]), (233, [true]), (241, [true]), (249, [true]), (257, [true]), (265, [true]), (273, [true]), (281, [true]), (289, [true]), (297, [true]), (306, [true]), (314, [true]), (322, [true]), (330, [true]), (338, [true]), (345, [true]), (352, [true]), (360, [true]), (367, [true]), (374, [true]), (381, [true]), (388, [true]), (396, [true])] q
set_option maxRecDepth 4096 in
theorem vc_128_345 (tt : Nat → Nat) (a0 : Nat) (h : am_H) (Q : am_H → Prop) (Qx : String → am_H → Prop) (q :
  (¬ (Int32.ofNat 3) < (Int32.ofNat 0) ∧ ((Int32.ofNat 3)).toNatClampNeg ≤ 60000 ∧ am_U h + 1 ≤ am_LC ∧ am_V h + ((Int32.ofNat 3)).toNatClampNeg ≤ am_LS ∧ ∀ q1, am_K h q1 = 0 →
  (am_K (am_nA h q1 21 ((Int32.ofNat 3)).toNatClampNeg) a0 = 11 ∧
  am_Ev tt 128 352 [some (.ref a0)] [] (am_sR (am_nA h q1 21 ((Int32.ofNat 3)).toNatClampNeg) 10 53 a0 (some q1)) (am_pV Q Qx)))) :
  am_Ev tt 128 345 [some (.ref a0)] [] h (am_pV Q Qx) := am_vc 7 [(4, [true]), (12, [true]), (20, [true]), (29, [true]), (37, [true]), (45, [true]), (53, [true]), (61, [true]), (69, [true]), (77, [true]), (85, [true]), (93, [true]), (101, [true]), (109, [true]), (117, [true]), (125, [true]), (133, [true]), (142, [true]), (151, [true]), (160, [true]), (169, [true]), (177, [true]), (185, [true]), (193, [true]), (201, [true]), (209, [true]), (217, [true]), (225, [true]), (233, [true]), (241, [true]), (249, [true]), (257, [true]), (265, [true]), (273, [true]), (281, [true]), (289, [true]), (297, [true]), (306, [true]), (314, [true]), (322, [true]), (330, [true]), (338, [true]), (345, [true]), (352, [true]), (360, [true]), (367, [true]), (374, [true]), (381, [true]), (388, [true]), (396, [true])] q
set_option maxRecDepth 4096 in
theorem vc_128_352 (tt : Nat → Nat) (a0 : Nat) (h : am_H) (Q : am_H → Prop) (Qx : String → am_H → Prop) (q :
  (¬ (Int32.ofNat 12) < (Int32.ofNat 0) ∧ ((Int32.ofNat 12)).toNatClampNeg ≤ 60000 ∧ am_U h + 1 ≤ am_LC ∧ am_V h + ((Int32.ofNat 12)).toNatClampNeg ≤ am_LS ∧ ∀ q1, am_K h q1 = 0 →
  (am_K (am_nA h q1 21 ((Int32.ofNat 12)).toNatClampNeg) a0 = 11 ∧
  am_Ev tt 128 360 [some (.ref a0)] [] (am_sR (am_nA h q1 21 ((Int32.ofNat 12)).toNatClampNeg) 10 54 a0 (some q1)) (am_pV Q Qx)))) :
  am_Ev tt 128 352 [some (.ref a0)] [] h (am_pV Q Qx) := am_vc 7 [(4, [true]), (12, [true]), (20, [true]), (29, [true]), (37, [true]), (45, [true]), (53, [true]), (61, [true]), (69, [true]), (77, [true]), (85, [true]), (93, [true]), (101, [true]), (109, [true]), (117, [true]), (125, [true]), (133, [true]), (142, [true]), (151, [true]), (160, [true]), (169, [true]), (177, [true]), (185, [true]), (193, [true]), (201, [true]), (209, [true]), (217, [true]), (225, [true]), (233, [true]), (241, [true]), (249, [true]), (257, [true]), (265, [true]), (273, [true]), (281, [true]), (289, [true]), (297, [true]), (306, [true]), (314, [true]), (322, [true]), (330, [true]), (338, [true]), (345, [true]), (352, [true]), (360, [true]), (367, [true]), (374, [true]), (381, [true]), (388, [true]), (396, [true])] q
set_option maxRecDepth 4096 in
theorem vc_128_360 (tt : Nat → Nat) (a0 : Nat) (h : am_H) (Q : am_H → Prop) (Qx : String → am_H → Prop) (q :
  (¬ (Int32.ofNat 3) < (Int32.ofNat 0) ∧ ((Int32.ofNat 3)).toNatClampNeg ≤ 60000 ∧ am_U h + 1 ≤ am_LC ∧ am_V h + ((Int32.ofNat 3)).toNatClampNeg ≤ am_LS ∧ ∀ q1, am_K h q1 = 0 →
  (am_K (am_nA h q1 21 ((Int32.ofNat 3)).toNatClampNeg) a0 = 11 ∧
  am_Ev tt 128 367 [some (.ref a0)] [] (am_sR (am_nA h q1 21 ((Int32.ofNat 3)).toNatClampNeg) 10 55 a0 (some q1)) (am_pV Q Qx)))) :
  am_Ev tt 128 360 [some (.ref a0)] [] h (am_pV Q Qx) := am_vc 7 [(4, [true]), (12, [true]), (20, [true]), (29, [true]), (37, [true]), (45, [true]), (53, [true]), (61, [true]), (69, [true]), (77, [true]), (85, [true]), (93, [true]), (101, [true]), (109, [true]), (117, [true]), (125, [true]), (133, [true]), (142, [true]), (151, [true]), (160, [true]), (169, [true]), (177, [true]), (185, [true]), (193, [true]), (201, [true]), (209, [true]), (217, [true]), (225, [true]), (233, [true]), (241, [true]), (249, [true]), (257, [true]), (265, [true]), (273, [true]), (281, [true]), (289, [true]), (297, [true]), (306, [true]), (314, [true]), (322, [true]), (330, [true]), (338, [true]), (345, [true]), (352, [true]), (360, [true]), (367, [true]), (374, [true]), (381, [true]), (388, [true]), (396, [true])] q
set_option maxRecDepth 4096 in
theorem vc_128_367 (tt : Nat → Nat) (a0 : Nat) (h : am_H) (Q : am_H → Prop) (Qx : String → am_H → Prop) (q :
  (¬ (Int32.ofNat 3) < (Int32.ofNat 0) ∧ ((Int32.ofNat 3)).toNatClampNeg ≤ 60000 ∧ am_U h + 1 ≤ am_LC ∧ am_V h + ((Int32.ofNat 3)).toNatClampNeg ≤ am_LS ∧ ∀ q1, am_K h q1 = 0 →
  (am_K (am_nA h q1 21 ((Int32.ofNat 3)).toNatClampNeg) a0 = 11 ∧
  am_Ev tt 128 374 [some (.ref a0)] [] (am_sR (am_nA h q1 21 ((Int32.ofNat 3)).toNatClampNeg) 10 56 a0 (some q1)) (am_pV Q Qx)))) :
  am_Ev tt 128 367 [some (.ref a0)] [] h (am_pV Q Qx) := am_vc 7 [(4, [true]), (12, [true]), (20, [true]), (29, [true]), (37, [true]), (45, [true]), (53, [true]), (61, [true]), (69, [true]), (77, [true]), (85, [true]), (93, [true]), (101, [true]), (109, [true]), (117, [true]), (125, [true]), (133, [true]), (142, [true]), (151, [true]), (160, [true]), (169, [true]), (177, [true]), (185, [true]), (193, [true]), (201, [true]), (209, [true]), (217, [true]), (225, [true]), (233, [true]), (241, [true]), (249, [true]), (257, [true]), (265, [true]), (273, [true]), (281, [true]), (289, [true]), (297, [true]), (306, [true]), (314, [true]), (322, [true]), (330, [true]), (338, [true]), (345, [true]), (352, [true]), (360, [true]), (367, [true]), (374, [true]), (381, [true]), (388, [true]), (396, [true])] q
set_option maxRecDepth 4096 in
theorem vc_128_374 (tt : Nat → Nat) (a0 : Nat) (h : am_H) (Q : am_H → Prop) (Qx : String → am_H → Prop) (q :
  (¬ (Int32.ofNat 3) < (Int32.ofNat 0) ∧ ((Int32.ofNat 3)).toNatClampNeg ≤ 60000 ∧ am_U h + 1 ≤ am_LC ∧ am_V h + ((Int32.ofNat 3)).toNatClampNeg ≤ am_LS ∧ ∀ q1, am_K h q1 = 0 →
  (am_K (am_nA h q1 21 ((Int32.ofNat 3)).toNatClampNeg) a0 = 11 ∧
  am_Ev tt 128 381 [some (.ref a0)] [] (am_sR (am_nA h q1 21 ((Int32.ofNat 3)).toNatClampNeg) 10 57 a0 (some q1)) (am_pV Q Qx)))) :
  am_Ev tt 128 374 [some (.ref a0)] [] h (am_pV Q Qx) := am_vc 7 [(4, [true]), (12, [true]), (20, [true]), (29, [true]), (37, [true]), (45, [true]), (53, [true]), (61, [true]), (69, [true]), (77, [true]), (85, [true]), (93, [true]), (101, [true]), (109, [true]), (117, [true]), (125, [true]), (133, [true]), (142, [true]), (151, [true]), (160, [true]), (169, [true]), (177, [true]), (185, [true]), (193, [true]), (201, [true]), (209, [true]), (217, [true]), (225, [true]), (233, [true]), (241, [true]), (249, [true]), (257, [true]), (265, [true]), (273, [true]), (281, [true]), (289, [true]), (297, [true]), (306, [true]), (314, [true]), (322, [true]), (330, [true]), (338, [true]), (345, [true]), (352, [true]), (360, [true]), (367, [true]), (374, [true]), (381, [true]), (388, [true]), (396, [true])] q
set_option maxRecDepth 4096 in
theorem vc_128_381 (tt : Nat → Nat) (a0 : Nat) (h : am_H) (Q : am_H → Prop) (Qx : String → am_H → Prop) (q :
  (¬ (Int32.ofNat 3) < (Int32.ofNat 0) ∧ ((Int32.ofNat 3)).toNatClampNeg ≤ 60000 ∧ am_U h + 1 ≤ am_LC ∧ am_V h + ((Int32.ofNat 3)).toNatClampNeg ≤ am_LS ∧ ∀ q1, am_K h q1 = 0 →
  (am_K (am_nA h q1 21 ((Int32.ofNat 3)).toNatClampNeg) a0 = 11 ∧
  am_Ev tt 128 388 [some (.ref a0)] [] (am_sR (am_nA h q1 21 ((Int32.ofNat 3)).toNatClampNeg) 10 58 a0 (some q1)) (am_pV Q Qx)))) :
  am_Ev tt 128 381 [some (.ref a0)] [] h (am_pV Q Qx) := am_vc 7 [(4, [true]), (12, [true]), (20, [true]), (29, [true]), (37, [true]), (45, [true]), (53, [true]), (61, [true]), (69, [true]), (77, [true]), (85, [true]), (93, [true]), (101, [true]), (109, [true]), (117, [true]), (125, [true]), (133, [true]), (142, [true]), (151, [true]), (160, [true]), (169, [true]), (177, [true]), (185, [true]), (193, [true]), (201, [true]), (209, [true]), (217, [true]), (225, [true]), (233, [true]), (241, [true]), (249, [true]), (257, [true]), (265, [true]), (273, [true]), (281, [true]), (289, [true]), (297, [true]), (306, [true]), (314, [true]), (322, [true]), (330, [true]), (338, [true]), (345, [true]), (352, [true]), (360, [true]), (367, [true]), (374, [true]), (381, [true]), (388, [true]), (396, [true])] q
set_option maxRecDepth 4096 in
theorem vc_128_388 (tt : Nat → Nat) (a0 : Nat) (h : am_H) (Q : am_H → Prop) (Qx : String → am_H → Prop) (q :
  (¬ (Int32.ofNat 6) < (Int32.ofNat 0) ∧ ((Int32.ofNat 6)).toNatClampNeg ≤ 60000 ∧ am_U h + 1 ≤ am_LC ∧ am_V h + ((Int32.ofNat 6)).toNatClampNeg ≤ am_LS ∧ ∀ q1, am_K h q1 = 0 →
  (am_K (am_nA h q1 21 ((Int32.ofNat 6)).toNatClampNeg) a0 = 11 ∧
  am_Ev tt 128 396 [some (.ref a0)] [] (am_sR (am_nA h q1 21 ((Int32.ofNat 6)).toNatClampNeg) 10 59 a0 (some q1)) (am_pV Q Qx)))) :
  am_Ev tt 128 388 [some (.ref a0)] [] h (am_pV Q Qx) := am_vc 7 [(4, [true]), (12, [true]), (20, [true]), (29, [true]), (37, [true]), (45, [true]), (53, [true]), (61, [true]), (69, [true]), (77, [true]), (85, [true]), (93, [true]), (101, [true]), (109, [true]), (117, [true]), (125, [true]), (133, [true]), (142, [true]), (151, [true]), (160, [true]), (169, [true]), (177, [true]), (185, [true]), (193, [true]), (201, [true]), (209, [true]), (217, [true]), (225, [true]), (233, [true]), (241, [true]), (249, [true]), (257, [true]), (265, [true]), (273, [true]), (281, [true]), (289, [true]), (297, [true]), (306, [true]), (314, [true]), (322, [true]), (330, [true]), (338, [true]), (345, [true]), (352, [true]), (360, [true]), (367, [true]), (374, [true]), (381, [true]), (388, [true]), (396, [true])] q
set_option maxRecDepth 4096 in
theorem vc_128_396 (tt : Nat → Nat) (a0 : Nat) (h : am_H) (Q : am_H → Prop) (Qx : String → am_H → Prop) (q :
  (¬ (Int32.ofNat 6) < (Int32.ofNat 0) ∧ ((Int32.ofNat 6)).toNatClampNeg ≤ 60000 ∧ am_U h + 1 ≤ am_LC ∧ am_V h + ((Int32.ofNat 6)).toNatClampNeg ≤ am_LS ∧ ∀ q1, am_K h q1 = 0 →
  (am_K (am_nA h q1 21 ((Int32.ofNat 6)).toNatClampNeg) a0 = 11 ∧
  Q (am_sR (am_nA h q1 21 ((Int32.ofNat 6)).toNatClampNeg) 10 60 a0 (some q1))))) :
  am_Ev tt 128 396 [some (.ref a0)] [] h (am_pV Q Qx) := am_vc 7 [(4, [true]), (12, [true]), (20, [true]), (29, [true]), (37, [true]), (45, [true]), (53, [true]), (61, [true]), (69, [true]), (77, [true]), (85, [true]), (93, [true]), (101, [true]), (109, [true]), (117, [true]), (125, [true]), (133, [true]), (142, [true]), (151, [true]), (160, [true]), (169, [true]), (177, [true]), (185, [true]), (193, [true]), (201, [true]), (209, [true]), (217, [true]), (225, [true]), (233, [true]), (241, [true]), (249, [true]), (257, [true]), (265, [true]), (273, [true]), (281, [true]), (289, [true]), (297, [true]), (306, [true]), (314, [true]), (322, [true]), (330, [true]), (338, [true]), (345, [true]), (352, [true]), (360, [true]), (367, [true]), (374, [true]), (381, [true]), (388, [true]), (396, [true])] q

section INM
variable {tt : Nat → Nat} {h : am_H}
theorem ob_128 {Q : am_H → Prop} {e : Nat} (he : am_K h e = 11) (hU : am_U h + 50 ≤ am_LC) (hV : am_V h + 79328 ≤ am_LS) (nx : ∀ k c, OB h k e 10 (fun k => mkl.getD k (0, 0)) c [60, 59, 58, 57, 56, 55, 54, 53, 52, 50, 49, 48, 47, 46, 45, 44, 43, 42, 40, 39, 38, 37, 36, 35, 34, 33, 32, 31, 26, 25, 23, 22, 21, 18, 17, 16, 15, 14, 13, 12, 11, 10, 9, 8, 7, 6, 5, 4, 3, 2] 50 79328 → Q k) : am_Ev tt 128 0 [some (.ref e)] [] h (am_pV Q (fun _ _ => False)) := by
  have e0 : am_K h e ≠ 0 := by rw [he]; decide
  have o : OB h h e 10 (fun k => mkl.getD k (0, 0)) (fun _ => 0) [] 0 0 := OB.re e0
  refine vc_128_0 tt _ _ _ _ ⟨by decide, ?_⟩
  have ou := o.2.2.2.2.2.2.2.1
  have ov := o.2.2.2.2.2.2.2.2
  refine vc_128_4 tt _ _ _ _ (al_step (X := fun h1 => am_Ev tt 128 12 [some (.ref e)] [] h1 (am_pV Q (fun _ _ => False))) (o.kk he) (by decide) (by decide) (by rw [ou]; omega) (by rw [ov]; omega) (fun u h1 l => ?_))
  obtain ⟨c, o⟩ := o.al l (by decide) rfl (by decide)
  clear l ou ov
  have ou := o.2.2.2.2.2.2.2.1
  have ov := o.2.2.2.2.2.2.2.2
  refine vc_128_12 tt _ _ _ _ (al_step (X := fun h1 => am_Ev tt 128 20 [some (.ref e)] [] h1 (am_pV Q (fun _ _ => False))) (o.kk he) (by decide) (by decide) (by rw [ou]; omega) (by rw [ov]; omega) (fun u h1 l => ?_))
  obtain ⟨c, o⟩ := o.al l (by decide) rfl (by decide)
  clear l ou ov
  have ou := o.2.2.2.2.2.2.2.1
  have ov := o.2.2.2.2.2.2.2.2
  refine vc_128_20 tt _ _ _ _ (al_step (X := fun h1 => am_Ev tt 128 29 [some (.ref e)] [] h1 (am_pV Q (fun _ _ => False))) (o.kk he) (by decide) (by decide) (by rw [ou]; omega) (by rw [ov]; omega) (fun u h1 l => ?_))
  obtain ⟨c, o⟩ := o.al l (by decide) rfl (by decide)
  clear l ou ov
  have ou := o.2.2.2.2.2.2.2.1
  have ov := o.2.2.2.2.2.2.2.2
  refine vc_128_29 tt _ _ _ _ (al_step (X := fun h1 => am_Ev tt 128 37 [some (.ref e)] [] h1 (am_pV Q (fun _ _ => False))) (o.kk he) (by decide) (by decide) (by rw [ou]; omega) (by rw [ov]; omega) (fun u h1 l => ?_))
  obtain ⟨c, o⟩ := o.al l (by decide) rfl (by decide)
  clear l ou ov
  have ou := o.2.2.2.2.2.2.2.1
  have ov := o.2.2.2.2.2.2.2.2
  refine vc_128_37 tt _ _ _ _ (al_step (X := fun h1 => am_Ev tt 128 45 [some (.ref e)] [] h1 (am_pV Q (fun _ _ => False))) (o.kk he) (by decide) (by decide) (by rw [ou]; omega) (by rw [ov]; omega) (fun u h1 l => ?_))
  obtain ⟨c, o⟩ := o.al l (by decide) rfl (by decide)
  clear l ou ov
  have ou := o.2.2.2.2.2.2.2.1
  have ov := o.2.2.2.2.2.2.2.2
  refine vc_128_45 tt _ _ _ _ (al_step (X := fun h1 => am_Ev tt 128 53 [some (.ref e)] [] h1 (am_pV Q (fun _ _ => False))) (o.kk he) (by decide) (by decide) (by rw [ou]; omega) (by rw [ov]; omega) (fun u h1 l => ?_))
  obtain ⟨c, o⟩ := o.al l (by decide) rfl (by decide)
  clear l ou ov
  have ou := o.2.2.2.2.2.2.2.1
  have ov := o.2.2.2.2.2.2.2.2
  refine vc_128_53 tt _ _ _ _ (al_step (X := fun h1 => am_Ev tt 128 61 [some (.ref e)] [] h1 (am_pV Q (fun _ _ => False))) (o.kk he) (by decide) (by decide) (by rw [ou]; omega) (by rw [ov]; omega) (fun u h1 l => ?_))
  obtain ⟨c, o⟩ := o.al l (by decide) rfl (by decide)
  clear l ou ov
  have ou := o.2.2.2.2.2.2.2.1
  have ov := o.2.2.2.2.2.2.2.2
  refine vc_128_61 tt _ _ _ _ (al_step (X := fun h1 => am_Ev tt 128 69 [some (.ref e)] [] h1 (am_pV Q (fun _ _ => False))) (o.kk he) (by decide) (by decide) (by rw [ou]; omega) (by rw [ov]; omega) (fun u h1 l => ?_))
  obtain ⟨c, o⟩ := o.al l (by decide) rfl (by decide)
  clear l ou ov
  have ou := o.2.2.2.2.2.2.2.1
  have ov := o.2.2.2.2.2.2.2.2
  refine vc_128_69 tt _ _ _ _ ⟨rfl, (al_step (X := fun h1 => am_Ev tt 128 77 [some (.ref e)] [] h1 (am_pV Q (fun _ _ => False))) (o.kk he) (by decide) (by decide) (by rw [ou]; omega) (by rw [ov]; omega) (fun u h1 l => ?_))⟩
  obtain ⟨c, o⟩ := o.al l (by decide) rfl (by decide)
  clear l ou ov
  have ou := o.2.2.2.2.2.2.2.1
  have ov := o.2.2.2.2.2.2.2.2
  refine vc_128_77 tt _ _ _ _ (al_step (X := fun h1 => am_Ev tt 128 85 [some (.ref e)] [] h1 (am_pV Q (fun _ _ => False))) (o.kk he) (by decide) (by decide) (by rw [ou]; omega) (by rw [ov]; omega) (fun u h1 l => ?_))
  obtain ⟨c, o⟩ := o.al l (by decide) rfl (by decide)
  clear l ou ov
  have ou := o.2.2.2.2.2.2.2.1
  have ov := o.2.2.2.2.2.2.2.2
  refine vc_128_85 tt _ _ _ _ (al_step (X := fun h1 => am_Ev tt 128 93 [some (.ref e)] [] h1 (am_pV Q (fun _ _ => False))) (o.kk he) (by decide) (by decide) (by rw [ou]; omega) (by rw [ov]; omega) (fun u h1 l => ?_))
  obtain ⟨c, o⟩ := o.al l (by decide) rfl (by decide)
  clear l ou ov
  have ou := o.2.2.2.2.2.2.2.1
  have ov := o.2.2.2.2.2.2.2.2
  refine vc_128_93 tt _ _ _ _ (al_step (X := fun h1 => am_Ev tt 128 101 [some (.ref e)] [] h1 (am_pV Q (fun _ _ => False))) (o.kk he) (by decide) (by decide) (by rw [ou]; omega) (by rw [ov]; omega) (fun u h1 l => ?_))
  obtain ⟨c, o⟩ := o.al l (by decide) rfl (by decide)
  clear l ou ov
  have ou := o.2.2.2.2.2.2.2.1
  have ov := o.2.2.2.2.2.2.2.2
  refine vc_128_101 tt _ _ _ _ (al_step (X := fun h1 => am_Ev tt 128 109 [some (.ref e)] [] h1 (am_pV Q (fun _ _ => False))) (o.kk he) (by decide) (by decide) (by rw [ou]; omega) (by rw [ov]; omega) (fun u h1 l => ?_))
  obtain ⟨c, o⟩ := o.al l (by decide) rfl (by decide)
  clear l ou ov
  have ou := o.2.2.2.2.2.2.2.1
  have ov := o.2.2.2.2.2.2.2.2
  refine vc_128_109 tt _ _ _ _ (al_step (X := fun h1 => am_Ev tt 128 117 [some (.ref e)] [] h1 (am_pV Q (fun _ _ => False))) (o.kk he) (by decide) (by decide) (by rw [ou]; omega) (by rw [ov]; omega) (fun u h1 l => ?_))
  obtain ⟨c, o⟩ := o.al l (by decide) rfl (by decide)
  clear l ou ov
  have ou := o.2.2.2.2.2.2.2.1
  have ov := o.2.2.2.2.2.2.2.2
  refine vc_128_117 tt _ _ _ _ (al_step (X := fun h1 => am_Ev tt 128 125 [some (.ref e)] [] h1 (am_pV Q (fun _ _ => False))) (o.kk he) (by decide) (by decide) (by rw [ou]; omega) (by rw [ov]; omega) (fun u h1 l => ?_))
  obtain ⟨c, o⟩ := o.al l (by decide) rfl (by decide)
  clear l ou ov
  have ou := o.2.2.2.2.2.2.2.1
  have ov := o.2.2.2.2.2.2.2.2
  refine vc_128_125 tt _ _ _ _ (al_step (X := fun h1 => am_Ev tt 128 133 [some (.ref e)] [] h1 (am_pV Q (fun _ _ => False))) (o.kk he) (by decide) (by decide) (by rw [ou]; omega) (by rw [ov]; omega) (fun u h1 l => ?_))
  obtain ⟨c, o⟩ := o.al l (by decide) rfl (by decide)
  clear l ou ov
  have ou := o.2.2.2.2.2.2.2.1
  have ov := o.2.2.2.2.2.2.2.2
  refine vc_128_133 tt _ _ _ _ (al_step (X := fun h1 => am_Ev tt 128 142 [some (.ref e)] [] h1 (am_pV Q (fun _ _ => False))) (o.kk he) (by decide) (by decide) (by rw [ou]; omega) (by rw [ov]; omega) (fun u h1 l => ?_))
  obtain ⟨c, o⟩ := o.al l (by decide) rfl (by decide)
  clear l ou ov
  have ou := o.2.2.2.2.2.2.2.1
  have ov := o.2.2.2.2.2.2.2.2
  refine vc_128_142 tt _ _ _ _ (al_step (X := fun h1 => am_Ev tt 128 151 [some (.ref e)] [] h1 (am_pV Q (fun _ _ => False))) (o.kk he) (by decide) (by decide) (by rw [ou]; omega) (by rw [ov]; omega) (fun u h1 l => ?_))
  obtain ⟨c, o⟩ := o.al l (by decide) rfl (by decide)
  clear l ou ov
  have ou := o.2.2.2.2.2.2.2.1
  have ov := o.2.2.2.2.2.2.2.2
  refine vc_128_151 tt _ _ _ _ (al_step (X := fun h1 => am_Ev tt 128 160 [some (.ref e)] [] h1 (am_pV Q (fun _ _ => False))) (o.kk he) (by decide) (by decide) (by rw [ou]; omega) (by rw [ov]; omega) (fun u h1 l => ?_))
  obtain ⟨c, o⟩ := o.al l (by decide) rfl (by decide)
  clear l ou ov
  have ou := o.2.2.2.2.2.2.2.1
  have ov := o.2.2.2.2.2.2.2.2
  refine vc_128_160 tt _ _ _ _ (al_step (X := fun h1 => am_Ev tt 128 169 [some (.ref e)] [] h1 (am_pV Q (fun _ _ => False))) (o.kk he) (by decide) (by decide) (by rw [ou]; omega) (by rw [ov]; omega) (fun u h1 l => ?_))
  obtain ⟨c, o⟩ := o.al l (by decide) rfl (by decide)
  clear l ou ov
  have ou := o.2.2.2.2.2.2.2.1
  have ov := o.2.2.2.2.2.2.2.2
  refine vc_128_169 tt _ _ _ _ (al_step (X := fun h1 => am_Ev tt 128 177 [some (.ref e)] [] h1 (am_pV Q (fun _ _ => False))) (o.kk he) (by decide) (by decide) (by rw [ou]; omega) (by rw [ov]; omega) (fun u h1 l => ?_))
  obtain ⟨c, o⟩ := o.al l (by decide) rfl (by decide)
  clear l ou ov
  have ou := o.2.2.2.2.2.2.2.1
  have ov := o.2.2.2.2.2.2.2.2
  refine vc_128_177 tt _ _ _ _ (al_step (X := fun h1 => am_Ev tt 128 185 [some (.ref e)] [] h1 (am_pV Q (fun _ _ => False))) (o.kk he) (by decide) (by decide) (by rw [ou]; omega) (by rw [ov]; omega) (fun u h1 l => ?_))
  obtain ⟨c, o⟩ := o.al l (by decide) rfl (by decide)
  clear l ou ov
  have ou := o.2.2.2.2.2.2.2.1
  have ov := o.2.2.2.2.2.2.2.2
  refine vc_128_185 tt _ _ _ _ (al_step (X := fun h1 => am_Ev tt 128 193 [some (.ref e)] [] h1 (am_pV Q (fun _ _ => False))) (o.kk he) (by decide) (by decide) (by rw [ou]; omega) (by rw [ov]; omega) (fun u h1 l => ?_))
  obtain ⟨c, o⟩ := o.al l (by decide) rfl (by decide)
  clear l ou ov
  have ou := o.2.2.2.2.2.2.2.1
  have ov := o.2.2.2.2.2.2.2.2
  refine vc_128_193 tt _ _ _ _ (al_step (X := fun h1 => am_Ev tt 128 201 [some (.ref e)] [] h1 (am_pV Q (fun _ _ => False))) (o.kk he) (by decide) (by decide) (by rw [ou]; omega) (by rw [ov]; omega) (fun u h1 l => ?_))
  obtain ⟨c, o⟩ := o.al l (by decide) rfl (by decide)
  clear l ou ov
  have ou := o.2.2.2.2.2.2.2.1
  have ov := o.2.2.2.2.2.2.2.2
  refine vc_128_201 tt _ _ _ _ (al_step (X := fun h1 => am_Ev tt 128 209 [some (.ref e)] [] h1 (am_pV Q (fun _ _ => False))) (o.kk he) (by decide) (by decide) (by rw [ou]; omega) (by rw [ov]; omega) (fun u h1 l => ?_))
  obtain ⟨c, o⟩ := o.al l (by decide) rfl (by decide)
  clear l ou ov
  have ou := o.2.2.2.2.2.2.2.1
  have ov := o.2.2.2.2.2.2.2.2
  refine vc_128_209 tt _ _ _ _ (al_step (X := fun h1 => am_Ev tt 128 217 [some (.ref e)] [] h1 (am_pV Q (fun _ _ => False))) (o.kk he) (by decide) (by decide) (by rw [ou]; omega) (by rw [ov]; omega) (fun u h1 l => ?_))
  obtain ⟨c, o⟩ := o.al l (by decide) rfl (by decide)
  clear l ou ov
  have ou := o.2.2.2.2.2.2.2.1
  have ov := o.2.2.2.2.2.2.2.2
  refine vc_128_217 tt _ _ _ _ (al_step (X := fun h1 => am_Ev tt 128 225 [some (.ref e)] [] h1 (am_pV Q (fun _ _ => False))) (o.kk he) (by decide) (by decide) (by rw [ou]; omega) (by rw [ov]; omega) (fun u h1 l => ?_))
  obtain ⟨c, o⟩ := o.al l (by decide) rfl (by decide)
  clear l ou ov
  have ou := o.2.2.2.2.2.2.2.1
  have ov := o.2.2.2.2.2.2.2.2
  refine vc_128_225 tt _ _ _ _ (al_step (X := fun h1 => am_Ev tt 128 233 [some (.ref e)] [] h1 (am_pV Q (fun _ _ => False))) (o.kk he) (by decide) (by decide) (by rw [ou]; omega) (by rw [ov]; omega) (fun u h1 l => ?_))
  obtain ⟨c, o⟩ := o.al l (by decide) rfl (by decide)
  clear l ou ov
  have ou := o.2.2.2.2.2.2.2.1
  have ov := o.2.2.2.2.2.2.2.2
  refine vc_128_233 tt _ _ _ _ (al_step (X := fun h1 => am_Ev tt 128 241 [some (.ref e)] [] h1 (am_pV Q (fun _ _ => False))) (o.kk he) (by decide) (by decide) (by rw [ou]; omega) (by rw [ov]; omega) (fun u h1 l => ?_))
  obtain ⟨c, o⟩ := o.al l (by decide) rfl (by decide)
  clear l ou ov
  have ou := o.2.2.2.2.2.2.2.1
  have ov := o.2.2.2.2.2.2.2.2
  refine vc_128_241 tt _ _ _ _ (al_step (X := fun h1 => am_Ev tt 128 249 [some (.ref e)] [] h1 (am_pV Q (fun _ _ => False))) (o.kk he) (by decide) (by decide) (by rw [ou]; omega) (by rw [ov]; omega) (fun u h1 l => ?_))
  obtain ⟨c, o⟩ := o.al l (by decide) rfl (by decide)
  clear l ou ov
  have ou := o.2.2.2.2.2.2.2.1
  have ov := o.2.2.2.2.2.2.2.2
  refine vc_128_249 tt _ _ _ _ (al_step (X := fun h1 => am_Ev tt 128 257 [some (.ref e)] [] h1 (am_pV Q (fun _ _ => False))) (o.kk he) (by decide) (by decide) (by rw [ou]; omega) (by rw [ov]; omega) (fun u h1 l => ?_))
  obtain ⟨c, o⟩ := o.al l (by decide) rfl (by decide)
  clear l ou ov
  have ou := o.2.2.2.2.2.2.2.1
  have ov := o.2.2.2.2.2.2.2.2
  refine vc_128_257 tt _ _ _ _ (al_step (X := fun h1 => am_Ev tt 128 265 [some (.ref e)] [] h1 (am_pV Q (fun _ _ => False))) (o.kk he) (by decide) (by decide) (by rw [ou]; omega) (by rw [ov]; omega) (fun u h1 l => ?_))
  obtain ⟨c, o⟩ := o.al l (by decide) rfl (by decide)
  clear l ou ov
  have ou := o.2.2.2.2.2.2.2.1
  have ov := o.2.2.2.2.2.2.2.2
  refine vc_128_265 tt _ _ _ _ (al_step (X := fun h1 => am_Ev tt 128 273 [some (.ref e)] [] h1 (am_pV Q (fun _ _ => False))) (o.kk he) (by decide) (by decide) (by rw [ou]; omega) (by rw [ov]; omega) (fun u h1 l => ?_))
  obtain ⟨c, o⟩ := o.al l (by decide) rfl (by decide)
  clear l ou ov
  have ou := o.2.2.2.2.2.2.2.1
  have ov := o.2.2.2.2.2.2.2.2
  refine vc_128_273 tt _ _ _ _ (al_step (X := fun h1 => am_Ev tt 128 281 [some (.ref e)] [] h1 (am_pV Q (fun _ _ => False))) (o.kk he) (by decide) (by decide) (by rw [ou]; omega) (by rw [ov]; omega) (fun u h1 l => ?_))
  obtain ⟨c, o⟩ := o.al l (by decide) rfl (by decide)
  clear l ou ov
  have ou := o.2.2.2.2.2.2.2.1
  have ov := o.2.2.2.2.2.2.2.2
  refine vc_128_281 tt _ _ _ _ (al_step (X := fun h1 => am_Ev tt 128 289 [some (.ref e)] [] h1 (am_pV Q (fun _ _ => False))) (o.kk he) (by decide) (by decide) (by rw [ou]; omega) (by rw [ov]; omega) (fun u h1 l => ?_))
  obtain ⟨c, o⟩ := o.al l (by decide) rfl (by decide)
  clear l ou ov
  have ou := o.2.2.2.2.2.2.2.1
  have ov := o.2.2.2.2.2.2.2.2
  refine vc_128_289 tt _ _ _ _ (al_step (X := fun h1 => am_Ev tt 128 297 [some (.ref e)] [] h1 (am_pV Q (fun _ _ => False))) (o.kk he) (by decide) (by decide) (by rw [ou]; omega) (by rw [ov]; omega) (fun u h1 l => ?_))
  obtain ⟨c, o⟩ := o.al l (by decide) rfl (by decide)
  clear l ou ov
  have ou := o.2.2.2.2.2.2.2.1
  have ov := o.2.2.2.2.2.2.2.2
  refine vc_128_297 tt _ _ _ _ (al_step (X := fun h1 => am_Ev tt 128 306 [some (.ref e)] [] h1 (am_pV Q (fun _ _ => False))) (o.kk he) (by decide) (by decide) (by rw [ou]; omega) (by rw [ov]; omega) (fun u h1 l => ?_))
  obtain ⟨c, o⟩ := o.al l (by decide) rfl (by decide)
  clear l ou ov
  have ou := o.2.2.2.2.2.2.2.1
  have ov := o.2.2.2.2.2.2.2.2
  refine vc_128_306 tt _ _ _ _ (al_step (X := fun h1 => am_Ev tt 128 314 [some (.ref e)] [] h1 (am_pV Q (fun _ _ => False))) (o.kk he) (by decide) (by decide) (by rw [ou]; omega) (by rw [ov]; omega) (fun u h1 l => ?_))
  obtain ⟨c, o⟩ := o.al l (by decide) rfl (by decide)
  clear l ou ov
  have ou := o.2.2.2.2.2.2.2.1
  have ov := o.2.2.2.2.2.2.2.2
  refine vc_128_314 tt _ _ _ _ (al_step (X := fun h1 => am_Ev tt 128 322 [some (.ref e)] [] h1 (am_pV Q (fun _ _ => False))) (o.kk he) (by decide) (by decide) (by rw [ou]; omega) (by rw [ov]; omega) (fun u h1 l => ?_))
  obtain ⟨c, o⟩ := o.al l (by decide) rfl (by decide)
  clear l ou ov
  have ou := o.2.2.2.2.2.2.2.1
  have ov := o.2.2.2.2.2.2.2.2
  refine vc_128_322 tt _ _ _ _ (al_step (X := fun h1 => am_Ev tt 128 330 [some (.ref e)] [] h1 (am_pV Q (fun _ _ => False))) (o.kk he) (by decide) (by decide) (by rw [ou]; omega) (by rw [ov]; omega) (fun u h1 l => ?_))
  obtain ⟨c, o⟩ := o.al l (by decide) rfl (by decide)
  clear l ou ov
  have ou := o.2.2.2.2.2.2.2.1
  have ov := o.2.2.2.2.2.2.2.2
  refine vc_128_330 tt _ _ _ _ (al_step (X := fun h1 => am_Ev tt 128 338 [some (.ref e)] [] h1 (am_pV Q (fun _ _ => False))) (o.kk he) (by decide) (by decide) (by rw [ou]; omega) (by rw [ov]; omega) (fun u h1 l => ?_))
  obtain ⟨c, o⟩ := o.al l (by decide) rfl (by decide)
  clear l ou ov
  have ou := o.2.2.2.2.2.2.2.1
  have ov := o.2.2.2.2.2.2.2.2
  refine vc_128_338 tt _ _ _ _ (al_step (X := fun h1 => am_Ev tt 128 345 [some (.ref e)] [] h1 (am_pV Q (fun _ _ => False))) (o.kk he) (by decide) (by decide) (by rw [ou]; omega) (by rw [ov]; omega) (fun u h1 l => ?_))
  obtain ⟨c, o⟩ := o.al l (by decide) rfl (by decide)
  clear l ou ov
  have ou := o.2.2.2.2.2.2.2.1
  have ov := o.2.2.2.2.2.2.2.2
  refine vc_128_345 tt _ _ _ _ (al_step (X := fun h1 => am_Ev tt 128 352 [some (.ref e)] [] h1 (am_pV Q (fun _ _ => False))) (o.kk he) (by decide) (by decide) (by rw [ou]; omega) (by rw [ov]; omega) (fun u h1 l => ?_))
  obtain ⟨c, o⟩ := o.al l (by decide) rfl (by decide)
  clear l ou ov
  have ou := o.2.2.2.2.2.2.2.1
  have ov := o.2.2.2.2.2.2.2.2
  refine vc_128_352 tt _ _ _ _ (al_step (X := fun h1 => am_Ev tt 128 360 [some (.ref e)] [] h1 (am_pV Q (fun _ _ => False))) (o.kk he) (by decide) (by decide) (by rw [ou]; omega) (by rw [ov]; omega) (fun u h1 l => ?_))
  obtain ⟨c, o⟩ := o.al l (by decide) rfl (by decide)
  clear l ou ov
  have ou := o.2.2.2.2.2.2.2.1
  have ov := o.2.2.2.2.2.2.2.2
  refine vc_128_360 tt _ _ _ _ (al_step (X := fun h1 => am_Ev tt 128 367 [some (.ref e)] [] h1 (am_pV Q (fun _ _ => False))) (o.kk he) (by decide) (by decide) (by rw [ou]; omega) (by rw [ov]; omega) (fun u h1 l => ?_))
  obtain ⟨c, o⟩ := o.al l (by decide) rfl (by decide)
  clear l ou ov
  have ou := o.2.2.2.2.2.2.2.1
  have ov := o.2.2.2.2.2.2.2.2
  refine vc_128_367 tt _ _ _ _ (al_step (X := fun h1 => am_Ev tt 128 374 [some (.ref e)] [] h1 (am_pV Q (fun _ _ => False))) (o.kk he) (by decide) (by decide) (by rw [ou]; omega) (by rw [ov]; omega) (fun u h1 l => ?_))
  obtain ⟨c, o⟩ := o.al l (by decide) rfl (by decide)
  clear l ou ov
  have ou := o.2.2.2.2.2.2.2.1
  have ov := o.2.2.2.2.2.2.2.2
  refine vc_128_374 tt _ _ _ _ (al_step (X := fun h1 => am_Ev tt 128 381 [some (.ref e)] [] h1 (am_pV Q (fun _ _ => False))) (o.kk he) (by decide) (by decide) (by rw [ou]; omega) (by rw [ov]; omega) (fun u h1 l => ?_))
  obtain ⟨c, o⟩ := o.al l (by decide) rfl (by decide)
  clear l ou ov
  have ou := o.2.2.2.2.2.2.2.1
  have ov := o.2.2.2.2.2.2.2.2
  refine vc_128_381 tt _ _ _ _ (al_step (X := fun h1 => am_Ev tt 128 388 [some (.ref e)] [] h1 (am_pV Q (fun _ _ => False))) (o.kk he) (by decide) (by decide) (by rw [ou]; omega) (by rw [ov]; omega) (fun u h1 l => ?_))
  obtain ⟨c, o⟩ := o.al l (by decide) rfl (by decide)
  clear l ou ov
  have ou := o.2.2.2.2.2.2.2.1
  have ov := o.2.2.2.2.2.2.2.2
  refine vc_128_388 tt _ _ _ _ (al_step (X := fun h1 => am_Ev tt 128 396 [some (.ref e)] [] h1 (am_pV Q (fun _ _ => False))) (o.kk he) (by decide) (by decide) (by rw [ou]; omega) (by rw [ov]; omega) (fun u h1 l => ?_))
  obtain ⟨c, o⟩ := o.al l (by decide) rfl (by decide)
  clear l ou ov
  have ou := o.2.2.2.2.2.2.2.1
  have ov := o.2.2.2.2.2.2.2.2
  refine vc_128_396 tt _ _ _ _ (al_step (X := Q) (o.kk he) (by decide) (by decide) (by rw [ou]; omega) (by rw [ov]; omega) (fun u h1 l => ?_))
  obtain ⟨c, o⟩ := o.al l (by decide) rfl (by decide)
  clear l ou ov
  exact nx _ _ o
end INM
