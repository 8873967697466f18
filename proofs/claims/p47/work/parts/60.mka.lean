set_option maxRecDepth 100000 in
theorem cs_X1_init_6_0_6 {d : Nat} {Q : Nat → Qt} {P : Kt} (hc : Cl (AM d) false false 0 (fun _ => 0) 0 6 kX1_init Q P) (I : Im) (J : Jm) (R : Rm)
    (h : (((0 : Int32) = 0 ∨ (0 : Int32) = 1) ∧ (((0 : Int32) = 0 ∨ (0 : Int32) = 1) ∧ Q 6 0 0 (uI (uI (uI I 6 0 0) 6 1 0) 6 2 0) J R))) : P 0 6 [(0, .ref 6)] [] I J R := run_at (AM_m d) hc (stops := []) (k := 16) h
set_option maxRecDepth 100000 in
theorem cs_X3_init_7_0_7 {d : Nat} {Q : Nat → Qt} {P : Kt} (hc : Cl (AM d) false false 0 (fun _ => 0) 0 8 kX3_init Q P) (I : Im) (J : Jm) (R : Rm)
    (h : (3 = Int32.ofNat 3 ∧ Q 8 0 0 (uI (zI I 8) 7 1 0) (zJ J 8) (uR (zR R 8) 7 0 8))) : P 0 7 [(0, .ref 7)] [] I J R := run_at (AM_m d) hc (stops := []) (k := 14) h
set_option maxRecDepth 100000 in
theorem cs_X0_init_9_0_9 {d : Nat} {Q : Nat → Qt} {P : Kt} (hc : Cl (AM d) false false 0 (fun _ => 0) 0 14 kX0_init Q P) (I : Im) (J : Jm) (R : Rm)
    (h : (31 = Int32.ofNat 31 ∧ (6 = Int32.ofNat 6 ∧ (6 = Int32.ofNat 6 ∧ (6 = Int32.ofNat 6 ∧ (6 = Int32.ofNat 6 ∧ Q 14 0 0 (zI (zI (zI (zI (uI (uI (uI (uI (zI I 10) 9 1 4) 9 2 1073741823) 9 3 0) 9 4 0) 11) 12) 13) 14) (zJ (zJ (zJ (zJ (zJ J 10) 11) 12) 13) 14) (uR (zR (uR (zR (uR (zR (uR (zR (uR (zR R 10) 9 0 10) 11) 9 5 11) 12) 9 6 12) 13) 9 7 13) 14) 9 8 14))))))) : P 0 9 [(0, .ref 9)] [] I J R := run_at (AM_m d) hc (stops := []) (k := 39) h
set_option maxRecDepth 100000 in
theorem cs_X0_init_15_0_15 {d : Nat} {Q : Nat → Qt} {P : Kt} (hc : Cl (AM d) false false 0 (fun _ => 0) 0 20 kX0_init Q P) (I : Im) (J : Jm) (R : Rm)
    (h : (31 = Int32.ofNat 31 ∧ (6 = Int32.ofNat 6 ∧ (6 = Int32.ofNat 6 ∧ (6 = Int32.ofNat 6 ∧ (6 = Int32.ofNat 6 ∧ Q 20 0 0 (zI (zI (zI (zI (uI (uI (uI (uI (zI I 16) 15 1 4) 15 2 1073741823) 15 3 0) 15 4 0) 17) 18) 19) 20) (zJ (zJ (zJ (zJ (zJ J 16) 17) 18) 19) 20) (uR (zR (uR (zR (uR (zR (uR (zR (uR (zR R 16) 15 0 16) 17) 15 5 17) 18) 15 6 18) 19) 15 7 19) 20) 15 8 20))))))) : P 0 15 [(0, .ref 15)] [] I J R := run_at (AM_m d) hc (stops := []) (k := 39) h
set_option maxRecDepth 100000 in
theorem cs_X2_init_21_0_21 {d : Nat} {Q : Nat → Qt} {P : Kt} (hc : Cl (AM d) false false 0 (fun _ => 0) 0 26 kX2_init Q P) (I : Im) (J : Jm) (R : Rm)
    (h : (((0 : Int32) = 0 ∨ (0 : Int32) = 1) ∧ (60 = Int32.ofNat 60 ∧ (60 = Int32.ofNat 60 ∧ (60 = Int32.ofNat 60 ∧ (60 = Int32.ofNat 60 ∧ (60 = Int32.ofNat 60 ∧ Q 26 0 0 (zI (zI (zI (zI (zI (uI (uI (uI I 21 0 0) 21 1 0) 21 2 0) 22) 23) 24) 25) 26) (zJ (zJ (zJ (zJ (zJ J 22) 23) 24) 25) 26) (uR (zR (uR (zR (uR (zR (uR (zR (uR (zR R 22) 21 3 22) 23) 21 4 23) 24) 21 5 24) 25) 21 6 25) 26) 21 7 26)))))))) : P 0 21 [(0, .ref 21)] [] I J R := run_at (AM_m d) hc (stops := []) (k := 36) h
set_option maxRecDepth 100000 in
theorem cs_X2_init_27_0_27 {d : Nat} {Q : Nat → Qt} {P : Kt} (hc : Cl (AM d) false false 0 (fun _ => 0) 0 32 kX2_init Q P) (I : Im) (J : Jm) (R : Rm)
    (h : (((0 : Int32) = 0 ∨ (0 : Int32) = 1) ∧ (60 = Int32.ofNat 60 ∧ (60 = Int32.ofNat 60 ∧ (60 = Int32.ofNat 60 ∧ (60 = Int32.ofNat 60 ∧ (60 = Int32.ofNat 60 ∧ Q 32 0 0 (zI (zI (zI (zI (zI (uI (uI (uI I 27 0 0) 27 1 0) 27 2 0) 28) 29) 30) 31) 32) (zJ (zJ (zJ (zJ (zJ J 28) 29) 30) 31) 32) (uR (zR (uR (zR (uR (zR (uR (zR (uR (zR R 28) 27 3 28) 29) 27 4 29) 30) 27 5 30) 31) 27 6 31) 32) 27 7 32)))))))) : P 0 27 [(0, .ref 27)] [] I J R := run_at (AM_m d) hc (stops := []) (k := 36) h
set_option maxRecDepth 100000 in
theorem cs_X7_init_35_0_35 {d : Nat} {Q : Nat → Qt} {P : Kt} (hc : Cl (AM d) false false 0 (fun _ => 0) 0 38 kX7_init Q P) (I : Im) (J : Jm) (R : Rm)
    (h : (5 = Int32.ofNat 5 ∧ (5 = Int32.ofNat 5 ∧ (31 = Int32.ofNat 31 ∧ Q 38 0 0 (zI (uI (uI (zI (zI (uI (uI (uI I 35 0 0) 35 1 0) 35 2 0) 36) 37) 35 5 0) 35 6 0) 38) (zJ (zJ (zJ J 36) 37) 38) (uR (zR (uR (zR (uR (zR R 36) 35 3 36) 37) 35 4 37) 38) 35 7 38))))) : P 0 35 [(0, .ref 35)] [] I J R := run_at (AM_m d) hc (stops := []) (k := 34) h
set_option maxRecDepth 100000 in
theorem cs_X8_init_39_0_39 {d : Nat} {Q : Nat → Qt} {P : Kt} (hc : Cl (AM d) false false 0 (fun _ => 0) 0 41 kX8_init Q P) (I : Im) (J : Jm) (R : Rm)
    (h : (8 = Int32.ofNat 8 ∧ (8 = Int32.ofNat 8 ∧ Q 41 0 0 (uI (zI (zI I 40) 41) 39 2 0) (zJ (zJ J 40) 41) (uR (zR (uR (zR R 40) 39 0 40) 41) 39 1 41)))) : P 0 39 [(0, .ref 39)] [] I J R := run_at (AM_m d) hc (stops := []) (k := 18) h
set_option maxRecDepth 100000 in
theorem cs_X5_init_42_0_42 {d : Nat} {Q : Nat → Qt} {P : Kt} (hc : Cl (AM d) false false 0 (fun _ => 0) 0 44 kX5_init Q P) (I : Im) (J : Jm) (R : Rm)
    (h : (31 = Int32.ofNat 31 ∧ (31 = Int32.ofNat 31 ∧ Q 44 0 0 (uI (zI (zI I 43) 44) 42 2 0) (zJ (zJ J 43) 44) (uR (zR (uR (zR R 43) 42 0 43) 44) 42 1 44)))) : P 0 42 [(0, .ref 42)] [] I J R := run_at (AM_m d) hc (stops := []) (k := 18) h
set_option maxRecDepth 100000 in
theorem cs_X9_init_45_0_45 {d : Nat} {Q : Nat → Qt} {P : Kt} (hc : Cl (AM d) false false 0 (fun _ => 0) 0 48 kX9_init Q P) (I : Im) (J : Jm) (R : Rm)
    (h : (12 = Int32.ofNat 12 ∧ (4096 = Int32.ofNat 4096 ∧ (4096 = Int32.ofNat 4096 ∧ Q 48 0 0 (zI (zI (uI (zI I 46) 45 1 0) 47) 48) (zJ (zJ (zJ J 46) 47) 48) (uR (zR (uR (zR (uR (zR R 46) 45 0 46) 47) 45 2 47) 48) 45 3 48))))) : P 0 45 [(0, .ref 45)] [] I J R := run_at (AM_m d) hc (stops := []) (k := 22) h
set_option maxRecDepth 100000 in
theorem cs_X4_init_49_0_49 {d : Nat} {Q : Nat → Qt} {P : Kt} (hc : Cl (AM d) false false 0 (fun _ => 0) 0 50 kX4_init Q P) (I : Im) (J : Jm) (R : Rm)
    (h : (((0 : Int32) = 0 ∨ (0 : Int32) = 1) ∧ (60 = Int32.ofNat 60 ∧ Q 50 0 0 (zI (uI (uI (uI (uI (uI (uI (uI (uI I 49 0 0) 49 1 0) 49 2 0) 49 3 0) 49 4 0) 49 5 0) 49 6 0) 49 7 0) 50) (zJ J 50) (uR (zR R 50) 49 8 50)))) : P 0 49 [(0, .ref 49)] [] I J R := run_at (AM_m d) hc (stops := []) (k := 35) h
set_option maxRecDepth 100000 in
theorem cs_X4_init_51_0_51 {d : Nat} {Q : Nat → Qt} {P : Kt} (hc : Cl (AM d) false false 0 (fun _ => 0) 0 52 kX4_init Q P) (I : Im) (J : Jm) (R : Rm)
    (h : (((0 : Int32) = 0 ∨ (0 : Int32) = 1) ∧ (60 = Int32.ofNat 60 ∧ Q 52 0 0 (zI (uI (uI (uI (uI (uI (uI (uI (uI I 51 0 0) 51 1 0) 51 2 0) 51 3 0) 51 4 0) 51 5 0) 51 6 0) 51 7 0) 52) (zJ J 52) (uR (zR R 52) 51 8 52)))) : P 0 51 [(0, .ref 51)] [] I J R := run_at (AM_m d) hc (stops := []) (k := 35) h
set_option maxRecDepth 100000 in
theorem cs_X10_init_53_0_53 {d : Nat} {Q : Nat → Qt} {P : Kt} (hc : Cl (AM d) false false 0 (fun _ => 0) 0 54 kX10_init Q P) (I : Im) (J : Jm) (R : Rm)
    (h : (60 = Int32.ofNat 60 ∧ Q 54 0 0 (zI (uI (uI I 53 0 0) 53 1 (-1)) 54) (zJ J 54) (uR (zR R 54) 53 2 54))) : P 0 53 [(0, .ref 53)] [] I J R := run_at (AM_m d) hc (stops := []) (k := 17) h
set_option maxRecDepth 100000 in
theorem cs_X10_init_55_0_55 {d : Nat} {Q : Nat → Qt} {P : Kt} (hc : Cl (AM d) false false 0 (fun _ => 0) 0 56 kX10_init Q P) (I : Im) (J : Jm) (R : Rm)
    (h : (60 = Int32.ofNat 60 ∧ Q 56 0 0 (zI (uI (uI I 55 0 0) 55 1 (-1)) 56) (zJ J 56) (uR (zR R 56) 55 2 56))) : P 0 55 [(0, .ref 55)] [] I J R := run_at (AM_m d) hc (stops := []) (k := 17) h
set_option maxRecDepth 100000 in
theorem cs_X10_init_57_0_57 {d : Nat} {Q : Nat → Qt} {P : Kt} (hc : Cl (AM d) false false 0 (fun _ => 0) 0 58 kX10_init Q P) (I : Im) (J : Jm) (R : Rm)
    (h : (60 = Int32.ofNat 60 ∧ Q 58 0 0 (zI (uI (uI I 57 0 0) 57 1 (-1)) 58) (zJ J 58) (uR (zR R 58) 57 2 58))) : P 0 57 [(0, .ref 57)] [] I J R := run_at (AM_m d) hc (stops := []) (k := 17) h
set_option maxRecDepth 100000 in
theorem cs_X10_init_59_0_59 {d : Nat} {Q : Nat → Qt} {P : Kt} (hc : Cl (AM d) false false 0 (fun _ => 0) 0 60 kX10_init Q P) (I : Im) (J : Jm) (R : Rm)
    (h : (60 = Int32.ofNat 60 ∧ Q 60 0 0 (zI (uI (uI I 59 0 0) 59 1 (-1)) 60) (zJ J 60) (uR (zR R 60) 59 2 60))) : P 0 59 [(0, .ref 59)] [] I J R := run_at (AM_m d) hc (stops := []) (k := 17) h
set_option maxRecDepth 100000 in
theorem cs_X0_init_61_0_61 {d : Nat} {Q : Nat → Qt} {P : Kt} (hc : Cl (AM d) false false 0 (fun _ => 0) 0 66 kX0_init Q P) (I : Im) (J : Jm) (R : Rm)
    (h : (31 = Int32.ofNat 31 ∧ (6 = Int32.ofNat 6 ∧ (6 = Int32.ofNat 6 ∧ (6 = Int32.ofNat 6 ∧ (6 = Int32.ofNat 6 ∧ Q 66 0 0 (zI (zI (zI (zI (uI (uI (uI (uI (zI I 62) 61 1 4) 61 2 1073741823) 61 3 0) 61 4 0) 63) 64) 65) 66) (zJ (zJ (zJ (zJ (zJ J 62) 63) 64) 65) 66) (uR (zR (uR (zR (uR (zR (uR (zR (uR (zR R 62) 61 0 62) 63) 61 5 63) 64) 61 6 64) 65) 61 7 65) 66) 61 8 66))))))) : P 0 61 [(0, .ref 61)] [] I J R := run_at (AM_m d) hc (stops := []) (k := 39) h
set_option maxRecDepth 100000 in
theorem cs_X2_init_67_0_67 {d : Nat} {Q : Nat → Qt} {P : Kt} (hc : Cl (AM d) false false 0 (fun _ => 0) 0 72 kX2_init Q P) (I : Im) (J : Jm) (R : Rm)
    (h : (((0 : Int32) = 0 ∨ (0 : Int32) = 1) ∧ (60 = Int32.ofNat 60 ∧ (60 = Int32.ofNat 60 ∧ (60 = Int32.ofNat 60 ∧ (60 = Int32.ofNat 60 ∧ (60 = Int32.ofNat 60 ∧ Q 72 0 0 (zI (zI (zI (zI (zI (uI (uI (uI I 67 0 0) 67 1 0) 67 2 0) 68) 69) 70) 71) 72) (zJ (zJ (zJ (zJ (zJ J 68) 69) 70) 71) 72) (uR (zR (uR (zR (uR (zR (uR (zR (uR (zR R 68) 67 3 68) 69) 67 4 69) 70) 67 5 70) 71) 67 6 71) 72) 67 7 72)))))))) : P 0 67 [(0, .ref 67)] [] I J R := run_at (AM_m d) hc (stops := []) (k := 36) h
set_option maxRecDepth 100000 in
theorem cs_X0_init_73_0_73 {d : Nat} {Q : Nat → Qt} {P : Kt} (hc : Cl (AM d) false false 0 (fun _ => 0) 0 78 kX0_init Q P) (I : Im) (J : Jm) (R : Rm)
    (h : (31 = Int32.ofNat 31 ∧ (6 = Int32.ofNat 6 ∧ (6 = Int32.ofNat 6 ∧ (6 = Int32.ofNat 6 ∧ (6 = Int32.ofNat 6 ∧ Q 78 0 0 (zI (zI (zI (zI (uI (uI (uI (uI (zI I 74) 73 1 4) 73 2 1073741823) 73 3 0) 73 4 0) 75) 76) 77) 78) (zJ (zJ (zJ (zJ (zJ J 74) 75) 76) 77) 78) (uR (zR (uR (zR (uR (zR (uR (zR (uR (zR R 74) 73 0 74) 75) 73 5 75) 76) 73 6 76) 77) 73 7 77) 78) 73 8 78))))))) : P 0 73 [(0, .ref 73)] [] I J R := run_at (AM_m d) hc (stops := []) (k := 39) h
