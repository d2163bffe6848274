theorem kt_0_2 {x : Int32} (h0 : ¬ x = (0 : Int32)) (h1 : ¬ x = (1 : Int32)) (h2 : ¬ x = (2 : Int32)) : x.toInt < 0 ∨ (2 : Int) < x.toInt := by
  have g0 : x.toInt ≠ 0 := fun h => h0 (Int32.toInt_inj.mp (h.trans (show (0 : Int) = (0 : Int32).toInt from by decide)))
  have g1 : x.toInt ≠ 1 := fun h => h1 (Int32.toInt_inj.mp (h.trans (show (1 : Int) = (1 : Int32).toInt from by decide)))
  have g2 : x.toInt ≠ 2 := fun h => h2 (Int32.toInt_inj.mp (h.trans (show (2 : Int) = (2 : Int32).toInt from by decide)))
  omega
theorem kt_0_3 {x : Int32} (h0 : ¬ x = (0 : Int32)) (h1 : ¬ x = (1 : Int32)) (h2 : ¬ x = (2 : Int32)) (h3 : ¬ x = (3 : Int32)) : x.toInt < 0 ∨ (3 : Int) < x.toInt := by
  have g0 : x.toInt ≠ 0 := fun h => h0 (Int32.toInt_inj.mp (h.trans (show (0 : Int) = (0 : Int32).toInt from by decide)))
  have g1 : x.toInt ≠ 1 := fun h => h1 (Int32.toInt_inj.mp (h.trans (show (1 : Int) = (1 : Int32).toInt from by decide)))
  have g2 : x.toInt ≠ 2 := fun h => h2 (Int32.toInt_inj.mp (h.trans (show (2 : Int) = (2 : Int32).toInt from by decide)))
  have g3 : x.toInt ≠ 3 := fun h => h3 (Int32.toInt_inj.mp (h.trans (show (3 : Int) = (3 : Int32).toInt from by decide)))
  omega
theorem kt_0_7 {x : Int32} (h0 : ¬ x = (0 : Int32)) (h1 : ¬ x = (1 : Int32)) (h2 : ¬ x = (2 : Int32)) (h3 : ¬ x = (3 : Int32)) (h4 : ¬ x = (4 : Int32)) (h5 : ¬ x = (5 : Int32)) (h6 : ¬ x = (6 : Int32)) (h7 : ¬ x = (7 : Int32)) : x.toInt < 0 ∨ (7 : Int) < x.toInt := by
  have g0 : x.toInt ≠ 0 := fun h => h0 (Int32.toInt_inj.mp (h.trans (show (0 : Int) = (0 : Int32).toInt from by decide)))
  have g1 : x.toInt ≠ 1 := fun h => h1 (Int32.toInt_inj.mp (h.trans (show (1 : Int) = (1 : Int32).toInt from by decide)))
  have g2 : x.toInt ≠ 2 := fun h => h2 (Int32.toInt_inj.mp (h.trans (show (2 : Int) = (2 : Int32).toInt from by decide)))
  have g3 : x.toInt ≠ 3 := fun h => h3 (Int32.toInt_inj.mp (h.trans (show (3 : Int) = (3 : Int32).toInt from by decide)))
  have g4 : x.toInt ≠ 4 := fun h => h4 (Int32.toInt_inj.mp (h.trans (show (4 : Int) = (4 : Int32).toInt from by decide)))
  have g5 : x.toInt ≠ 5 := fun h => h5 (Int32.toInt_inj.mp (h.trans (show (5 : Int) = (5 : Int32).toInt from by decide)))
  have g6 : x.toInt ≠ 6 := fun h => h6 (Int32.toInt_inj.mp (h.trans (show (6 : Int) = (6 : Int32).toInt from by decide)))
  have g7 : x.toInt ≠ 7 := fun h => h7 (Int32.toInt_inj.mp (h.trans (show (7 : Int) = (7 : Int32).toInt from by decide)))
  omega
theorem kt_0_11 {x : Int32} (h0 : ¬ x = (0 : Int32)) (h1 : ¬ x = (1 : Int32)) (h2 : ¬ x = (2 : Int32)) (h3 : ¬ x = (3 : Int32)) (h4 : ¬ x = (4 : Int32)) (h5 : ¬ x = (5 : Int32)) (h6 : ¬ x = (6 : Int32)) (h7 : ¬ x = (7 : Int32)) (h8 : ¬ x = (8 : Int32)) (h9 : ¬ x = (9 : Int32)) (h10 : ¬ x = (10 : Int32)) (h11 : ¬ x = (11 : Int32)) : x.toInt < 0 ∨ (11 : Int) < x.toInt := by
  have g0 : x.toInt ≠ 0 := fun h => h0 (Int32.toInt_inj.mp (h.trans (show (0 : Int) = (0 : Int32).toInt from by decide)))
  have g1 : x.toInt ≠ 1 := fun h => h1 (Int32.toInt_inj.mp (h.trans (show (1 : Int) = (1 : Int32).toInt from by decide)))
  have g2 : x.toInt ≠ 2 := fun h => h2 (Int32.toInt_inj.mp (h.trans (show (2 : Int) = (2 : Int32).toInt from by decide)))
  have g3 : x.toInt ≠ 3 := fun h => h3 (Int32.toInt_inj.mp (h.trans (show (3 : Int) = (3 : Int32).toInt from by decide)))
  have g4 : x.toInt ≠ 4 := fun h => h4 (Int32.toInt_inj.mp (h.trans (show (4 : Int) = (4 : Int32).toInt from by decide)))
  have g5 : x.toInt ≠ 5 := fun h => h5 (Int32.toInt_inj.mp (h.trans (show (5 : Int) = (5 : Int32).toInt from by decide)))
  have g6 : x.toInt ≠ 6 := fun h => h6 (Int32.toInt_inj.mp (h.trans (show (6 : Int) = (6 : Int32).toInt from by decide)))
  have g7 : x.toInt ≠ 7 := fun h => h7 (Int32.toInt_inj.mp (h.trans (show (7 : Int) = (7 : Int32).toInt from by decide)))
  have g8 : x.toInt ≠ 8 := fun h => h8 (Int32.toInt_inj.mp (h.trans (show (8 : Int) = (8 : Int32).toInt from by decide)))
  have g9 : x.toInt ≠ 9 := fun h => h9 (Int32.toInt_inj.mp (h.trans (show (9 : Int) = (9 : Int32).toInt from by decide)))
  have g10 : x.toInt ≠ 10 := fun h => h10 (Int32.toInt_inj.mp (h.trans (show (10 : Int) = (10 : Int32).toInt from by decide)))
  have g11 : x.toInt ≠ 11 := fun h => h11 (Int32.toInt_inj.mp (h.trans (show (11 : Int) = (11 : Int32).toInt from by decide)))
  omega
theorem kt_0_16 {x : Int32} (h0 : ¬ x = (0 : Int32)) (h1 : ¬ x = (1 : Int32)) (h2 : ¬ x = (2 : Int32)) (h3 : ¬ x = (3 : Int32)) (h4 : ¬ x = (4 : Int32)) (h5 : ¬ x = (5 : Int32)) (h6 : ¬ x = (6 : Int32)) (h7 : ¬ x = (7 : Int32)) (h8 : ¬ x = (8 : Int32)) (h9 : ¬ x = (9 : Int32)) (h10 : ¬ x = (10 : Int32)) (h11 : ¬ x = (11 : Int32)) (h12 : ¬ x = (12 : Int32)) (h13 : ¬ x = (13 : Int32)) (h14 : ¬ x = (14 : Int32)) (h15 : ¬ x = (15 : Int32)) (h16 : ¬ x = (16 : Int32)) : x.toInt < 0 ∨ (16 : Int) < x.toInt := by
  have g0 : x.toInt ≠ 0 := fun h => h0 (Int32.toInt_inj.mp (h.trans (show (0 : Int) = (0 : Int32).toInt from by decide)))
  have g1 : x.toInt ≠ 1 := fun h => h1 (Int32.toInt_inj.mp (h.trans (show (1 : Int) = (1 : Int32).toInt from by decide)))
  have g2 : x.toInt ≠ 2 := fun h => h2 (Int32.toInt_inj.mp (h.trans (show (2 : Int) = (2 : Int32).toInt from by decide)))
  have g3 : x.toInt ≠ 3 := fun h => h3 (Int32.toInt_inj.mp (h.trans (show (3 : Int) = (3 : Int32).toInt from by decide)))
  have g4 : x.toInt ≠ 4 := fun h => h4 (Int32.toInt_inj.mp (h.trans (show (4 : Int) = (4 : Int32).toInt from by decide)))
  have g5 : x.toInt ≠ 5 := fun h => h5 (Int32.toInt_inj.mp (h.trans (show (5 : Int) = (5 : Int32).toInt from by decide)))
  have g6 : x.toInt ≠ 6 := fun h => h6 (Int32.toInt_inj.mp (h.trans (show (6 : Int) = (6 : Int32).toInt from by decide)))
  have g7 : x.toInt ≠ 7 := fun h => h7 (Int32.toInt_inj.mp (h.trans (show (7 : Int) = (7 : Int32).toInt from by decide)))
  have g8 : x.toInt ≠ 8 := fun h => h8 (Int32.toInt_inj.mp (h.trans (show (8 : Int) = (8 : Int32).toInt from by decide)))
  have g9 : x.toInt ≠ 9 := fun h => h9 (Int32.toInt_inj.mp (h.trans (show (9 : Int) = (9 : Int32).toInt from by decide)))
  have g10 : x.toInt ≠ 10 := fun h => h10 (Int32.toInt_inj.mp (h.trans (show (10 : Int) = (10 : Int32).toInt from by decide)))
  have g11 : x.toInt ≠ 11 := fun h => h11 (Int32.toInt_inj.mp (h.trans (show (11 : Int) = (11 : Int32).toInt from by decide)))
  have g12 : x.toInt ≠ 12 := fun h => h12 (Int32.toInt_inj.mp (h.trans (show (12 : Int) = (12 : Int32).toInt from by decide)))
  have g13 : x.toInt ≠ 13 := fun h => h13 (Int32.toInt_inj.mp (h.trans (show (13 : Int) = (13 : Int32).toInt from by decide)))
  have g14 : x.toInt ≠ 14 := fun h => h14 (Int32.toInt_inj.mp (h.trans (show (14 : Int) = (14 : Int32).toInt from by decide)))
  have g15 : x.toInt ≠ 15 := fun h => h15 (Int32.toInt_inj.mp (h.trans (show (15 : Int) = (15 : Int32).toInt from by decide)))
  have g16 : x.toInt ≠ 16 := fun h => h16 (Int32.toInt_inj.mp (h.trans (show (16 : Int) = (16 : Int32).toInt from by decide)))
  omega
theorem kt_1_9 {x : Int32} (h0 : ¬ x = (1 : Int32)) (h1 : ¬ x = (2 : Int32)) (h2 : ¬ x = (3 : Int32)) (h3 : ¬ x = (4 : Int32)) (h4 : ¬ x = (5 : Int32)) (h5 : ¬ x = (6 : Int32)) (h6 : ¬ x = (7 : Int32)) (h7 : ¬ x = (8 : Int32)) (h8 : ¬ x = (9 : Int32)) : x.toInt < 1 ∨ (9 : Int) < x.toInt := by
  have g0 : x.toInt ≠ 1 := fun h => h0 (Int32.toInt_inj.mp (h.trans (show (1 : Int) = (1 : Int32).toInt from by decide)))
  have g1 : x.toInt ≠ 2 := fun h => h1 (Int32.toInt_inj.mp (h.trans (show (2 : Int) = (2 : Int32).toInt from by decide)))
  have g2 : x.toInt ≠ 3 := fun h => h2 (Int32.toInt_inj.mp (h.trans (show (3 : Int) = (3 : Int32).toInt from by decide)))
  have g3 : x.toInt ≠ 4 := fun h => h3 (Int32.toInt_inj.mp (h.trans (show (4 : Int) = (4 : Int32).toInt from by decide)))
  have g4 : x.toInt ≠ 5 := fun h => h4 (Int32.toInt_inj.mp (h.trans (show (5 : Int) = (5 : Int32).toInt from by decide)))
  have g5 : x.toInt ≠ 6 := fun h => h5 (Int32.toInt_inj.mp (h.trans (show (6 : Int) = (6 : Int32).toInt from by decide)))
  have g6 : x.toInt ≠ 7 := fun h => h6 (Int32.toInt_inj.mp (h.trans (show (7 : Int) = (7 : Int32).toInt from by decide)))
  have g7 : x.toInt ≠ 8 := fun h => h7 (Int32.toInt_inj.mp (h.trans (show (8 : Int) = (8 : Int32).toInt from by decide)))
  have g8 : x.toInt ≠ 9 := fun h => h8 (Int32.toInt_inj.mp (h.trans (show (9 : Int) = (9 : Int32).toInt from by decide)))
  omega
theorem kt_9_11 {x : Int32} (h0 : ¬ x = (9 : Int32)) (h1 : ¬ x = (10 : Int32)) (h2 : ¬ x = (11 : Int32)) : x.toInt < 9 ∨ (11 : Int) < x.toInt := by
  have g0 : x.toInt ≠ 9 := fun h => h0 (Int32.toInt_inj.mp (h.trans (show (9 : Int) = (9 : Int32).toInt from by decide)))
  have g1 : x.toInt ≠ 10 := fun h => h1 (Int32.toInt_inj.mp (h.trans (show (10 : Int) = (10 : Int32).toInt from by decide)))
  have g2 : x.toInt ≠ 11 := fun h => h2 (Int32.toInt_inj.mp (h.trans (show (11 : Int) = (11 : Int32).toInt from by decide)))
  omega
