noncomputable section
theorem b_X3_init_0 {d : Nat} {h : PM} {a0 : Nat} : Ev d mX3_init (0, [some (vR (some (14, 0, a0)))], [], h) (.inl none, m_si (m_sr (m_new (m_sr (m_new (m_sr (m_new (m_sr (m_new (m_si (m_sr (m_new (m_sr (m_new (m_si (m_sr (m_new (m_si (m_si (m_sr (m_new (m_si (m_si h a0 0 0) a0 1 0) 0 7 7) a0 2 (some (0, 7, (m_sz (m_si (m_si h a0 0 0) a0 1 0))))) a0 3 0) a0 4 0) 0 15 15) a0 5 (some (0, 15, (m_sz (m_si (m_si (m_sr (m_new (m_si (m_si h a0 0 0) a0 1 0) 0 7 7) a0 2 (some (0, 7, (m_sz (m_si (m_si h a0 0 0) a0 1 0))))) a0 3 0) a0 4 0))))) a0 6 0) 0 15 15) a0 7 (some (0, 15, (m_sz (m_si (m_sr (m_new (m_si (m_si (m_sr (m_new (m_si (m_si h a0 0 0) a0 1 0) 0 7 7) a0 2 (some (0, 7, (m_sz (m_si (m_si h a0 0 0) a0 1 0))))) a0 3 0) a0 4 0) 0 15 15) a0 5 (some (0, 15, (m_sz (m_si (m_si (m_sr (m_new (m_si (m_si h a0 0 0) a0 1 0) 0 7 7) a0 2 (some (0, 7, (m_sz (m_si (m_si h a0 0 0) a0 1 0))))) a0 3 0) a0 4 0))))) a0 6 0))))) 0 4 4) a0 8 (some (0, 4, (m_sz (m_sr (m_new (m_si (m_sr (m_new (m_si (m_si (m_sr (m_new (m_si (m_si h a0 0 0) a0 1 0) 0 7 7) a0 2 (some (0, 7, (m_sz (m_si (m_si h a0 0 0) a0 1 0))))) a0 3 0) a0 4 0) 0 15 15) a0 5 (some (0, 15, (m_sz (m_si (m_si (m_sr (m_new (m_si (m_si h a0 0 0) a0 1 0) 0 7 7) a0 2 (some (0, 7, (m_sz (m_si (m_si h a0 0 0) a0 1 0))))) a0 3 0) a0 4 0))))) a0 6 0) 0 15 15) a0 7 (some (0, 15, (m_sz (m_si (m_sr (m_new (m_si (m_si (m_sr (m_new (m_si (m_si h a0 0 0) a0 1 0) 0 7 7) a0 2 (some (0, 7, (m_sz (m_si (m_si h a0 0 0) a0 1 0))))) a0 3 0) a0 4 0) 0 15 15) a0 5 (some (0, 15, (m_sz (m_si (m_si (m_sr (m_new (m_si (m_si h a0 0 0) a0 1 0) 0 7 7) a0 2 (some (0, 7, (m_sz (m_si (m_si h a0 0 0) a0 1 0))))) a0 3 0) a0 4 0))))) a0 6 0))))))))) a0 9 0) 1 91 91) a0 10 (some (1, 91, (m_sz (m_si (m_sr (m_new (m_sr (m_new (m_si (m_sr (m_new (m_si (m_si (m_sr (m_new (m_si (m_si h a0 0 0) a0 1 0) 0 7 7) a0 2 (some (0, 7, (m_sz (m_si (m_si h a0 0 0) a0 1 0))))) a0 3 0) a0 4 0) 0 15 15) a0 5 (some (0, 15, (m_sz (m_si (m_si (m_sr (m_new (m_si (m_si h a0 0 0) a0 1 0) 0 7 7) a0 2 (some (0, 7, (m_sz (m_si (m_si h a0 0 0) a0 1 0))))) a0 3 0) a0 4 0))))) a0 6 0) 0 15 15) a0 7 (some (0, 15, (m_sz (m_si (m_sr (m_new (m_si (m_si (m_sr (m_new (m_si (m_si h a0 0 0) a0 1 0) 0 7 7) a0 2 (some (0, 7, (m_sz (m_si (m_si h a0 0 0) a0 1 0))))) a0 3 0) a0 4 0) 0 15 15) a0 5 (some (0, 15, (m_sz (m_si (m_si (m_sr (m_new (m_si (m_si h a0 0 0) a0 1 0) 0 7 7) a0 2 (some (0, 7, (m_sz (m_si (m_si h a0 0 0) a0 1 0))))) a0 3 0) a0 4 0))))) a0 6 0))))) 0 4 4) a0 8 (some (0, 4, (m_sz (m_sr (m_new (m_si (m_sr (m_new (m_si (m_si (m_sr (m_new (m_si (m_si h a0 0 0) a0 1 0) 0 7 7) a0 2 (some (0, 7, (m_sz (m_si (m_si h a0 0 0) a0 1 0))))) a0 3 0) a0 4 0) 0 15 15) a0 5 (some (0, 15, (m_sz (m_si (m_si (m_sr (m_new (m_si (m_si h a0 0 0) a0 1 0) 0 7 7) a0 2 (some (0, 7, (m_sz (m_si (m_si h a0 0 0) a0 1 0))))) a0 3 0) a0 4 0))))) a0 6 0) 0 15 15) a0 7 (some (0, 15, (m_sz (m_si (m_sr (m_new (m_si (m_si (m_sr (m_new (m_si (m_si h a0 0 0) a0 1 0) 0 7 7) a0 2 (some (0, 7, (m_sz (m_si (m_si h a0 0 0) a0 1 0))))) a0 3 0) a0 4 0) 0 15 15) a0 5 (some (0, 15, (m_sz (m_si (m_si (m_sr (m_new (m_si (m_si h a0 0 0) a0 1 0) 0 7 7) a0 2 (some (0, 7, (m_sz (m_si (m_si h a0 0 0) a0 1 0))))) a0 3 0) a0 4 0))))) a0 6 0))))))))) a0 9 0))))) 0 3 3) a0 11 (some (0, 3, (m_sz (m_sr (m_new (m_si (m_sr (m_new (m_sr (m_new (m_si (m_sr (m_new (m_si (m_si (m_sr (m_new (m_si (m_si h a0 0 0) a0 1 0) 0 7 7) a0 2 (some (0, 7, (m_sz (m_si (m_si h a0 0 0) a0 1 0))))) a0 3 0) a0 4 0) 0 15 15) a0 5 (some (0, 15, (m_sz (m_si (m_si (m_sr (m_new (m_si (m_si h a0 0 0) a0 1 0) 0 7 7) a0 2 (some (0, 7, (m_sz (m_si (m_si h a0 0 0) a0 1 0))))) a0 3 0) a0 4 0))))) a0 6 0) 0 15 15) a0 7 (some (0, 15, (m_sz (m_si (m_sr (m_new (m_si (m_si (m_sr (m_new (m_si (m_si h a0 0 0) a0 1 0) 0 7 7) a0 2 (some (0, 7, (m_sz (m_si (m_si h a0 0 0) a0 1 0))))) a0 3 0) a0 4 0) 0 15 15) a0 5 (some (0, 15, (m_sz (m_si (m_si (m_sr (m_new (m_si (m_si h a0 0 0) a0 1 0) 0 7 7) a0 2 (some (0, 7, (m_sz (m_si (m_si h a0 0 0) a0 1 0))))) a0 3 0) a0 4 0))))) a0 6 0))))) 0 4 4) a0 8 (some (0, 4, (m_sz (m_sr (m_new (m_si (m_sr (m_new (m_si (m_si (m_sr (m_new (m_si (m_si h a0 0 0) a0 1 0) 0 7 7) a0 2 (some (0, 7, (m_sz (m_si (m_si h a0 0 0) a0 1 0))))) a0 3 0) a0 4 0) 0 15 15) a0 5 (some (0, 15, (m_sz (m_si (m_si (m_sr (m_new (m_si (m_si h a0 0 0) a0 1 0) 0 7 7) a0 2 (some (0, 7, (m_sz (m_si (m_si h a0 0 0) a0 1 0))))) a0 3 0) a0 4 0))))) a0 6 0) 0 15 15) a0 7 (some (0, 15, (m_sz (m_si (m_sr (m_new (m_si (m_si (m_sr (m_new (m_si (m_si h a0 0 0) a0 1 0) 0 7 7) a0 2 (some (0, 7, (m_sz (m_si (m_si h a0 0 0) a0 1 0))))) a0 3 0) a0 4 0) 0 15 15) a0 5 (some (0, 15, (m_sz (m_si (m_si (m_sr (m_new (m_si (m_si h a0 0 0) a0 1 0) 0 7 7) a0 2 (some (0, 7, (m_sz (m_si (m_si h a0 0 0) a0 1 0))))) a0 3 0) a0 4 0))))) a0 6 0))))))))) a0 9 0) 1 91 91) a0 10 (some (1, 91, (m_sz (m_si (m_sr (m_new (m_sr (m_new (m_si (m_sr (m_new (m_si (m_si (m_sr (m_new (m_si (m_si h a0 0 0) a0 1 0) 0 7 7) a0 2 (some (0, 7, (m_sz (m_si (m_si h a0 0 0) a0 1 0))))) a0 3 0) a0 4 0) 0 15 15) a0 5 (some (0, 15, (m_sz (m_si (m_si (m_sr (m_new (m_si (m_si h a0 0 0) a0 1 0) 0 7 7) a0 2 (some (0, 7, (m_sz (m_si (m_si h a0 0 0) a0 1 0))))) a0 3 0) a0 4 0))))) a0 6 0) 0 15 15) a0 7 (some (0, 15, (m_sz (m_si (m_sr (m_new (m_si (m_si (m_sr (m_new (m_si (m_si h a0 0 0) a0 1 0) 0 7 7) a0 2 (some (0, 7, (m_sz (m_si (m_si h a0 0 0) a0 1 0))))) a0 3 0) a0 4 0) 0 15 15) a0 5 (some (0, 15, (m_sz (m_si (m_si (m_sr (m_new (m_si (m_si h a0 0 0) a0 1 0) 0 7 7) a0 2 (some (0, 7, (m_sz (m_si (m_si h a0 0 0) a0 1 0))))) a0 3 0) a0 4 0))))) a0 6 0))))) 0 4 4) a0 8 (some (0, 4, (m_sz (m_sr (m_new (m_si (m_sr (m_new (m_si (m_si (m_sr (m_new (m_si (m_si h a0 0 0) a0 1 0) 0 7 7) a0 2 (some (0, 7, (m_sz (m_si (m_si h a0 0 0) a0 1 0))))) a0 3 0) a0 4 0) 0 15 15) a0 5 (some (0, 15, (m_sz (m_si (m_si (m_sr (m_new (m_si (m_si h a0 0 0) a0 1 0) 0 7 7) a0 2 (some (0, 7, (m_sz (m_si (m_si h a0 0 0) a0 1 0))))) a0 3 0) a0 4 0))))) a0 6 0) 0 15 15) a0 7 (some (0, 15, (m_sz (m_si (m_sr (m_new (m_si (m_si (m_sr (m_new (m_si (m_si h a0 0 0) a0 1 0) 0 7 7) a0 2 (some (0, 7, (m_sz (m_si (m_si h a0 0 0) a0 1 0))))) a0 3 0) a0 4 0) 0 15 15) a0 5 (some (0, 15, (m_sz (m_si (m_si (m_sr (m_new (m_si (m_si h a0 0 0) a0 1 0) 0 7 7) a0 2 (some (0, 7, (m_sz (m_si (m_si h a0 0 0) a0 1 0))))) a0 3 0) a0 4 0))))) a0 6 0))))))))) a0 9 0))))))))) 0 3 3) a0 12 (some (0, 3, (m_sz (m_sr (m_new (m_sr (m_new (m_si (m_sr (m_new (m_sr (m_new (m_si (m_sr (m_new (m_si (m_si (m_sr (m_new (m_si (m_si h a0 0 0) a0 1 0) 0 7 7) a0 2 (some (0, 7, (m_sz (m_si (m_si h a0 0 0) a0 1 0))))) a0 3 0) a0 4 0) 0 15 15) a0 5 (some (0, 15, (m_sz (m_si (m_si (m_sr (m_new (m_si (m_si h a0 0 0) a0 1 0) 0 7 7) a0 2 (some (0, 7, (m_sz (m_si (m_si h a0 0 0) a0 1 0))))) a0 3 0) a0 4 0))))) a0 6 0) 0 15 15) a0 7 (some (0, 15, (m_sz (m_si (m_sr (m_new (m_si (m_si (m_sr (m_new (m_si (m_si h a0 0 0) a0 1 0) 0 7 7) a0 2 (some (0, 7, (m_sz (m_si (m_si h a0 0 0) a0 1 0))))) a0 3 0) a0 4 0) 0 15 15) a0 5 (some (0, 15, (m_sz (m_si (m_si (m_sr (m_new (m_si (m_si h a0 0 0) a0 1 0) 0 7 7) a0 2 (some (0, 7, (m_sz (m_si (m_si h a0 0 0) a0 1 0))))) a0 3 0) a0 4 0))))) a0 6 0))))) 0 4 4) a0 8 (some (0, 4, (m_sz (m_sr (m_new (m_si (m_sr (m_new (m_si (m_si (m_sr (m_new (m_si (m_si h a0 0 0) a0 1 0) 0 7 7) a0 2 (some (0, 7, (m_sz (m_si (m_si h a0 0 0) a0 1 0))))) a0 3 0) a0 4 0) 0 15 15) a0 5 (some (0, 15, (m_sz (m_si (m_si (m_sr (m_new (m_si (m_si h a0 0 0) a0 1 0) 0 7 7) a0 2 (some (0, 7, (m_sz (m_si (m_si h a0 0 0) a0 1 0))))) a0 3 0) a0 4 0))))) a0 6 0) 0 15 15) a0 7 (some (0, 15, (m_sz (m_si (m_sr (m_new (m_si (m_si (m_sr (m_new (m_si (m_si h a0 0 0) a0 1 0) 0 7 7) a0 2 (some (0, 7, (m_sz (m_si (m_si h a0 0 0) a0 1 0))))) a0 3 0) a0 4 0) 0 15 15) a0 5 (some (0, 15, (m_sz (m_si (m_si (m_sr (m_new (m_si (m_si h a0 0 0) a0 1 0) 0 7 7) a0 2 (some (0, 7, (m_sz (m_si (m_si h a0 0 0) a0 1 0))))) a0 3 0) a0 4 0))))) a0 6 0))))))))) a0 9 0) 1 91 91) a0 10 (some (1, 91, (m_sz (m_si (m_sr (m_new (m_sr (m_new (m_si (m_sr (m_new (m_si (m_si (m_sr (m_new (m_si (m_si h a0 0 0) a0 1 0) 0 7 7) a0 2 (some (0, 7, (m_sz (m_si (m_si h a0 0 0) a0 1 0))))) a0 3 0) a0 4 0) 0 15 15) a0 5 (some (0, 15, (m_sz (m_si (m_si (m_sr (m_new (m_si (m_si h a0 0 0) a0 1 0) 0 7 7) a0 2 (some (0, 7, (m_sz (m_si (m_si h a0 0 0) a0 1 0))))) a0 3 0) a0 4 0))))) a0 6 0) 0 15 15) a0 7 (some (0, 15, (m_sz (m_si (m_sr (m_new (m_si (m_si (m_sr (m_new (m_si (m_si h a0 0 0) a0 1 0) 0 7 7) a0 2 (some (0, 7, (m_sz (m_si (m_si h a0 0 0) a0 1 0))))) a0 3 0) a0 4 0) 0 15 15) a0 5 (some (0, 15, (m_sz (m_si (m_si (m_sr (m_new (m_si (m_si h a0 0 0) a0 1 0) 0 7 7) a0 2 (some (0, 7, (m_sz (m_si (m_si h a0 0 0) a0 1 0))))) a0 3 0) a0 4 0))))) a0 6 0))))) 0 4 4) a0 8 (some (0, 4, (m_sz (m_sr (m_new (m_si (m_sr (m_new (m_si (m_si (m_sr (m_new (m_si (m_si h a0 0 0) a0 1 0) 0 7 7) a0 2 (some (0, 7, (m_sz (m_si (m_si h a0 0 0) a0 1 0))))) a0 3 0) a0 4 0) 0 15 15) a0 5 (some (0, 15, (m_sz (m_si (m_si (m_sr (m_new (m_si (m_si h a0 0 0) a0 1 0) 0 7 7) a0 2 (some (0, 7, (m_sz (m_si (m_si h a0 0 0) a0 1 0))))) a0 3 0) a0 4 0))))) a0 6 0) 0 15 15) a0 7 (some (0, 15, (m_sz (m_si (m_sr (m_new (m_si (m_si (m_sr (m_new (m_si (m_si h a0 0 0) a0 1 0) 0 7 7) a0 2 (some (0, 7, (m_sz (m_si (m_si h a0 0 0) a0 1 0))))) a0 3 0) a0 4 0) 0 15 15) a0 5 (some (0, 15, (m_sz (m_si (m_si (m_sr (m_new (m_si (m_si h a0 0 0) a0 1 0) 0 7 7) a0 2 (some (0, 7, (m_sz (m_si (m_si h a0 0 0) a0 1 0))))) a0 3 0) a0 4 0))))) a0 6 0))))))))) a0 9 0))))) 0 3 3) a0 11 (some (0, 3, (m_sz (m_sr (m_new (m_si (m_sr (m_new (m_sr (m_new (m_si (m_sr (m_new (m_si (m_si (m_sr (m_new (m_si (m_si h a0 0 0) a0 1 0) 0 7 7) a0 2 (some (0, 7, (m_sz (m_si (m_si h a0 0 0) a0 1 0))))) a0 3 0) a0 4 0) 0 15 15) a0 5 (some (0, 15, (m_sz (m_si (m_si (m_sr (m_new (m_si (m_si h a0 0 0) a0 1 0) 0 7 7) a0 2 (some (0, 7, (m_sz (m_si (m_si h a0 0 0) a0 1 0))))) a0 3 0) a0 4 0))))) a0 6 0) 0 15 15) a0 7 (some (0, 15, (m_sz (m_si (m_sr (m_new (m_si (m_si (m_sr (m_new (m_si (m_si h a0 0 0) a0 1 0) 0 7 7) a0 2 (some (0, 7, (m_sz (m_si (m_si h a0 0 0) a0 1 0))))) a0 3 0) a0 4 0) 0 15 15) a0 5 (some (0, 15, (m_sz (m_si (m_si (m_sr (m_new (m_si (m_si h a0 0 0) a0 1 0) 0 7 7) a0 2 (some (0, 7, (m_sz (m_si (m_si h a0 0 0) a0 1 0))))) a0 3 0) a0 4 0))))) a0 6 0))))) 0 4 4) a0 8 (some (0, 4, (m_sz (m_sr (m_new (m_si (m_sr (m_new (m_si (m_si (m_sr (m_new (m_si (m_si h a0 0 0) a0 1 0) 0 7 7) a0 2 (some (0, 7, (m_sz (m_si (m_si h a0 0 0) a0 1 0))))) a0 3 0) a0 4 0) 0 15 15) a0 5 (some (0, 15, (m_sz (m_si (m_si (m_sr (m_new (m_si (m_si h a0 0 0) a0 1 0) 0 7 7) a0 2 (some (0, 7, (m_sz (m_si (m_si h a0 0 0) a0 1 0))))) a0 3 0) a0 4 0))))) a0 6 0) 0 15 15) a0 7 (some (0, 15, (m_sz (m_si (m_sr (m_new (m_si (m_si (m_sr (m_new (m_si (m_si h a0 0 0) a0 1 0) 0 7 7) a0 2 (some (0, 7, (m_sz (m_si (m_si h a0 0 0) a0 1 0))))) a0 3 0) a0 4 0) 0 15 15) a0 5 (some (0, 15, (m_sz (m_si (m_si (m_sr (m_new (m_si (m_si h a0 0 0) a0 1 0) 0 7 7) a0 2 (some (0, 7, (m_sz (m_si (m_si h a0 0 0) a0 1 0))))) a0 3 0) a0 4 0))))) a0 6 0))))))))) a0 9 0) 1 91 91) a0 10 (some (1, 91, (m_sz (m_si (m_sr (m_new (m_sr (m_new (m_si (m_sr (m_new (m_si (m_si (m_sr (m_new (m_si (m_si h a0 0 0) a0 1 0) 0 7 7) a0 2 (some (0, 7, (m_sz (m_si (m_si h a0 0 0) a0 1 0))))) a0 3 0) a0 4 0) 0 15 15) a0 5 (some (0, 15, (m_sz (m_si (m_si (m_sr (m_new (m_si (m_si h a0 0 0) a0 1 0) 0 7 7) a0 2 (some (0, 7, (m_sz (m_si (m_si h a0 0 0) a0 1 0))))) a0 3 0) a0 4 0))))) a0 6 0) 0 15 15) a0 7 (some (0, 15, (m_sz (m_si (m_sr (m_new (m_si (m_si (m_sr (m_new (m_si (m_si h a0 0 0) a0 1 0) 0 7 7) a0 2 (some (0, 7, (m_sz (m_si (m_si h a0 0 0) a0 1 0))))) a0 3 0) a0 4 0) 0 15 15) a0 5 (some (0, 15, (m_sz (m_si (m_si (m_sr (m_new (m_si (m_si h a0 0 0) a0 1 0) 0 7 7) a0 2 (some (0, 7, (m_sz (m_si (m_si h a0 0 0) a0 1 0))))) a0 3 0) a0 4 0))))) a0 6 0))))) 0 4 4) a0 8 (some (0, 4, (m_sz (m_sr (m_new (m_si (m_sr (m_new (m_si (m_si (m_sr (m_new (m_si (m_si h a0 0 0) a0 1 0) 0 7 7) a0 2 (some (0, 7, (m_sz (m_si (m_si h a0 0 0) a0 1 0))))) a0 3 0) a0 4 0) 0 15 15) a0 5 (some (0, 15, (m_sz (m_si (m_si (m_sr (m_new (m_si (m_si h a0 0 0) a0 1 0) 0 7 7) a0 2 (some (0, 7, (m_sz (m_si (m_si h a0 0 0) a0 1 0))))) a0 3 0) a0 4 0))))) a0 6 0) 0 15 15) a0 7 (some (0, 15, (m_sz (m_si (m_sr (m_new (m_si (m_si (m_sr (m_new (m_si (m_si h a0 0 0) a0 1 0) 0 7 7) a0 2 (some (0, 7, (m_sz (m_si (m_si h a0 0 0) a0 1 0))))) a0 3 0) a0 4 0) 0 15 15) a0 5 (some (0, 15, (m_sz (m_si (m_si (m_sr (m_new (m_si (m_si h a0 0 0) a0 1 0) 0 7 7) a0 2 (some (0, 7, (m_sz (m_si (m_si h a0 0 0) a0 1 0))))) a0 3 0) a0 4 0))))) a0 6 0))))))))) a0 9 0))))))))))))) 0 3 3) a0 13 (some (0, 3, (m_sz (m_sr (m_new (m_sr (m_new (m_sr (m_new (m_si (m_sr (m_new (m_sr (m_new (m_si (m_sr (m_new (m_si (m_si (m_sr (m_new (m_si (m_si h a0 0 0) a0 1 0) 0 7 7) a0 2 (some (0, 7, (m_sz (m_si (m_si h a0 0 0) a0 1 0))))) a0 3 0) a0 4 0) 0 15 15) a0 5 (some (0, 15, (m_sz (m_si (m_si (m_sr (m_new (m_si (m_si h a0 0 0) a0 1 0) 0 7 7) a0 2 (some (0, 7, (m_sz (m_si (m_si h a0 0 0) a0 1 0))))) a0 3 0) a0 4 0))))) a0 6 0) 0 15 15) a0 7 (some (0, 15, (m_sz (m_si (m_sr (m_new (m_si (m_si (m_sr (m_new (m_si (m_si h a0 0 0) a0 1 0) 0 7 7) a0 2 (some (0, 7, (m_sz (m_si (m_si h a0 0 0) a0 1 0))))) a0 3 0) a0 4 0) 0 15 15) a0 5 (some (0, 15, (m_sz (m_si (m_si (m_sr (m_new (m_si (m_si h a0 0 0) a0 1 0) 0 7 7) a0 2 (some (0, 7, (m_sz (m_si (m_si h a0 0 0) a0 1 0))))) a0 3 0) a0 4 0))))) a0 6 0))))) 0 4 4) a0 8 (some (0, 4, (m_sz (m_sr (m_new (m_si (m_sr (m_new (m_si (m_si (m_sr (m_new (m_si (m_si h a0 0 0) a0 1 0) 0 7 7) a0 2 (some (0, 7, (m_sz (m_si (m_si h a0 0 0) a0 1 0))))) a0 3 0) a0 4 0) 0 15 15) a0 5 (some (0, 15, (m_sz (m_si (m_si (m_sr (m_new (m_si (m_si h a0 0 0) a0 1 0) 0 7 7) a0 2 (some (0, 7, (m_sz (m_si (m_si h a0 0 0) a0 1 0))))) a0 3 0) a0 4 0))))) a0 6 0) 0 15 15) a0 7 (some (0, 15, (m_sz (m_si (m_sr (m_new (m_si (m_si (m_sr (m_new (m_si (m_si h a0 0 0) a0 1 0) 0 7 7) a0 2 (some (0, 7, (m_sz (m_si (m_si h a0 0 0) a0 1 0))))) a0 3 0) a0 4 0) 0 15 15) a0 5 (some (0, 15, (m_sz (m_si (m_si (m_sr (m_new (m_si (m_si h a0 0 0) a0 1 0) 0 7 7) a0 2 (some (0, 7, (m_sz (m_si (m_si h a0 0 0) a0 1 0))))) a0 3 0) a0 4 0))))) a0 6 0))))))))) a0 9 0) 1 91 91) a0 10 (some (1, 91, (m_sz (m_si (m_sr (m_new (m_sr (m_new (m_si (m_sr (m_new (m_si (m_si (m_sr (m_new (m_si (m_si h a0 0 0) a0 1 0) 0 7 7) a0 2 (some (0, 7, (m_sz (m_si (m_si h a0 0 0) a0 1 0))))) a0 3 0) a0 4 0) 0 15 15) a0 5 (some (0, 15, (m_sz (m_si (m_si (m_sr (m_new (m_si (m_si h a0 0 0) a0 1 0) 0 7 7) a0 2 (some (0, 7, (m_sz (m_si (m_si h a0 0 0) a0 1 0))))) a0 3 0) a0 4 0))))) a0 6 0) 0 15 15) a0 7 (some (0, 15, (m_sz (m_si (m_sr (m_new (m_si (m_si (m_sr (m_new (m_si (m_si h a0 0 0) a0 1 0) 0 7 7) a0 2 (some (0, 7, (m_sz (m_si (m_si h a0 0 0) a0 1 0))))) a0 3 0) a0 4 0) 0 15 15) a0 5 (some (0, 15, (m_sz (m_si (m_si (m_sr (m_new (m_si (m_si h a0 0 0) a0 1 0) 0 7 7) a0 2 (some (0, 7, (m_sz (m_si (m_si h a0 0 0) a0 1 0))))) a0 3 0) a0 4 0))))) a0 6 0))))) 0 4 4) a0 8 (some (0, 4, (m_sz (m_sr (m_new (m_si (m_sr (m_new (m_si (m_si (m_sr (m_new (m_si (m_si h a0 0 0) a0 1 0) 0 7 7) a0 2 (some (0, 7, (m_sz (m_si (m_si h a0 0 0) a0 1 0))))) a0 3 0) a0 4 0) 0 15 15) a0 5 (some (0, 15, (m_sz (m_si (m_si (m_sr (m_new (m_si (m_si h a0 0 0) a0 1 0) 0 7 7) a0 2 (some (0, 7, (m_sz (m_si (m_si h a0 0 0) a0 1 0))))) a0 3 0) a0 4 0))))) a0 6 0) 0 15 15) a0 7 (some (0, 15, (m_sz (m_si (m_sr (m_new (m_si (m_si (m_sr (m_new (m_si (m_si h a0 0 0) a0 1 0) 0 7 7) a0 2 (some (0, 7, (m_sz (m_si (m_si h a0 0 0) a0 1 0))))) a0 3 0) a0 4 0) 0 15 15) a0 5 (some (0, 15, (m_sz (m_si (m_si (m_sr (m_new (m_si (m_si h a0 0 0) a0 1 0) 0 7 7) a0 2 (some (0, 7, (m_sz (m_si (m_si h a0 0 0) a0 1 0))))) a0 3 0) a0 4 0))))) a0 6 0))))))))) a0 9 0))))) 0 3 3) a0 11 (some (0, 3, (m_sz (m_sr (m_new (m_si (m_sr (m_new (m_sr (m_new (m_si (m_sr (m_new (m_si (m_si (m_sr (m_new (m_si (m_si h a0 0 0) a0 1 0) 0 7 7) a0 2 (some (0, 7, (m_sz (m_si (m_si h a0 0 0) a0 1 0))))) a0 3 0) a0 4 0) 0 15 15) a0 5 (some (0, 15, (m_sz (m_si (m_si (m_sr (m_new (m_si (m_si h a0 0 0) a0 1 0) 0 7 7) a0 2 (some (0, 7, (m_sz (m_si (m_si h a0 0 0) a0 1 0))))) a0 3 0) a0 4 0))))) a0 6 0) 0 15 15) a0 7 (some (0, 15, (m_sz (m_si (m_sr (m_new (m_si (m_si (m_sr (m_new (m_si (m_si h a0 0 0) a0 1 0) 0 7 7) a0 2 (some (0, 7, (m_sz (m_si (m_si h a0 0 0) a0 1 0))))) a0 3 0) a0 4 0) 0 15 15) a0 5 (some (0, 15, (m_sz (m_si (m_si (m_sr (m_new (m_si (m_si h a0 0 0) a0 1 0) 0 7 7) a0 2 (some (0, 7, (m_sz (m_si (m_si h a0 0 0) a0 1 0))))) a0 3 0) a0 4 0))))) a0 6 0))))) 0 4 4) a0 8 (some (0, 4, (m_sz (m_sr (m_new (m_si (m_sr (m_new (m_si (m_si (m_sr (m_new (m_si (m_si h a0 0 0) a0 1 0) 0 7 7) a0 2 (some (0, 7, (m_sz (m_si (m_si h a0 0 0) a0 1 0))))) a0 3 0) a0 4 0) 0 15 15) a0 5 (some (0, 15, (m_sz (m_si (m_si (m_sr (m_new (m_si (m_si h a0 0 0) a0 1 0) 0 7 7) a0 2 (some (0, 7, (m_sz (m_si (m_si h a0 0 0) a0 1 0))))) a0 3 0) a0 4 0))))) a0 6 0) 0 15 15) a0 7 (some (0, 15, (m_sz (m_si (m_sr (m_new (m_si (m_si (m_sr (m_new (m_si (m_si h a0 0 0) a0 1 0) 0 7 7) a0 2 (some (0, 7, (m_sz (m_si (m_si h a0 0 0) a0 1 0))))) a0 3 0) a0 4 0) 0 15 15) a0 5 (some (0, 15, (m_sz (m_si (m_si (m_sr (m_new (m_si (m_si h a0 0 0) a0 1 0) 0 7 7) a0 2 (some (0, 7, (m_sz (m_si (m_si h a0 0 0) a0 1 0))))) a0 3 0) a0 4 0))))) a0 6 0))))))))) a0 9 0) 1 91 91) a0 10 (some (1, 91, (m_sz (m_si (m_sr (m_new (m_sr (m_new (m_si (m_sr (m_new (m_si (m_si (m_sr (m_new (m_si (m_si h a0 0 0) a0 1 0) 0 7 7) a0 2 (some (0, 7, (m_sz (m_si (m_si h a0 0 0) a0 1 0))))) a0 3 0) a0 4 0) 0 15 15) a0 5 (some (0, 15, (m_sz (m_si (m_si (m_sr (m_new (m_si (m_si h a0 0 0) a0 1 0) 0 7 7) a0 2 (some (0, 7, (m_sz (m_si (m_si h a0 0 0) a0 1 0))))) a0 3 0) a0 4 0))))) a0 6 0) 0 15 15) a0 7 (some (0, 15, (m_sz (m_si (m_sr (m_new (m_si (m_si (m_sr (m_new (m_si (m_si h a0 0 0) a0 1 0) 0 7 7) a0 2 (some (0, 7, (m_sz (m_si (m_si h a0 0 0) a0 1 0))))) a0 3 0) a0 4 0) 0 15 15) a0 5 (some (0, 15, (m_sz (m_si (m_si (m_sr (m_new (m_si (m_si h a0 0 0) a0 1 0) 0 7 7) a0 2 (some (0, 7, (m_sz (m_si (m_si h a0 0 0) a0 1 0))))) a0 3 0) a0 4 0))))) a0 6 0))))) 0 4 4) a0 8 (some (0, 4, (m_sz (m_sr (m_new (m_si (m_sr (m_new (m_si (m_si (m_sr (m_new (m_si (m_si h a0 0 0) a0 1 0) 0 7 7) a0 2 (some (0, 7, (m_sz (m_si (m_si h a0 0 0) a0 1 0))))) a0 3 0) a0 4 0) 0 15 15) a0 5 (some (0, 15, (m_sz (m_si (m_si (m_sr (m_new (m_si (m_si h a0 0 0) a0 1 0) 0 7 7) a0 2 (some (0, 7, (m_sz (m_si (m_si h a0 0 0) a0 1 0))))) a0 3 0) a0 4 0))))) a0 6 0) 0 15 15) a0 7 (some (0, 15, (m_sz (m_si (m_sr (m_new (m_si (m_si (m_sr (m_new (m_si (m_si h a0 0 0) a0 1 0) 0 7 7) a0 2 (some (0, 7, (m_sz (m_si (m_si h a0 0 0) a0 1 0))))) a0 3 0) a0 4 0) 0 15 15) a0 5 (some (0, 15, (m_sz (m_si (m_si (m_sr (m_new (m_si (m_si h a0 0 0) a0 1 0) 0 7 7) a0 2 (some (0, 7, (m_sz (m_si (m_si h a0 0 0) a0 1 0))))) a0 3 0) a0 4 0))))) a0 6 0))))))))) a0 9 0))))))))) 0 3 3) a0 12 (some (0, 3, (m_sz (m_sr (m_new (m_sr (m_new (m_si (m_sr (m_new (m_sr (m_new (m_si (m_sr (m_new (m_si (m_si (m_sr (m_new (m_si (m_si h a0 0 0) a0 1 0) 0 7 7) a0 2 (some (0, 7, (m_sz (m_si (m_si h a0 0 0) a0 1 0))))) a0 3 0) a0 4 0) 0 15 15) a0 5 (some (0, 15, (m_sz (m_si (m_si (m_sr (m_new (m_si (m_si h a0 0 0) a0 1 0) 0 7 7) a0 2 (some (0, 7, (m_sz (m_si (m_si h a0 0 0) a0 1 0))))) a0 3 0) a0 4 0))))) a0 6 0) 0 15 15) a0 7 (some (0, 15, (m_sz (m_si (m_sr (m_new (m_si (m_si (m_sr (m_new (m_si (m_si h a0 0 0) a0 1 0) 0 7 7) a0 2 (some (0, 7, (m_sz (m_si (m_si h a0 0 0) a0 1 0))))) a0 3 0) a0 4 0) 0 15 15) a0 5 (some (0, 15, (m_sz (m_si (m_si (m_sr (m_new (m_si (m_si h a0 0 0) a0 1 0) 0 7 7) a0 2 (some (0, 7, (m_sz (m_si (m_si h a0 0 0) a0 1 0))))) a0 3 0) a0 4 0))))) a0 6 0))))) 0 4 4) a0 8 (some (0, 4, (m_sz (m_sr (m_new (m_si (m_sr (m_new (m_si (m_si (m_sr (m_new (m_si (m_si h a0 0 0) a0 1 0) 0 7 7) a0 2 (some (0, 7, (m_sz (m_si (m_si h a0 0 0) a0 1 0))))) a0 3 0) a0 4 0) 0 15 15) a0 5 (some (0, 15, (m_sz (m_si (m_si (m_sr (m_new (m_si (m_si h a0 0 0) a0 1 0) 0 7 7) a0 2 (some (0, 7, (m_sz (m_si (m_si h a0 0 0) a0 1 0))))) a0 3 0) a0 4 0))))) a0 6 0) 0 15 15) a0 7 (some (0, 15, (m_sz (m_si (m_sr (m_new (m_si (m_si (m_sr (m_new (m_si (m_si h a0 0 0) a0 1 0) 0 7 7) a0 2 (some (0, 7, (m_sz (m_si (m_si h a0 0 0) a0 1 0))))) a0 3 0) a0 4 0) 0 15 15) a0 5 (some (0, 15, (m_sz (m_si (m_si (m_sr (m_new (m_si (m_si h a0 0 0) a0 1 0) 0 7 7) a0 2 (some (0, 7, (m_sz (m_si (m_si h a0 0 0) a0 1 0))))) a0 3 0) a0 4 0))))) a0 6 0))))))))) a0 9 0) 1 91 91) a0 10 (some (1, 91, (m_sz (m_si (m_sr (m_new (m_sr (m_new (m_si (m_sr (m_new (m_si (m_si (m_sr (m_new (m_si (m_si h a0 0 0) a0 1 0) 0 7 7) a0 2 (some (0, 7, (m_sz (m_si (m_si h a0 0 0) a0 1 0))))) a0 3 0) a0 4 0) 0 15 15) a0 5 (some (0, 15, (m_sz (m_si (m_si (m_sr (m_new (m_si (m_si h a0 0 0) a0 1 0) 0 7 7) a0 2 (some (0, 7, (m_sz (m_si (m_si h a0 0 0) a0 1 0))))) a0 3 0) a0 4 0))))) a0 6 0) 0 15 15) a0 7 (some (0, 15, (m_sz (m_si (m_sr (m_new (m_si (m_si (m_sr (m_new (m_si (m_si h a0 0 0) a0 1 0) 0 7 7) a0 2 (some (0, 7, (m_sz (m_si (m_si h a0 0 0) a0 1 0))))) a0 3 0) a0 4 0) 0 15 15) a0 5 (some (0, 15, (m_sz (m_si (m_si (m_sr (m_new (m_si (m_si h a0 0 0) a0 1 0) 0 7 7) a0 2 (some (0, 7, (m_sz (m_si (m_si h a0 0 0) a0 1 0))))) a0 3 0) a0 4 0))))) a0 6 0))))) 0 4 4) a0 8 (some (0, 4, (m_sz (m_sr (m_new (m_si (m_sr (m_new (m_si (m_si (m_sr (m_new (m_si (m_si h a0 0 0) a0 1 0) 0 7 7) a0 2 (some (0, 7, (m_sz (m_si (m_si h a0 0 0) a0 1 0))))) a0 3 0) a0 4 0) 0 15 15) a0 5 (some (0, 15, (m_sz (m_si (m_si (m_sr (m_new (m_si (m_si h a0 0 0) a0 1 0) 0 7 7) a0 2 (some (0, 7, (m_sz (m_si (m_si h a0 0 0) a0 1 0))))) a0 3 0) a0 4 0))))) a0 6 0) 0 15 15) a0 7 (some (0, 15, (m_sz (m_si (m_sr (m_new (m_si (m_si (m_sr (m_new (m_si (m_si h a0 0 0) a0 1 0) 0 7 7) a0 2 (some (0, 7, (m_sz (m_si (m_si h a0 0 0) a0 1 0))))) a0 3 0) a0 4 0) 0 15 15) a0 5 (some (0, 15, (m_sz (m_si (m_si (m_sr (m_new (m_si (m_si h a0 0 0) a0 1 0) 0 7 7) a0 2 (some (0, 7, (m_sz (m_si (m_si h a0 0 0) a0 1 0))))) a0 3 0) a0 4 0))))) a0 6 0))))))))) a0 9 0))))) 0 3 3) a0 11 (some (0, 3, (m_sz (m_sr (m_new (m_si (m_sr (m_new (m_sr (m_new (m_si (m_sr (m_new (m_si (m_si (m_sr (m_new (m_si (m_si h a0 0 0) a0 1 0) 0 7 7) a0 2 (some (0, 7, (m_sz (m_si (m_si h a0 0 0) a0 1 0))))) a0 3 0) a0 4 0) 0 15 15) a0 5 (some (0, 15, (m_sz (m_si (m_si (m_sr (m_new (m_si (m_si h a0 0 0) a0 1 0) 0 7 7) a0 2 (some (0, 7, (m_sz (m_si (m_si h a0 0 0) a0 1 0))))) a0 3 0) a0 4 0))))) a0 6 0) 0 15 15) a0 7 (some (0, 15, (m_sz (m_si (m_sr (m_new (m_si (m_si (m_sr (m_new (m_si (m_si h a0 0 0) a0 1 0) 0 7 7) a0 2 (some (0, 7, (m_sz (m_si (m_si h a0 0 0) a0 1 0))))) a0 3 0) a0 4 0) 0 15 15) a0 5 (some (0, 15, (m_sz (m_si (m_si (m_sr (m_new (m_si (m_si h a0 0 0) a0 1 0) 0 7 7) a0 2 (some (0, 7, (m_sz (m_si (m_si h a0 0 0) a0 1 0))))) a0 3 0) a0 4 0))))) a0 6 0))))) 0 4 4) a0 8 (some (0, 4, (m_sz (m_sr (m_new (m_si (m_sr (m_new (m_si (m_si (m_sr (m_new (m_si (m_si h a0 0 0) a0 1 0) 0 7 7) a0 2 (some (0, 7, (m_sz (m_si (m_si h a0 0 0) a0 1 0))))) a0 3 0) a0 4 0) 0 15 15) a0 5 (some (0, 15, (m_sz (m_si (m_si (m_sr (m_new (m_si (m_si h a0 0 0) a0 1 0) 0 7 7) a0 2 (some (0, 7, (m_sz (m_si (m_si h a0 0 0) a0 1 0))))) a0 3 0) a0 4 0))))) a0 6 0) 0 15 15) a0 7 (some (0, 15, (m_sz (m_si (m_sr (m_new (m_si (m_si (m_sr (m_new (m_si (m_si h a0 0 0) a0 1 0) 0 7 7) a0 2 (some (0, 7, (m_sz (m_si (m_si h a0 0 0) a0 1 0))))) a0 3 0) a0 4 0) 0 15 15) a0 5 (some (0, 15, (m_sz (m_si (m_si (m_sr (m_new (m_si (m_si h a0 0 0) a0 1 0) 0 7 7) a0 2 (some (0, 7, (m_sz (m_si (m_si h a0 0 0) a0 1 0))))) a0 3 0) a0 4 0))))) a0 6 0))))))))) a0 9 0) 1 91 91) a0 10 (some (1, 91, (m_sz (m_si (m_sr (m_new (m_sr (m_new (m_si (m_sr (m_new (m_si (m_si (m_sr (m_new (m_si (m_si h a0 0 0) a0 1 0) 0 7 7) a0 2 (some (0, 7, (m_sz (m_si (m_si h a0 0 0) a0 1 0))))) a0 3 0) a0 4 0) 0 15 15) a0 5 (some (0, 15, (m_sz (m_si (m_si (m_sr (m_new (m_si (m_si h a0 0 0) a0 1 0) 0 7 7) a0 2 (some (0, 7, (m_sz (m_si (m_si h a0 0 0) a0 1 0))))) a0 3 0) a0 4 0))))) a0 6 0) 0 15 15) a0 7 (some (0, 15, (m_sz (m_si (m_sr (m_new (m_si (m_si (m_sr (m_new (m_si (m_si h a0 0 0) a0 1 0) 0 7 7) a0 2 (some (0, 7, (m_sz (m_si (m_si h a0 0 0) a0 1 0))))) a0 3 0) a0 4 0) 0 15 15) a0 5 (some (0, 15, (m_sz (m_si (m_si (m_sr (m_new (m_si (m_si h a0 0 0) a0 1 0) 0 7 7) a0 2 (some (0, 7, (m_sz (m_si (m_si h a0 0 0) a0 1 0))))) a0 3 0) a0 4 0))))) a0 6 0))))) 0 4 4) a0 8 (some (0, 4, (m_sz (m_sr (m_new (m_si (m_sr (m_new (m_si (m_si (m_sr (m_new (m_si (m_si h a0 0 0) a0 1 0) 0 7 7) a0 2 (some (0, 7, (m_sz (m_si (m_si h a0 0 0) a0 1 0))))) a0 3 0) a0 4 0) 0 15 15) a0 5 (some (0, 15, (m_sz (m_si (m_si (m_sr (m_new (m_si (m_si h a0 0 0) a0 1 0) 0 7 7) a0 2 (some (0, 7, (m_sz (m_si (m_si h a0 0 0) a0 1 0))))) a0 3 0) a0 4 0))))) a0 6 0) 0 15 15) a0 7 (some (0, 15, (m_sz (m_si (m_sr (m_new (m_si (m_si (m_sr (m_new (m_si (m_si h a0 0 0) a0 1 0) 0 7 7) a0 2 (some (0, 7, (m_sz (m_si (m_si h a0 0 0) a0 1 0))))) a0 3 0) a0 4 0) 0 15 15) a0 5 (some (0, 15, (m_sz (m_si (m_si (m_sr (m_new (m_si (m_si h a0 0 0) a0 1 0) 0 7 7) a0 2 (some (0, 7, (m_sz (m_si (m_si h a0 0 0) a0 1 0))))) a0 3 0) a0 4 0))))) a0 6 0))))))))) a0 9 0))))))))))))))))) a0 14 0) :=
  s_aload_n rfl rfl rfl <|
  s_obj rfl rfl rfl <|
  s_aload_n rfl rfl rfl <|
  s_iconst rfl rfl <|
  s_putI rfl rfl rfl <|
  s_aload_n rfl rfl rfl <|
  s_iconst rfl rfl <|
  s_putI rfl rfl rfl <|
  s_aload_n rfl rfl rfl <|
  s_bipush rfl rfl <|
  s_newa (n := 7) rfl (Or.inl ⟨rfl, rfl⟩) (by decide) <|
  s_putR rfl rfl rfl <|
  s_aload_n rfl rfl rfl <|
  s_iconst rfl rfl <|
  s_putI rfl rfl rfl <|
  s_aload_n rfl rfl rfl <|
  s_iconst rfl rfl <|
  s_putI rfl rfl rfl <|
  s_aload_n rfl rfl rfl <|
  s_bipush rfl rfl <|
  s_newa (n := 15) rfl (Or.inl ⟨rfl, rfl⟩) (by decide) <|
  s_putR rfl rfl rfl <|
  s_aload_n rfl rfl rfl <|
  s_iconst rfl rfl <|
  s_putI rfl rfl rfl <|
  s_aload_n rfl rfl rfl <|
  s_bipush rfl rfl <|
  s_newa (n := 15) rfl (Or.inl ⟨rfl, rfl⟩) (by decide) <|
  s_putR rfl rfl rfl <|
  s_aload_n rfl rfl rfl <|
  s_iconst rfl rfl <|
  s_newa (n := 4) rfl (Or.inl ⟨rfl, rfl⟩) (by decide) <|
  s_putR rfl rfl rfl <|
  s_aload_n rfl rfl rfl <|
  s_iconst rfl rfl <|
  s_putZ rfl rfl rfl (Or.inl rfl) <|
  s_aload_n rfl rfl rfl <|
  s_bipush rfl rfl <|
  s_newa (n := 91) rfl (Or.inr (Or.inl ⟨rfl, rfl⟩)) (by decide) <|
  s_putR rfl rfl rfl <|
  s_aload_n rfl rfl rfl <|
  s_iconst rfl rfl <|
  s_newa (n := 3) rfl (Or.inl ⟨rfl, rfl⟩) (by decide) <|
  s_putR rfl rfl rfl <|
  s_aload_n rfl rfl rfl <|
  s_iconst rfl rfl <|
  s_newa (n := 3) rfl (Or.inl ⟨rfl, rfl⟩) (by decide) <|
  s_putR rfl rfl rfl <|
  s_aload_n rfl rfl rfl <|
  s_iconst rfl rfl <|
  s_newa (n := 3) rfl (Or.inl ⟨rfl, rfl⟩) (by decide) <|
  s_putR rfl rfl rfl <|
  s_aload_n rfl rfl rfl <|
  s_iconst rfl rfl <|
  s_putI rfl rfl rfl <|
  s_vret rfl rfl
theorem b_X3_begin_0 {d : Nat} {I : Nat → Nat → Int} {S : PS} {a0 : Nat} {x1 : Int} : Ev d mX3_begin (0, [some (vR (some (14, 0, a0))), some (vI x1)], [], (I, S)) (.inl none, ((up2 (up2 (up2 (up2 I a0 0 x1) a0 1 0) a0 6 0) a0 9 0), S)) :=
  s_aload_n rfl rfl rfl <|
  s_iload_n rfl rfl rfl <|
  s_putI rfl rfl rfl <|
  s_aload_n rfl rfl rfl <|
  s_iconst rfl rfl <|
  s_putI rfl rfl rfl <|
  s_aload_n rfl rfl rfl <|
  s_iconst rfl rfl <|
  s_putI rfl rfl rfl <|
  s_aload_n rfl rfl rfl <|
  s_iconst rfl rfl <|
  s_putZ rfl rfl rfl (Or.inl rfl) <|
  s_vret rfl rfl
theorem b_X3_addSpoke_0 {d : Nat} {r : PO × PM} {I : Nat → Nat → Int} {S : PS} {a0 : Nat} {x1 : Int} (kt : I a0 0 ≤ I a0 1 → Ev d mX3_addSpoke (20, [some (vR (some (14, 0, a0))), some (vI x1)], [], (I, S)) r) (kf : I a0 1 < I a0 0 → Ev d mX3_addSpoke (11, [some (vR (some (14, 0, a0))), some (vI x1)], [], (I, S)) r) : Ev d mX3_addSpoke (0, [some (vR (some (14, 0, a0))), some (vI x1)], [], (I, S)) r :=
  s_aload_n rfl rfl rfl <|
  s_getI rfl rfl rfl <|
  s_aload_n rfl rfl rfl <|
  s_getI rfl rfl rfl <|
  s_icmp_ge 20 rfl rfl kt kf
theorem b_X3_addSpoke_11 {d : Nat} {r : PO × PM} {I : Nat → Nat → Int} {S : PS} {a0 : Nat} {x1 : Int} (kt : I a0 1 < 7 → Ev d mX3_addSpoke (22, [some (vR (some (14, 0, a0))), some (vI x1)], [], (I, S)) r) (kf : 7 ≤ I a0 1 → Ev d mX3_addSpoke (20, [some (vR (some (14, 0, a0))), some (vI x1)], [], (I, S)) r) : Ev d mX3_addSpoke (11, [some (vR (some (14, 0, a0))), some (vI x1)], [], (I, S)) r :=
  s_aload_n rfl rfl rfl <|
  s_getI rfl rfl rfl <|
  s_bipush rfl rfl <|
  s_icmp_lt 22 rfl rfl kt kf
theorem b_X3_addSpoke_20 {d : Nat} {I : Nat → Nat → Int} {S : PS} {a0 : Nat} {x1 : Int} : Ev d mX3_addSpoke (20, [some (vR (some (14, 0, a0))), some (vI x1)], [], (I, S)) (.inl (some (vI 0)), (I, S)) :=
  s_iconst rfl rfl <|
  s_ret rfl rfl
theorem b_X3_addSpoke_22 {d : Nat} {I : Nat → Nat → Int} {S : PS} {a0 p1 q1 : Nat} {x1 : Int} (hr1 : S.1 a0 2 = some (0, q1, p1)) (hi2 : 0 ≤ I a0 1 ∧ I a0 1 < (q1 : Nat)) (ho3 : -2147483648 ≤ ((up2 I p1 ((I a0 1).toNat) x1) a0 1) + 1 ∧ ((up2 I p1 ((I a0 1).toNat) x1) a0 1) + 1 ≤ 2147483647) : Ev d mX3_addSpoke (22, [some (vR (some (14, 0, a0))), some (vI x1)], [], (I, S)) (.inl (some (vI 1)), ((up2 (up2 I p1 ((I a0 1).toNat) x1) a0 1 (((up2 I p1 ((I a0 1).toNat) x1) a0 1) + 1)), S)) :=
  s_aload_n rfl rfl rfl <|
  s_getR rfl rfl rfl hr1 <|
  s_aload_n rfl rfl rfl <|
  s_getI rfl rfl rfl <|
  s_iload_n rfl rfl rfl <|
  s_iast rfl hi2 <|
  s_aload_n rfl rfl rfl <|
  s_dup rfl rfl <|
  s_getI rfl rfl rfl <|
  s_iconst rfl rfl <|
  s_iaddp rfl ho3 <|
  s_putI rfl rfl rfl <|
  s_iconst rfl rfl <|
  s_ret rfl rfl
theorem b_X3_build_0 {d : Nat} {r : PO × PM} {I : Nat → Nat → Int} {S : PS} {a0 : Nat} {I1 : Nat → Nat → Int} {S1 : PS} {z : Int} (c : Ca d mX3_placesOfRing [vR (some (14, 0, a0))] (I, S) (.inl (some (vI z))) (I1, S1)) (k : Ev (d + 1) mX3_build (5, [some (vR (some (14, 0, a0))), none], [vI z, vR (some (14, 0, a0))], (I1, S1)) r) : Ev (d + 1) mX3_build (0, [some (vR (some (14, 0, a0))), none], [], (I, S)) r :=
  s_aload_n rfl rfl rfl <|
  s_aload_n rfl rfl rfl <|
  s_cvI rfl rfl rfl rfl rfl c k
theorem b_X3_build_5 {d : Nat} {r : PO × PM} {I : Nat → Nat → Int} {S : PS} {a0 as0 : Nat} {xs1 : Int} (kt : (up2 I as0 3 xs1) a0 3 ≤ 7 → Ev d mX3_build (19, [some (vR (some (14, 0, a0))), none], [], ((up2 I as0 3 xs1), S)) r) (kf : 7 < (up2 I as0 3 xs1) a0 3 → Ev d mX3_build (17, [some (vR (some (14, 0, a0))), none], [], ((up2 I as0 3 xs1), S)) r) : Ev d mX3_build (5, [some (vR (some (14, 0, a0))), none], [vI xs1, vR (some (14, 0, as0))], (I, S)) r :=
  s_putI rfl rfl rfl <|
  s_aload_n rfl rfl rfl <|
  s_getI rfl rfl rfl <|
  s_bipush rfl rfl <|
  s_icmp_le 19 rfl rfl kt kf
theorem b_X3_build_17 {d : Nat} {I : Nat → Nat → Int} {S : PS} {a0 : Nat} : Ev d mX3_build (17, [some (vR (some (14, 0, a0))), none], [], (I, S)) (.inl (some (vI 0)), (I, S)) :=
  s_iconst rfl rfl <|
  s_ret rfl rfl
theorem b_X3_build_19 {d : Nat} {r : PO × PM} {I : Nat → Nat → Int} {S : PS} {a0 p3 q3 : Nat} {I1 : Nat → Nat → Int} {S1 : PS} (ho1 : -2147483648 ≤ I a0 3 + 1 ∧ I a0 3 + 1 ≤ 2147483647) (ho2 : -2147483648 ≤ I a0 3 + 1 + (I a0 1) ∧ I a0 3 + 1 + (I a0 1) ≤ 2147483647) (hr3 : S.1 a0 5 = some (0, q3, p3)) (c : Ca d mJ7_fill_53178 [vR (some (0, q3, p3)), vI 0] ((up2 I a0 4 (I a0 3 + 1 + (I a0 1))), S) (.inl none) (I1, S1)) (k : Ev (d + 1) mX3_build (42, [some (vR (some (14, 0, a0))), none], [], (I1, S1)) r) : Ev (d + 1) mX3_build (19, [some (vR (some (14, 0, a0))), none], [], (I, S)) r :=
  s_aload_n rfl rfl rfl <|
  s_aload_n rfl rfl rfl <|
  s_getI rfl rfl rfl <|
  s_iconst rfl rfl <|
  s_iaddp rfl ho1 <|
  s_aload_n rfl rfl rfl <|
  s_getI rfl rfl rfl <|
  s_iaddp rfl ho2 <|
  s_putI rfl rfl rfl <|
  s_aload_n rfl rfl rfl <|
  s_getR rfl rfl rfl hr3 <|
  s_iconst rfl rfl <|
  s_csV rfl rfl rfl rfl rfl rfl c k
theorem b_X3_build_42 {d : Nat} {r : PO × PM} {I : Nat → Nat → Int} {S : PS} {a0 p1 q1 : Nat} {I1 : Nat → Nat → Int} {S1 : PS} (hr1 : S.1 a0 7 = some (0, q1, p1)) (c : Ca d mJ7_fill_53178 [vR (some (0, q1, p1)), vI 0] (I, S) (.inl none) (I1, S1)) (k : Ev (d + 1) mX3_build (50, [some (vR (some (14, 0, a0))), none], [], (I1, S1)) r) : Ev (d + 1) mX3_build (42, [some (vR (some (14, 0, a0))), none], [], (I, S)) r :=
  s_aload_n rfl rfl rfl <|
  s_getR rfl rfl rfl hr1 <|
  s_iconst rfl rfl <|
  s_csV rfl rfl rfl rfl rfl rfl c k
theorem b_X3_build_50 {d : Nat} {r : PO × PM} {I : Nat → Nat → Int} {S : PS} {a0 : Nat} (k : Ev d mX3_build (52, [some (vR (some (14, 0, a0))), some (vI 0)], [], (I, S)) r) : Ev d mX3_build (50, [some (vR (some (14, 0, a0))), none], [], (I, S)) r :=
  s_iconst rfl rfl <|
  s_istore_n [some (vR (some (14, 0, a0))), some (vI 0)] rfl rfl <|
  k
theorem b_X3_build_52 {d : Nat} {r : PO × PM} {I : Nat → Nat → Int} {S : PS} {a0 : Nat} {x1 : Int} (kt : I a0 3 ≤ x1 → Ev d mX3_build (88, [some (vR (some (14, 0, a0))), some (vI x1)], [], (I, S)) r) (kf : x1 < I a0 3 → Ev d mX3_build (60, [some (vR (some (14, 0, a0))), some (vI x1)], [], (I, S)) r) : Ev d mX3_build (52, [some (vR (some (14, 0, a0))), some (vI x1)], [], (I, S)) r :=
  s_iload_n rfl rfl rfl <|
  s_aload_n rfl rfl rfl <|
  s_getI rfl rfl rfl <|
  s_icmp_ge 88 rfl rfl kt kf
theorem b_X3_build_60 {d : Nat} {r : PO × PM} {I : Nat → Nat → Int} {S : PS} {a0 : Nat} {x1 : Int} (ho1 : -2147483648 ≤ x1 + 1 ∧ x1 + 1 ≤ 2147483647) (kt : I a0 3 ≤ x1 + 1 → Ev d mX3_build (78, [some (vR (some (14, 0, a0))), some (vI x1)], [vI x1, vR (some (14, 0, a0))], (I, S)) r) (kf : x1 + 1 < I a0 3 → Ev d mX3_build (72, [some (vR (some (14, 0, a0))), some (vI x1)], [vI x1, vR (some (14, 0, a0))], (I, S)) r) : Ev d mX3_build (60, [some (vR (some (14, 0, a0))), some (vI x1)], [], (I, S)) r :=
  s_aload_n rfl rfl rfl <|
  s_iload_n rfl rfl rfl <|
  s_iload_n rfl rfl rfl <|
  s_iconst rfl rfl <|
  s_iaddp rfl ho1 <|
  s_aload_n rfl rfl rfl <|
  s_getI rfl rfl rfl <|
  s_icmp_ge 78 rfl rfl kt kf
theorem b_X3_build_72 {d : Nat} {r : PO × PM} {I : Nat → Nat → Int} {S : PS} {a0 as0 : Nat} {x1 xs1 : Int} (ho1 : -2147483648 ≤ x1 + 1 ∧ x1 + 1 ≤ 2147483647) (k : Ev d mX3_build (79, [some (vR (some (14, 0, a0))), some (vI x1)], [vI (x1 + 1), vI xs1, vR (some (14, 0, as0))], (I, S)) r) : Ev d mX3_build (72, [some (vR (some (14, 0, a0))), some (vI x1)], [vI xs1, vR (some (14, 0, as0))], (I, S)) r :=
  s_iload_n rfl rfl rfl <|
  s_iconst rfl rfl <|
  s_iaddp rfl ho1 <|
  s_goto 79 rfl rfl k
theorem b_X3_build_78 {d : Nat} {r : PO × PM} {I : Nat → Nat → Int} {S : PS} {a0 as0 : Nat} {x1 xs1 : Int} (k : Ev d mX3_build (79, [some (vR (some (14, 0, a0))), some (vI x1)], [vI 0, vI xs1, vR (some (14, 0, as0))], (I, S)) r) : Ev d mX3_build (78, [some (vR (some (14, 0, a0))), some (vI x1)], [vI xs1, vR (some (14, 0, as0))], (I, S)) r :=
  s_iconst rfl rfl <|
  k
theorem b_X3_build_79 {d : Nat} {r : PO × PM} {I : Nat → Nat → Int} {S : PS} {a0 as0 : Nat} {x1 xs1 xs2 : Int} {I1 : Nat → Nat → Int} {S1 : PS} (c : Ca d mX3_link [vR (some (14, 0, as0)), vI xs1, vI xs2] (I, S) (.inl none) (I1, S1)) (k : Ev (d + 1) mX3_build (82, [some (vR (some (14, 0, a0))), some (vI x1)], [], (I1, S1)) r) : Ev (d + 1) mX3_build (79, [some (vR (some (14, 0, a0))), some (vI x1)], [vI xs2, vI xs1, vR (some (14, 0, as0))], (I, S)) r :=
  s_cvV rfl rfl rfl rfl rfl c k
theorem b_X3_build_82 {d : Nat} {r : PO × PM} {I : Nat → Nat → Int} {S : PS} {a0 : Nat} {x1 : Int} (ho1 : -2147483648 ≤ x1 + 1 ∧ x1 + 1 ≤ 2147483647) (k : Ev d mX3_build (52, [some (vR (some (14, 0, a0))), some (vI (x1 + 1))], [], (I, S)) r) : Ev d mX3_build (82, [some (vR (some (14, 0, a0))), some (vI x1)], [], (I, S)) r :=
  s_iincp [some (vR (some (14, 0, a0))), some (vI (x1 + 1))] rfl rfl ho1 rfl <|
  s_goto 52 rfl rfl k
theorem b_X3_build_88 {d : Nat} {r : PO × PM} {I : Nat → Nat → Int} {S : PS} {a0 : Nat} {x1 : Int} (k : Ev d mX3_build (90, [some (vR (some (14, 0, a0))), some (vI 0)], [], (I, S)) r) : Ev d mX3_build (88, [some (vR (some (14, 0, a0))), some (vI x1)], [], (I, S)) r :=
  s_iconst rfl rfl <|
  s_istore_n [some (vR (some (14, 0, a0))), some (vI 0)] rfl rfl <|
  k
theorem b_X3_build_90 {d : Nat} {r : PO × PM} {I : Nat → Nat → Int} {S : PS} {a0 : Nat} {x1 : Int} (kt : I a0 1 ≤ x1 → Ev d mX3_build (150, [some (vR (some (14, 0, a0))), some (vI x1)], [], (I, S)) r) (kf : x1 < I a0 1 → Ev d mX3_build (98, [some (vR (some (14, 0, a0))), some (vI x1)], [], (I, S)) r) : Ev d mX3_build (90, [some (vR (some (14, 0, a0))), some (vI x1)], [], (I, S)) r :=
  s_iload_n rfl rfl rfl <|
  s_aload_n rfl rfl rfl <|
  s_getI rfl rfl rfl <|
  s_icmp_ge 150 rfl rfl kt kf
theorem b_X3_build_98 {d : Nat} {r : PO × PM} {I : Nat → Nat → Int} {S : PS} {a0 : Nat} {x1 : Int} {I1 : Nat → Nat → Int} {S1 : PS} (ho1 : -2147483648 ≤ I a0 3 + 1 ∧ I a0 3 + 1 ≤ 2147483647) (ho2 : -2147483648 ≤ I a0 3 + 1 + x1 ∧ I a0 3 + 1 + x1 ≤ 2147483647) (c : Ca d mX3_link [vR (some (14, 0, a0)), vI (I a0 3), vI (I a0 3 + 1 + x1)] (I, S) (.inl none) (I1, S1)) (k : Ev (d + 1) mX3_build (114, [some (vR (some (14, 0, a0))), some (vI x1)], [], (I1, S1)) r) : Ev (d + 1) mX3_build (98, [some (vR (some (14, 0, a0))), some (vI x1)], [], (I, S)) r :=
  s_aload_n rfl rfl rfl <|
  s_aload_n rfl rfl rfl <|
  s_getI rfl rfl rfl <|
  s_aload_n rfl rfl rfl <|
  s_getI rfl rfl rfl <|
  s_iconst rfl rfl <|
  s_iaddp rfl ho1 <|
  s_iload_n rfl rfl rfl <|
  s_iaddp rfl ho2 <|
  s_cvV rfl rfl rfl rfl rfl c k
theorem b_X3_build_114 {d : Nat} {r : PO × PM} {I : Nat → Nat → Int} {S : PS} {a0 : Nat} {x1 : Int} (ho1 : -2147483648 ≤ x1 + 1 ∧ x1 + 1 ≤ 2147483647) (kt : I a0 1 ≤ x1 + 1 → Ev d mX3_build (144, [some (vR (some (14, 0, a0))), some (vI x1)], [], (I, S)) r) (kf : x1 + 1 < I a0 1 → Ev d mX3_build (124, [some (vR (some (14, 0, a0))), some (vI x1)], [], (I, S)) r) : Ev d mX3_build (114, [some (vR (some (14, 0, a0))), some (vI x1)], [], (I, S)) r :=
  s_iload_n rfl rfl rfl <|
  s_iconst rfl rfl <|
  s_iaddp rfl ho1 <|
  s_aload_n rfl rfl rfl <|
  s_getI rfl rfl rfl <|
  s_icmp_ge 144 rfl rfl kt kf
theorem b_X3_build_124 {d : Nat} {r : PO × PM} {I : Nat → Nat → Int} {S : PS} {a0 : Nat} {x1 : Int} {I1 : Nat → Nat → Int} {S1 : PS} (ho1 : -2147483648 ≤ I a0 3 + 1 ∧ I a0 3 + 1 ≤ 2147483647) (ho2 : -2147483648 ≤ I a0 3 + 1 + x1 ∧ I a0 3 + 1 + x1 ≤ 2147483647) (ho3 : -2147483648 ≤ I a0 3 + 2 ∧ I a0 3 + 2 ≤ 2147483647) (ho4 : -2147483648 ≤ I a0 3 + 2 + x1 ∧ I a0 3 + 2 + x1 ≤ 2147483647) (c : Ca d mX3_link [vR (some (14, 0, a0)), vI (I a0 3 + 1 + x1), vI (I a0 3 + 2 + x1)] (I, S) (.inl none) (I1, S1)) (k : Ev (d + 1) mX3_build (144, [some (vR (some (14, 0, a0))), some (vI x1)], [], (I1, S1)) r) : Ev (d + 1) mX3_build (124, [some (vR (some (14, 0, a0))), some (vI x1)], [], (I, S)) r :=
  s_aload_n rfl rfl rfl <|
  s_aload_n rfl rfl rfl <|
  s_getI rfl rfl rfl <|
  s_iconst rfl rfl <|
  s_iaddp rfl ho1 <|
  s_iload_n rfl rfl rfl <|
  s_iaddp rfl ho2 <|
  s_aload_n rfl rfl rfl <|
  s_getI rfl rfl rfl <|
  s_iconst rfl rfl <|
  s_iaddp rfl ho3 <|
  s_iload_n rfl rfl rfl <|
  s_iaddp rfl ho4 <|
  s_cvV rfl rfl rfl rfl rfl c k
theorem b_X3_build_144 {d : Nat} {r : PO × PM} {I : Nat → Nat → Int} {S : PS} {a0 : Nat} {x1 : Int} (ho1 : -2147483648 ≤ x1 + 1 ∧ x1 + 1 ≤ 2147483647) (k : Ev d mX3_build (90, [some (vR (some (14, 0, a0))), some (vI (x1 + 1))], [], (I, S)) r) : Ev d mX3_build (144, [some (vR (some (14, 0, a0))), some (vI x1)], [], (I, S)) r :=
  s_iincp [some (vR (some (14, 0, a0))), some (vI (x1 + 1))] rfl rfl ho1 rfl <|
  s_goto 90 rfl rfl k
theorem b_X3_build_150 {d : Nat} {r : PO × PM} {I : Nat → Nat → Int} {S : PS} {a0 : Nat} {x1 z : Int} {I1 : Nat → Nat → Int} {S1 : PS} (c : Ca d mX3_isWheel [vR (some (14, 0, a0))] (I, S) (.inl (some (vI z))) (I1, S1)) (k : Ev (d + 1) mX3_build (154, [some (vR (some (14, 0, a0))), some (vI x1)], [vI z], (I1, S1)) r) : Ev (d + 1) mX3_build (150, [some (vR (some (14, 0, a0))), some (vI x1)], [], (I, S)) r :=
  s_aload_n rfl rfl rfl <|
  s_cvI rfl rfl rfl rfl rfl c k
theorem b_X3_build_154 {d : Nat} {r : PO × PM} {I : Nat → Nat → Int} {S : PS} {a0 : Nat} {x1 xs0 : Int} (kt : xs0 = 0 → Ev d mX3_build (176, [some (vR (some (14, 0, a0))), some (vI x1)], [], (I, S)) r) (kf : xs0 ≠ 0 → Ev d mX3_build (157, [some (vR (some (14, 0, a0))), some (vI x1)], [], (I, S)) r) : Ev d mX3_build (154, [some (vR (some (14, 0, a0))), some (vI x1)], [vI xs0], (I, S)) r :=
  s_if_eq 176 rfl rfl kt kf
theorem b_X3_build_157 {d : Nat} {r : PO × PM} {I : Nat → Nat → Int} {S : PS} {a0 : Nat} {x1 : Int} {I1 : Nat → Nat → Int} {S1 : PS} (ho1 : -2147483648 ≤ I a0 3 + (I a0 1) ∧ I a0 3 + (I a0 1) ≤ 2147483647) (ho2 : -2147483648 ≤ I a0 3 + 1 ∧ I a0 3 + 1 ≤ 2147483647) (c : Ca d mX3_link [vR (some (14, 0, a0)), vI (I a0 3 + (I a0 1)), vI (I a0 3 + 1)] (I, S) (.inl none) (I1, S1)) (k : Ev (d + 1) mX3_build (176, [some (vR (some (14, 0, a0))), some (vI x1)], [], (I1, S1)) r) : Ev (d + 1) mX3_build (157, [some (vR (some (14, 0, a0))), some (vI x1)], [], (I, S)) r :=
  s_aload_n rfl rfl rfl <|
  s_aload_n rfl rfl rfl <|
  s_getI rfl rfl rfl <|
  s_aload_n rfl rfl rfl <|
  s_getI rfl rfl rfl <|
  s_iaddp rfl ho1 <|
  s_aload_n rfl rfl rfl <|
  s_getI rfl rfl rfl <|
  s_iconst rfl rfl <|
  s_iaddp rfl ho2 <|
  s_cvV rfl rfl rfl rfl rfl c k
theorem b_X3_build_176 {d : Nat} {r : PO × PM} {I : Nat → Nat → Int} {S : PS} {a0 : Nat} {x1 : Int} {I1 : Nat → Nat → Int} {S1 : PS} (c : Ca d mX3_linkBorder [vR (some (14, 0, a0))] (I, S) (.inl none) (I1, S1)) (k : Ev (d + 1) mX3_build (180, [some (vR (some (14, 0, a0))), some (vI x1)], [], (I1, S1)) r) : Ev (d + 1) mX3_build (176, [some (vR (some (14, 0, a0))), some (vI x1)], [], (I, S)) r :=
  s_aload_n rfl rfl rfl <|
  s_cvV rfl rfl rfl rfl rfl c k
theorem b_X3_build_180 {d : Nat} {I : Nat → Nat → Int} {S : PS} {a0 : Nat} {x1 : Int} : Ev d mX3_build (180, [some (vR (some (14, 0, a0))), some (vI x1)], [], (I, S)) (.inl (some (vI 1)), (I, S)) :=
  s_iconst rfl rfl <|
  s_ret rfl rfl
theorem b_X3_isWheel_0 {d : Nat} {r : PO × PM} {I : Nat → Nat → Int} {S : PS} {a0 : Nat} (kt : I a0 1 ≠ I a0 0 → Ev d mX3_isWheel (15, [some (vR (some (14, 0, a0)))], [], (I, S)) r) (kf : I a0 1 = I a0 0 → Ev d mX3_isWheel (11, [some (vR (some (14, 0, a0)))], [], (I, S)) r) : Ev d mX3_isWheel (0, [some (vR (some (14, 0, a0)))], [], (I, S)) r :=
  s_aload_n rfl rfl rfl <|
  s_getI rfl rfl rfl <|
  s_aload_n rfl rfl rfl <|
  s_getI rfl rfl rfl <|
  s_icmp_ne 15 rfl rfl kt kf
theorem b_X3_isWheel_11 {d : Nat} {r : PO × PM} {I : Nat → Nat → Int} {S : PS} {a0 : Nat} (k : Ev d mX3_isWheel (16, [some (vR (some (14, 0, a0)))], [vI 1], (I, S)) r) : Ev d mX3_isWheel (11, [some (vR (some (14, 0, a0)))], [], (I, S)) r :=
  s_iconst rfl rfl <|
  s_goto 16 rfl rfl k
theorem b_X3_isWheel_15 {d : Nat} {r : PO × PM} {I : Nat → Nat → Int} {S : PS} {a0 : Nat} (k : Ev d mX3_isWheel (16, [some (vR (some (14, 0, a0)))], [vI 0], (I, S)) r) : Ev d mX3_isWheel (15, [some (vR (some (14, 0, a0)))], [], (I, S)) r :=
  s_iconst rfl rfl <|
  k
theorem b_X3_isWheel_16 {d : Nat} {I : Nat → Nat → Int} {S : PS} {a0 : Nat} {xs0 : Int} (hb1 : xs0 = 0 ∨ xs0 = 1) : Ev d mX3_isWheel (16, [some (vR (some (14, 0, a0)))], [vI xs0], (I, S)) (.inl (some (vI xs0)), (I, S)) :=
  s_retz rfl rfl hb1
theorem b_X3_placesOfRing_0 {d : Nat} {r : PO × PM} {I : Nat → Nat → Int} {S : PS} {a0 : Nat} (kt : I a0 1 ≠ 0 → Ev d mX3_placesOfRing (12, [some (vR (some (14, 0, a0))), none, none], [], (I, S)) r) (kf : I a0 1 = 0 → Ev d mX3_placesOfRing (7, [some (vR (some (14, 0, a0))), none, none], [], (I, S)) r) : Ev d mX3_placesOfRing (0, [some (vR (some (14, 0, a0))), none, none], [], (I, S)) r :=
  s_aload_n rfl rfl rfl <|
  s_getI rfl rfl rfl <|
  s_if_ne 12 rfl rfl kt kf
theorem b_X3_placesOfRing_7 {d : Nat} {I : Nat → Nat → Int} {S : PS} {a0 : Nat} : Ev d mX3_placesOfRing (7, [some (vR (some (14, 0, a0))), none, none], [], (I, S)) (.inl (some (vI (I a0 0))), (I, S)) :=
  s_aload_n rfl rfl rfl <|
  s_getI rfl rfl rfl <|
  s_ret rfl rfl
theorem b_X3_placesOfRing_12 {d : Nat} {r : PO × PM} {I : Nat → Nat → Int} {S : PS} {a0 : Nat} {I1 : Nat → Nat → Int} {S1 : PS} {z : Int} (c : Ca d mX3_isWheel [vR (some (14, 0, a0))] (I, S) (.inl (some (vI z))) (I1, S1)) (k : Ev (d + 1) mX3_placesOfRing (16, [some (vR (some (14, 0, a0))), none, none], [vI z], (I1, S1)) r) : Ev (d + 1) mX3_placesOfRing (12, [some (vR (some (14, 0, a0))), none, none], [], (I, S)) r :=
  s_aload_n rfl rfl rfl <|
  s_cvI rfl rfl rfl rfl rfl c k
theorem b_X3_placesOfRing_16 {d : Nat} {r : PO × PM} {I : Nat → Nat → Int} {S : PS} {a0 : Nat} {xs0 : Int} (kt : xs0 = 0 → Ev d mX3_placesOfRing (23, [some (vR (some (14, 0, a0))), none, none], [], (I, S)) r) (kf : xs0 ≠ 0 → Ev d mX3_placesOfRing (19, [some (vR (some (14, 0, a0))), none, none], [], (I, S)) r) : Ev d mX3_placesOfRing (16, [some (vR (some (14, 0, a0))), none, none], [vI xs0], (I, S)) r :=
  s_if_eq 23 rfl rfl kt kf
theorem b_X3_placesOfRing_19 {d : Nat} {r : PO × PM} {I : Nat → Nat → Int} {S : PS} {a0 : Nat} (k : Ev d mX3_placesOfRing (34, [some (vR (some (14, 0, a0))), none, none], [vI 0], (I, S)) r) : Ev d mX3_placesOfRing (19, [some (vR (some (14, 0, a0))), none, none], [], (I, S)) r :=
  s_iconst rfl rfl <|
  s_goto 34 rfl rfl k
theorem b_X3_placesOfRing_23 {d : Nat} {r : PO × PM} {I : Nat → Nat → Int} {S : PS} {a0 : Nat} (ho1 : -2147483648 ≤ I a0 0 - (I a0 1) ∧ I a0 0 - (I a0 1) ≤ 2147483647) (ho2 : -2147483648 ≤ (I a0 0 - (I a0 1)) - 1 ∧ (I a0 0 - (I a0 1)) - 1 ≤ 2147483647) (k : Ev d mX3_placesOfRing (34, [some (vR (some (14, 0, a0))), none, none], [vI ((I a0 0 - (I a0 1)) - 1)], (I, S)) r) : Ev d mX3_placesOfRing (23, [some (vR (some (14, 0, a0))), none, none], [], (I, S)) r :=
  s_aload_n rfl rfl rfl <|
  s_getI rfl rfl rfl <|
  s_aload_n rfl rfl rfl <|
  s_getI rfl rfl rfl <|
  s_isubp rfl ho1 <|
  s_iconst rfl rfl <|
  s_isubp rfl ho2 <|
  k
theorem b_X3_placesOfRing_34 {d : Nat} {r : PO × PM} {I : Nat → Nat → Int} {S : PS} {a0 : Nat} {xs0 : Int} (k : Ev d mX3_placesOfRing (37, [some (vR (some (14, 0, a0))), some (vI xs0), some (vI 0)], [], (I, S)) r) : Ev d mX3_placesOfRing (34, [some (vR (some (14, 0, a0))), none, none], [vI xs0], (I, S)) r :=
  s_istore_n [some (vR (some (14, 0, a0))), some (vI xs0), none] rfl rfl <|
  s_iconst rfl rfl <|
  s_istore_n [some (vR (some (14, 0, a0))), some (vI xs0), some (vI 0)] rfl rfl <|
  k
theorem b_X3_placesOfRing_37 {d : Nat} {r : PO × PM} {I : Nat → Nat → Int} {S : PS} {a0 : Nat} {x1 x2 : Int} (kt : I a0 1 ≤ x2 → Ev d mX3_placesOfRing (61, [some (vR (some (14, 0, a0))), some (vI x1), some (vI x2)], [], (I, S)) r) (kf : x2 < I a0 1 → Ev d mX3_placesOfRing (45, [some (vR (some (14, 0, a0))), some (vI x1), some (vI x2)], [], (I, S)) r) : Ev d mX3_placesOfRing (37, [some (vR (some (14, 0, a0))), some (vI x1), some (vI x2)], [], (I, S)) r :=
  s_iload_n rfl rfl rfl <|
  s_aload_n rfl rfl rfl <|
  s_getI rfl rfl rfl <|
  s_icmp_ge 61 rfl rfl kt kf
theorem b_X3_placesOfRing_45 {d : Nat} {r : PO × PM} {I : Nat → Nat → Int} {S : PS} {a0 : Nat} {x1 x2 z : Int} {I1 : Nat → Nat → Int} {S1 : PS} (c : Ca d mX3_edgesToRing [vR (some (14, 0, a0)), vI x2] (I, S) (.inl (some (vI z))) (I1, S1)) (k : Ev (d + 1) mX3_placesOfRing (51, [some (vR (some (14, 0, a0))), some (vI x1), some (vI x2)], [vI z, vI x1], (I1, S1)) r) : Ev (d + 1) mX3_placesOfRing (45, [some (vR (some (14, 0, a0))), some (vI x1), some (vI x2)], [], (I, S)) r :=
  s_iload_n rfl rfl rfl <|
  s_aload_n rfl rfl rfl <|
  s_iload_n rfl rfl rfl <|
  s_cvI rfl rfl rfl rfl rfl c k
theorem b_X3_placesOfRing_51 {d : Nat} {r : PO × PM} {I : Nat → Nat → Int} {S : PS} {a0 : Nat} {x1 x2 xs0 xs1 : Int} (ho1 : -2147483648 ≤ xs1 - 1 ∧ xs1 - 1 ≤ 2147483647) (ho2 : -2147483648 ≤ xs0 + (xs1 - 1) ∧ xs0 + (xs1 - 1) ≤ 2147483647) (ho3 : -2147483648 ≤ x2 + 1 ∧ x2 + 1 ≤ 2147483647) (k : Ev d mX3_placesOfRing (37, [some (vR (some (14, 0, a0))), some (vI (xs0 + (xs1 - 1))), some (vI (x2 + 1))], [], (I, S)) r) : Ev d mX3_placesOfRing (51, [some (vR (some (14, 0, a0))), some (vI x1), some (vI x2)], [vI xs1, vI xs0], (I, S)) r :=
  s_iconst rfl rfl <|
  s_isubp rfl ho1 <|
  s_iaddp rfl ho2 <|
  s_istore_n [some (vR (some (14, 0, a0))), some (vI (xs0 + (xs1 - 1))), some (vI x2)] rfl rfl <|
  s_iincp [some (vR (some (14, 0, a0))), some (vI (xs0 + (xs1 - 1))), some (vI (x2 + 1))] rfl rfl ho3 rfl <|
  s_goto 37 rfl rfl k
theorem b_X3_placesOfRing_61 {d : Nat} {I : Nat → Nat → Int} {S : PS} {a0 : Nat} {x1 x2 : Int} : Ev d mX3_placesOfRing (61, [some (vR (some (14, 0, a0))), some (vI x1), some (vI x2)], [], (I, S)) (.inl (some (vI x1)), (I, S)) :=
  s_iload_n rfl rfl rfl <|
  s_ret rfl rfl
theorem b_X3_edgesToRing_0 {d : Nat} {r : PO × PM} {I : Nat → Nat → Int} {S : PS} {a0 : Nat} {x1 : Int} (kt : 0 < x1 → Ev d mX3_edgesToRing (13, [some (vR (some (14, 0, a0))), some (vI x1), some (vI 1)], [], (I, S)) r) (kf : x1 ≤ 0 → Ev d mX3_edgesToRing (6, [some (vR (some (14, 0, a0))), some (vI x1), some (vI 1)], [], (I, S)) r) : Ev d mX3_edgesToRing (0, [some (vR (some (14, 0, a0))), some (vI x1), none], [], (I, S)) r :=
  s_iconst rfl rfl <|
  s_istore_n [some (vR (some (14, 0, a0))), some (vI x1), some (vI 1)] rfl rfl <|
  s_iload_n rfl rfl rfl <|
  s_if_gt 13 rfl rfl kt kf
theorem b_X3_edgesToRing_6 {d : Nat} {r : PO × PM} {I : Nat → Nat → Int} {S : PS} {a0 : Nat} {x1 x2 z : Int} {I1 : Nat → Nat → Int} {S1 : PS} (c : Ca d mX3_isWheel [vR (some (14, 0, a0))] (I, S) (.inl (some (vI z))) (I1, S1)) (k : Ev (d + 1) mX3_edgesToRing (10, [some (vR (some (14, 0, a0))), some (vI x1), some (vI x2)], [vI z], (I1, S1)) r) : Ev (d + 1) mX3_edgesToRing (6, [some (vR (some (14, 0, a0))), some (vI x1), some (vI x2)], [], (I, S)) r :=
  s_aload_n rfl rfl rfl <|
  s_cvI rfl rfl rfl rfl rfl c k
theorem b_X3_edgesToRing_10 {d : Nat} {r : PO × PM} {I : Nat → Nat → Int} {S : PS} {a0 : Nat} {x1 x2 xs0 : Int} (kt : xs0 = 0 → Ev d mX3_edgesToRing (16, [some (vR (some (14, 0, a0))), some (vI x1), some (vI x2)], [], (I, S)) r) (kf : xs0 ≠ 0 → Ev d mX3_edgesToRing (13, [some (vR (some (14, 0, a0))), some (vI x1), some (vI x2)], [], (I, S)) r) : Ev d mX3_edgesToRing (10, [some (vR (some (14, 0, a0))), some (vI x1), some (vI x2)], [vI xs0], (I, S)) r :=
  s_if_eq 16 rfl rfl kt kf
theorem b_X3_edgesToRing_13 {d : Nat} {r : PO × PM} {I : Nat → Nat → Int} {S : PS} {a0 : Nat} {x1 x2 : Int} (ho1 : -2147483648 ≤ x2 + 1 ∧ x2 + 1 ≤ 2147483647) (k : Ev d mX3_edgesToRing (16, [some (vR (some (14, 0, a0))), some (vI x1), some (vI (x2 + 1))], [], (I, S)) r) : Ev d mX3_edgesToRing (13, [some (vR (some (14, 0, a0))), some (vI x1), some (vI x2)], [], (I, S)) r :=
  s_iincp [some (vR (some (14, 0, a0))), some (vI x1), some (vI (x2 + 1))] rfl rfl ho1 rfl <|
  k
theorem b_X3_edgesToRing_16 {d : Nat} {r : PO × PM} {I : Nat → Nat → Int} {S : PS} {a0 : Nat} {x1 x2 : Int} (ho1 : -2147483648 ≤ x1 + 1 ∧ x1 + 1 ≤ 2147483647) (kt : x1 + 1 < I a0 1 → Ev d mX3_edgesToRing (33, [some (vR (some (14, 0, a0))), some (vI x1), some (vI x2)], [], (I, S)) r) (kf : I a0 1 ≤ x1 + 1 → Ev d mX3_edgesToRing (26, [some (vR (some (14, 0, a0))), some (vI x1), some (vI x2)], [], (I, S)) r) : Ev d mX3_edgesToRing (16, [some (vR (some (14, 0, a0))), some (vI x1), some (vI x2)], [], (I, S)) r :=
  s_iload_n rfl rfl rfl <|
  s_iconst rfl rfl <|
  s_iaddp rfl ho1 <|
  s_aload_n rfl rfl rfl <|
  s_getI rfl rfl rfl <|
  s_icmp_lt 33 rfl rfl kt kf
theorem b_X3_edgesToRing_26 {d : Nat} {r : PO × PM} {I : Nat → Nat → Int} {S : PS} {a0 : Nat} {x1 x2 z : Int} {I1 : Nat → Nat → Int} {S1 : PS} (c : Ca d mX3_isWheel [vR (some (14, 0, a0))] (I, S) (.inl (some (vI z))) (I1, S1)) (k : Ev (d + 1) mX3_edgesToRing (30, [some (vR (some (14, 0, a0))), some (vI x1), some (vI x2)], [vI z], (I1, S1)) r) : Ev (d + 1) mX3_edgesToRing (26, [some (vR (some (14, 0, a0))), some (vI x1), some (vI x2)], [], (I, S)) r :=
  s_aload_n rfl rfl rfl <|
  s_cvI rfl rfl rfl rfl rfl c k
theorem b_X3_edgesToRing_30 {d : Nat} {r : PO × PM} {I : Nat → Nat → Int} {S : PS} {a0 : Nat} {x1 x2 xs0 : Int} (kt : xs0 = 0 → Ev d mX3_edgesToRing (36, [some (vR (some (14, 0, a0))), some (vI x1), some (vI x2)], [], (I, S)) r) (kf : xs0 ≠ 0 → Ev d mX3_edgesToRing (33, [some (vR (some (14, 0, a0))), some (vI x1), some (vI x2)], [], (I, S)) r) : Ev d mX3_edgesToRing (30, [some (vR (some (14, 0, a0))), some (vI x1), some (vI x2)], [vI xs0], (I, S)) r :=
  s_if_eq 36 rfl rfl kt kf
theorem b_X3_edgesToRing_33 {d : Nat} {r : PO × PM} {I : Nat → Nat → Int} {S : PS} {a0 : Nat} {x1 x2 : Int} (ho1 : -2147483648 ≤ x2 + 1 ∧ x2 + 1 ≤ 2147483647) (k : Ev d mX3_edgesToRing (36, [some (vR (some (14, 0, a0))), some (vI x1), some (vI (x2 + 1))], [], (I, S)) r) : Ev d mX3_edgesToRing (33, [some (vR (some (14, 0, a0))), some (vI x1), some (vI x2)], [], (I, S)) r :=
  s_iincp [some (vR (some (14, 0, a0))), some (vI x1), some (vI (x2 + 1))] rfl rfl ho1 rfl <|
  k
theorem b_X3_edgesToRing_36 {d : Nat} {I : Nat → Nat → Int} {S : PS} {a0 p1 q1 : Nat} {x1 x2 : Int} (hr1 : S.1 a0 2 = some (0, q1, p1)) (hi2 : 0 ≤ x1 ∧ x1 < (q1 : Nat)) (ho3 : -2147483648 ≤ I p1 x1.toNat - x2 ∧ I p1 x1.toNat - x2 ≤ 2147483647) : Ev d mX3_edgesToRing (36, [some (vR (some (14, 0, a0))), some (vI x1), some (vI x2)], [], (I, S)) (.inl (some (vI (I p1 x1.toNat - x2))), (I, S)) :=
  s_aload_n rfl rfl rfl <|
  s_getR rfl rfl rfl hr1 <|
  s_iload_n rfl rfl rfl <|
  s_iald rfl rfl hi2 <|
  s_iload_n rfl rfl rfl <|
  s_isubp rfl ho3 <|
  s_ret rfl rfl
theorem b_X3_linkBorder_0 {d : Nat} {r : PO × PM} {I : Nat → Nat → Int} {S : PS} {a0 : Nat} (k : Ev d mX3_linkBorder (4, [some (vR (some (14, 0, a0))), some (vI 0), some (vI 0), none], [], (I, S)) r) : Ev d mX3_linkBorder (0, [some (vR (some (14, 0, a0))), none, none, none], [], (I, S)) r :=
  s_iconst rfl rfl <|
  s_istore_n [some (vR (some (14, 0, a0))), some (vI 0), none, none] rfl rfl <|
  s_iconst rfl rfl <|
  s_istore_n [some (vR (some (14, 0, a0))), some (vI 0), some (vI 0), none] rfl rfl <|
  k
theorem b_X3_linkBorder_4 {d : Nat} {r : PO × PM} {I : Nat → Nat → Int} {S : PS} {a0 : Nat} {x1 x2 : Int} (kt : I a0 1 ≤ x2 → Ev d mX3_linkBorder (44, [some (vR (some (14, 0, a0))), some (vI x1), some (vI x2), none], [], (I, S)) r) (kf : x2 < I a0 1 → Ev d mX3_linkBorder (12, [some (vR (some (14, 0, a0))), some (vI x1), some (vI x2), none], [], (I, S)) r) : Ev d mX3_linkBorder (4, [some (vR (some (14, 0, a0))), some (vI x1), some (vI x2), none], [], (I, S)) r :=
  s_iload_n rfl rfl rfl <|
  s_aload_n rfl rfl rfl <|
  s_getI rfl rfl rfl <|
  s_icmp_ge 44 rfl rfl kt kf
theorem b_X3_linkBorder_12 {d : Nat} {r : PO × PM} {I : Nat → Nat → Int} {S : PS} {a0 : Nat} {x1 x2 z : Int} {I1 : Nat → Nat → Int} {S1 : PS} (c : Ca d mX3_edgesToRing [vR (some (14, 0, a0)), vI x2] (I, S) (.inl (some (vI z))) (I1, S1)) (k : Ev (d + 1) mX3_linkBorder (17, [some (vR (some (14, 0, a0))), some (vI x1), some (vI x2), none], [vI z], (I1, S1)) r) : Ev (d + 1) mX3_linkBorder (12, [some (vR (some (14, 0, a0))), some (vI x1), some (vI x2), none], [], (I, S)) r :=
  s_aload_n rfl rfl rfl <|
  s_iload_n rfl rfl rfl <|
  s_cvI rfl rfl rfl rfl rfl c k
theorem b_X3_linkBorder_17 {d : Nat} {r : PO × PM} {I : Nat → Nat → Int} {S : PS} {a0 : Nat} {x1 x2 xs0 : Int} {I1 : Nat → Nat → Int} {S1 : PS} (ho1 : -2147483648 ≤ I a0 3 + 1 ∧ I a0 3 + 1 ≤ 2147483647) (ho2 : -2147483648 ≤ I a0 3 + 1 + x2 ∧ I a0 3 + 1 + x2 ≤ 2147483647) (c : Ca d mX3_linkPlaces [vR (some (14, 0, a0)), vI (I a0 3 + 1 + x2), vI x1, vI xs0] (I, S) (.inl none) (I1, S1)) (k : Ev (d + 1) mX3_linkBorder (32, [some (vR (some (14, 0, a0))), some (vI x1), some (vI x2), some (vI xs0)], [], (I1, S1)) r) : Ev (d + 1) mX3_linkBorder (17, [some (vR (some (14, 0, a0))), some (vI x1), some (vI x2), none], [vI xs0], (I, S)) r :=
  s_istore_n [some (vR (some (14, 0, a0))), some (vI x1), some (vI x2), some (vI xs0)] rfl rfl <|
  s_aload_n rfl rfl rfl <|
  s_aload_n rfl rfl rfl <|
  s_getI rfl rfl rfl <|
  s_iconst rfl rfl <|
  s_iaddp rfl ho1 <|
  s_iload_n rfl rfl rfl <|
  s_iaddp rfl ho2 <|
  s_iload_n rfl rfl rfl <|
  s_iload_n rfl rfl rfl <|
  s_cvV rfl rfl rfl rfl rfl c k
theorem b_X3_linkBorder_32 {d : Nat} {r : PO × PM} {I : Nat → Nat → Int} {S : PS} {a0 : Nat} {x1 x2 x3 : Int} (ho1 : -2147483648 ≤ x3 - 1 ∧ x3 - 1 ≤ 2147483647) (ho2 : -2147483648 ≤ x1 + (x3 - 1) ∧ x1 + (x3 - 1) ≤ 2147483647) (ho3 : -2147483648 ≤ x2 + 1 ∧ x2 + 1 ≤ 2147483647) (k : Ev d mX3_linkBorder (4, [some (vR (some (14, 0, a0))), some (vI (x1 + (x3 - 1))), some (vI (x2 + 1)), none], [], (I, S)) r) : Ev d mX3_linkBorder (32, [some (vR (some (14, 0, a0))), some (vI x1), some (vI x2), some (vI x3)], [], (I, S)) r :=
  s_iload_n rfl rfl rfl <|
  s_iload_n rfl rfl rfl <|
  s_iconst rfl rfl <|
  s_isubp rfl ho1 <|
  s_iaddp rfl ho2 <|
  s_istore_n [some (vR (some (14, 0, a0))), some (vI (x1 + (x3 - 1))), some (vI x2), some (vI x3)] rfl rfl <|
  s_iincp [some (vR (some (14, 0, a0))), some (vI (x1 + (x3 - 1))), some (vI (x2 + 1)), some (vI x3)] rfl rfl ho3 rfl <|
  s_goto 4 rfl rfl (ev_forget [false, false, false, true] rfl k)
theorem b_X3_linkBorder_44 {d : Nat} {r : PO × PM} {I : Nat → Nat → Int} {S : PS} {a0 : Nat} {x1 x2 z : Int} {I1 : Nat → Nat → Int} {S1 : PS} (c : Ca d mX3_isWheel [vR (some (14, 0, a0))] (I, S) (.inl (some (vI z))) (I1, S1)) (k : Ev (d + 1) mX3_linkBorder (48, [some (vR (some (14, 0, a0))), some (vI x1), some (vI x2), none], [vI z], (I1, S1)) r) : Ev (d + 1) mX3_linkBorder (44, [some (vR (some (14, 0, a0))), some (vI x1), some (vI x2), none], [], (I, S)) r :=
  s_aload_n rfl rfl rfl <|
  s_cvI rfl rfl rfl rfl rfl c k
theorem b_X3_linkBorder_48 {d : Nat} {r : PO × PM} {I : Nat → Nat → Int} {S : PS} {a0 : Nat} {x1 x2 xs0 : Int} (kt : xs0 ≠ 0 → Ev d mX3_linkBorder (69, [some (vR (some (14, 0, a0))), some (vI x1), some (vI x2), none], [], (I, S)) r) (kf : xs0 = 0 → Ev d mX3_linkBorder (51, [some (vR (some (14, 0, a0))), some (vI x1), some (vI x2), none], [], (I, S)) r) : Ev d mX3_linkBorder (48, [some (vR (some (14, 0, a0))), some (vI x1), some (vI x2), none], [vI xs0], (I, S)) r :=
  s_if_ne 69 rfl rfl kt kf
theorem b_X3_linkBorder_51 {d : Nat} {r : PO × PM} {I : Nat → Nat → Int} {S : PS} {a0 : Nat} {x1 x2 : Int} {I1 : Nat → Nat → Int} {S1 : PS} (ho1 : -2147483648 ≤ I a0 0 - (I a0 1) ∧ I a0 0 - (I a0 1) ≤ 2147483647) (c : Ca d mX3_linkPlaces [vR (some (14, 0, a0)), vI (I a0 3), vI x1, vI (I a0 0 - (I a0 1))] (I, S) (.inl none) (I1, S1)) (k : Ev (d + 1) mX3_linkBorder (69, [some (vR (some (14, 0, a0))), some (vI x1), some (vI x2), none], [], (I1, S1)) r) : Ev (d + 1) mX3_linkBorder (51, [some (vR (some (14, 0, a0))), some (vI x1), some (vI x2), none], [], (I, S)) r :=
  s_aload_n rfl rfl rfl <|
  s_aload_n rfl rfl rfl <|
  s_getI rfl rfl rfl <|
  s_iload_n rfl rfl rfl <|
  s_aload_n rfl rfl rfl <|
  s_getI rfl rfl rfl <|
  s_aload_n rfl rfl rfl <|
  s_getI rfl rfl rfl <|
  s_isubp rfl ho1 <|
  s_cvV rfl rfl rfl rfl rfl c k
theorem b_X3_linkBorder_69 {d : Nat} {I : Nat → Nat → Int} {S : PS} {a0 : Nat} {x1 x2 : Int} : Ev d mX3_linkBorder (69, [some (vR (some (14, 0, a0))), some (vI x1), some (vI x2), none], [], (I, S)) (.inl none, (I, S)) :=
  s_vret rfl rfl
theorem b_X3_linkPlaces_0 {d : Nat} {r : PO × PM} {I : Nat → Nat → Int} {S : PS} {a0 : Nat} {x1 x2 x3 : Int} (k : Ev d mX3_linkPlaces (6, [some (vR (some (14, 0, a0))), some (vI x1), some (vI x2), some (vI x3), some (vI x2), some (vI 0)], [], (I, S)) r) : Ev d mX3_linkPlaces (0, [some (vR (some (14, 0, a0))), some (vI x1), some (vI x2), some (vI x3), none, none], [], (I, S)) r :=
  s_iload_n rfl rfl rfl <|
  s_istore [some (vR (some (14, 0, a0))), some (vI x1), some (vI x2), some (vI x3), some (vI x2), none] rfl rfl <|
  s_iconst rfl rfl <|
  s_istore [some (vR (some (14, 0, a0))), some (vI x1), some (vI x2), some (vI x3), some (vI x2), some (vI 0)] rfl rfl <|
  k
theorem b_X3_linkPlaces_6 {d : Nat} {r : PO × PM} {I : Nat → Nat → Int} {S : PS} {a0 : Nat} {x1 x2 x3 x4 x5 : Int} (kt : x3 ≤ x5 → Ev d mX3_linkPlaces (40, [some (vR (some (14, 0, a0))), some (vI x1), some (vI x2), some (vI x3), some (vI x4), some (vI x5)], [], (I, S)) r) (kf : x5 < x3 → Ev d mX3_linkPlaces (12, [some (vR (some (14, 0, a0))), some (vI x1), some (vI x2), some (vI x3), some (vI x4), some (vI x5)], [], (I, S)) r) : Ev d mX3_linkPlaces (6, [some (vR (some (14, 0, a0))), some (vI x1), some (vI x2), some (vI x3), some (vI x4), some (vI x5)], [], (I, S)) r :=
  s_iload rfl rfl rfl <|
  s_iload_n rfl rfl rfl <|
  s_icmp_ge 40 rfl rfl kt kf
theorem b_X3_linkPlaces_12 {d : Nat} {r : PO × PM} {I : Nat → Nat → Int} {S : PS} {a0 : Nat} {x1 x2 x3 x4 x5 : Int} (kt : x4 < I a0 3 → Ev d mX3_linkPlaces (24, [some (vR (some (14, 0, a0))), some (vI x1), some (vI x2), some (vI x3), some (vI x4), some (vI x5)], [], (I, S)) r) (kf : I a0 3 ≤ x4 → Ev d mX3_linkPlaces (21, [some (vR (some (14, 0, a0))), some (vI x1), some (vI x2), some (vI x3), some (vI x4), some (vI x5)], [], (I, S)) r) : Ev d mX3_linkPlaces (12, [some (vR (some (14, 0, a0))), some (vI x1), some (vI x2), some (vI x3), some (vI x4), some (vI x5)], [], (I, S)) r :=
  s_iload rfl rfl rfl <|
  s_aload_n rfl rfl rfl <|
  s_getI rfl rfl rfl <|
  s_icmp_lt 24 rfl rfl kt kf
theorem b_X3_linkPlaces_21 {d : Nat} {r : PO × PM} {I : Nat → Nat → Int} {S : PS} {a0 : Nat} {x1 x2 x3 x4 x5 : Int} (k : Ev d mX3_linkPlaces (24, [some (vR (some (14, 0, a0))), some (vI x1), some (vI x2), some (vI x3), some (vI 0), some (vI x5)], [], (I, S)) r) : Ev d mX3_linkPlaces (21, [some (vR (some (14, 0, a0))), some (vI x1), some (vI x2), some (vI x3), some (vI x4), some (vI x5)], [], (I, S)) r :=
  s_iconst rfl rfl <|
  s_istore [some (vR (some (14, 0, a0))), some (vI x1), some (vI x2), some (vI x3), some (vI 0), some (vI x5)] rfl rfl <|
  k
theorem b_X3_linkPlaces_24 {d : Nat} {r : PO × PM} {I : Nat → Nat → Int} {S : PS} {a0 : Nat} {x1 x2 x3 x4 x5 : Int} {I1 : Nat → Nat → Int} {S1 : PS} (c : Ca d mX3_link [vR (some (14, 0, a0)), vI x1, vI x4] (I, S) (.inl none) (I1, S1)) (k : Ev (d + 1) mX3_linkPlaces (31, [some (vR (some (14, 0, a0))), some (vI x1), some (vI x2), some (vI x3), some (vI x4), some (vI x5)], [], (I1, S1)) r) : Ev (d + 1) mX3_linkPlaces (24, [some (vR (some (14, 0, a0))), some (vI x1), some (vI x2), some (vI x3), some (vI x4), some (vI x5)], [], (I, S)) r :=
  s_aload_n rfl rfl rfl <|
  s_iload_n rfl rfl rfl <|
  s_iload rfl rfl rfl <|
  s_cvV rfl rfl rfl rfl rfl c k
theorem b_X3_linkPlaces_31 {d : Nat} {r : PO × PM} {I : Nat → Nat → Int} {S : PS} {a0 : Nat} {x1 x2 x3 x4 x5 : Int} (ho1 : -2147483648 ≤ x4 + 1 ∧ x4 + 1 ≤ 2147483647) (ho2 : -2147483648 ≤ x5 + 1 ∧ x5 + 1 ≤ 2147483647) (k : Ev d mX3_linkPlaces (6, [some (vR (some (14, 0, a0))), some (vI x1), some (vI x2), some (vI x3), some (vI (x4 + 1)), some (vI (x5 + 1))], [], (I, S)) r) : Ev d mX3_linkPlaces (31, [some (vR (some (14, 0, a0))), some (vI x1), some (vI x2), some (vI x3), some (vI x4), some (vI x5)], [], (I, S)) r :=
  s_iincp [some (vR (some (14, 0, a0))), some (vI x1), some (vI x2), some (vI x3), some (vI (x4 + 1)), some (vI x5)] rfl rfl ho1 rfl <|
  s_iincp [some (vR (some (14, 0, a0))), some (vI x1), some (vI x2), some (vI x3), some (vI (x4 + 1)), some (vI (x5 + 1))] rfl rfl ho2 rfl <|
  s_goto 6 rfl rfl k
theorem b_X3_linkPlaces_40 {d : Nat} {I : Nat → Nat → Int} {S : PS} {a0 : Nat} {x1 x2 x3 x4 x5 : Int} : Ev d mX3_linkPlaces (40, [some (vR (some (14, 0, a0))), some (vI x1), some (vI x2), some (vI x3), some (vI x4), some (vI x5)], [], (I, S)) (.inl none, (I, S)) :=
  s_vret rfl rfl
theorem b_X3_link_0 {d : Nat} {I : Nat → Nat → Int} {S : PS} {a0 p1 q1 : Nat} {x1 x2 : Int} (hr1 : S.1 a0 5 = some (0, q1, p1)) (hi2 : 0 ≤ x1 ∧ x1 < (q1 : Nat)) (hi3 : 0 ≤ x1 ∧ x1 < (q1 : Nat)) (hi4 : 0 ≤ x2 ∧ x2 < (q1 : Nat)) (hi5 : 0 ≤ x2 ∧ x2 < (q1 : Nat)) : Ev d mX3_link (0, [some (vR (some (14, 0, a0))), some (vI x1), some (vI x2)], [], (I, S)) (.inl none, ((up2 (up2 I p1 (x1.toNat) (p_or (I p1 x1.toNat) (p_shl 1 x2))) p1 (x2.toNat) (p_or ((up2 I p1 (x1.toNat) (p_or (I p1 x1.toNat) (p_shl 1 x2))) p1 x2.toNat) (p_shl 1 x1))), S)) :=
  s_aload_n rfl rfl rfl <|
  s_getR rfl rfl rfl hr1 <|
  s_iload_n rfl rfl rfl <|
  s_dup2 rfl rfl <|
  s_iald rfl rfl hi2 <|
  s_iconst rfl rfl <|
  s_iload_n rfl rfl rfl <|
  s_ishl rfl <|
  s_ior rfl <|
  s_iast rfl hi3 <|
  s_aload_n rfl rfl rfl <|
  s_getR rfl rfl rfl hr1 <|
  s_iload_n rfl rfl rfl <|
  s_dup2 rfl rfl <|
  s_iald rfl rfl hi4 <|
  s_iconst rfl rfl <|
  s_iload_n rfl rfl rfl <|
  s_ishl rfl <|
  s_ior rfl <|
  s_iast rfl hi5 <|
  s_vret rfl rfl
theorem b_X3_addJoin_0 {d : Nat} {r : PO × PM} {I : Nat → Nat → Int} {S : PS} {a0 p1 q1 : Nat} {x1 x2 : Int} (hr1 : S.1 a0 5 = some (0, q1, p1)) (hi2 : 0 ≤ x1 ∧ x1 < (q1 : Nat)) (kt : p_and (p_shr (I p1 x1.toNat) x2) 1 = 0 → Ev d mX3_addJoin (17, [some (vR (some (14, 0, a0))), some (vI x1), some (vI x2), none, none], [], (I, S)) r) (kf : p_and (p_shr (I p1 x1.toNat) x2) 1 ≠ 0 → Ev d mX3_addJoin (13, [some (vR (some (14, 0, a0))), some (vI x1), some (vI x2), none, none], [], (I, S)) r) : Ev d mX3_addJoin (0, [some (vR (some (14, 0, a0))), some (vI x1), some (vI x2), none, none], [], (I, S)) r :=
  s_aload_n rfl rfl rfl <|
  s_getR rfl rfl rfl hr1 <|
  s_iload_n rfl rfl rfl <|
  s_iald rfl rfl hi2 <|
  s_iload_n rfl rfl rfl <|
  s_ishr rfl <|
  s_iconst rfl rfl <|
  s_iand rfl <|
  s_if_eq 17 rfl rfl kt kf
theorem b_X3_addJoin_13 {d : Nat} {r : PO × PM} {I : Nat → Nat → Int} {S : PS} {a0 : Nat} {x1 x2 : Int} (k : Ev d mX3_addJoin (18, [some (vR (some (14, 0, a0))), some (vI x1), some (vI x2), none, none], [vI 1], (I, S)) r) : Ev d mX3_addJoin (13, [some (vR (some (14, 0, a0))), some (vI x1), some (vI x2), none, none], [], (I, S)) r :=
  s_iconst rfl rfl <|
  s_goto 18 rfl rfl k
theorem b_X3_addJoin_17 {d : Nat} {r : PO × PM} {I : Nat → Nat → Int} {S : PS} {a0 : Nat} {x1 x2 : Int} (k : Ev d mX3_addJoin (18, [some (vR (some (14, 0, a0))), some (vI x1), some (vI x2), none, none], [vI 0], (I, S)) r) : Ev d mX3_addJoin (17, [some (vR (some (14, 0, a0))), some (vI x1), some (vI x2), none, none], [], (I, S)) r :=
  s_iconst rfl rfl <|
  k
theorem b_X3_addJoin_18 {d : Nat} {r : PO × PM} {I : Nat → Nat → Int} {S : PS} {a0 p1 q1 : Nat} {x1 x2 xs0 : Int} (hr1 : S.1 a0 7 = some (0, q1, p1)) (hi2 : 0 ≤ x1 ∧ x1 < (q1 : Nat)) (kt : p_and (p_shr (I p1 x1.toNat) x2) 1 = 0 → Ev d mX3_addJoin (36, [some (vR (some (14, 0, a0))), some (vI x1), some (vI x2), some (vI xs0), none], [], (I, S)) r) (kf : p_and (p_shr (I p1 x1.toNat) x2) 1 ≠ 0 → Ev d mX3_addJoin (32, [some (vR (some (14, 0, a0))), some (vI x1), some (vI x2), some (vI xs0), none], [], (I, S)) r) : Ev d mX3_addJoin (18, [some (vR (some (14, 0, a0))), some (vI x1), some (vI x2), none, none], [vI xs0], (I, S)) r :=
  s_istore_n [some (vR (some (14, 0, a0))), some (vI x1), some (vI x2), some (vI xs0), none] rfl rfl <|
  s_aload_n rfl rfl rfl <|
  s_getR rfl rfl rfl hr1 <|
  s_iload_n rfl rfl rfl <|
  s_iald rfl rfl hi2 <|
  s_iload_n rfl rfl rfl <|
  s_ishr rfl <|
  s_iconst rfl rfl <|
  s_iand rfl <|
  s_if_eq 36 rfl rfl kt kf
theorem b_X3_addJoin_32 {d : Nat} {r : PO × PM} {I : Nat → Nat → Int} {S : PS} {a0 : Nat} {x1 x2 x3 : Int} (k : Ev d mX3_addJoin (37, [some (vR (some (14, 0, a0))), some (vI x1), some (vI x2), some (vI x3), none], [vI 1], (I, S)) r) : Ev d mX3_addJoin (32, [some (vR (some (14, 0, a0))), some (vI x1), some (vI x2), some (vI x3), none], [], (I, S)) r :=
  s_iconst rfl rfl <|
  s_goto 37 rfl rfl k
theorem b_X3_addJoin_36 {d : Nat} {r : PO × PM} {I : Nat → Nat → Int} {S : PS} {a0 : Nat} {x1 x2 x3 : Int} (k : Ev d mX3_addJoin (37, [some (vR (some (14, 0, a0))), some (vI x1), some (vI x2), some (vI x3), none], [vI 0], (I, S)) r) : Ev d mX3_addJoin (36, [some (vR (some (14, 0, a0))), some (vI x1), some (vI x2), some (vI x3), none], [], (I, S)) r :=
  s_iconst rfl rfl <|
  k
theorem b_X3_addJoin_37 {d : Nat} {r : PO × PM} {I : Nat → Nat → Int} {S : PS} {a0 : Nat} {x1 x2 x3 xs0 : Int} (kt : x3 = 0 → Ev d mX3_addJoin (64, [some (vR (some (14, 0, a0))), some (vI x1), some (vI x2), some (vI x3), some (vI xs0)], [], (I, S)) r) (kf : x3 ≠ 0 → Ev d mX3_addJoin (43, [some (vR (some (14, 0, a0))), some (vI x1), some (vI x2), some (vI x3), some (vI xs0)], [], (I, S)) r) : Ev d mX3_addJoin (37, [some (vR (some (14, 0, a0))), some (vI x1), some (vI x2), some (vI x3), none], [vI xs0], (I, S)) r :=
  s_istore [some (vR (some (14, 0, a0))), some (vI x1), some (vI x2), some (vI x3), some (vI xs0)] rfl rfl <|
  s_iload_n rfl rfl rfl <|
  s_if_eq 64 rfl rfl kt kf
theorem b_X3_addJoin_43 {d : Nat} {r : PO × PM} {I : Nat → Nat → Int} {S : PS} {a0 : Nat} {x1 x2 x3 x4 : Int} (kt : x4 ≠ 0 → Ev d mX3_addJoin (64, [some (vR (some (14, 0, a0))), some (vI x1), some (vI x2), some (vI x3), some (vI x4)], [], (I, S)) r) (kf : x4 = 0 → Ev d mX3_addJoin (48, [some (vR (some (14, 0, a0))), some (vI x1), some (vI x2), some (vI x3), some (vI x4)], [], (I, S)) r) : Ev d mX3_addJoin (43, [some (vR (some (14, 0, a0))), some (vI x1), some (vI x2), some (vI x3), some (vI x4)], [], (I, S)) r :=
  s_iload rfl rfl rfl <|
  s_if_ne 64 rfl rfl kt kf
theorem b_X3_addJoin_48 {d : Nat} {r : PO × PM} {I : Nat → Nat → Int} {S : PS} {a0 : Nat} {x1 x2 x3 x4 : Int} (kt : I a0 3 ≤ x1 → Ev d mX3_addJoin (66, [some (vR (some (14, 0, a0))), some (vI x1), some (vI x2), some (vI x3), some (vI x4)], [], (I, S)) r) (kf : x1 < I a0 3 → Ev d mX3_addJoin (56, [some (vR (some (14, 0, a0))), some (vI x1), some (vI x2), some (vI x3), some (vI x4)], [], (I, S)) r) : Ev d mX3_addJoin (48, [some (vR (some (14, 0, a0))), some (vI x1), some (vI x2), some (vI x3), some (vI x4)], [], (I, S)) r :=
  s_iload_n rfl rfl rfl <|
  s_aload_n rfl rfl rfl <|
  s_getI rfl rfl rfl <|
  s_icmp_ge 66 rfl rfl kt kf
theorem b_X3_addJoin_56 {d : Nat} {r : PO × PM} {I : Nat → Nat → Int} {S : PS} {a0 : Nat} {x1 x2 x3 x4 : Int} (kt : I a0 3 ≤ x2 → Ev d mX3_addJoin (66, [some (vR (some (14, 0, a0))), some (vI x1), some (vI x2), some (vI x3), some (vI x4)], [], (I, S)) r) (kf : x2 < I a0 3 → Ev d mX3_addJoin (64, [some (vR (some (14, 0, a0))), some (vI x1), some (vI x2), some (vI x3), some (vI x4)], [], (I, S)) r) : Ev d mX3_addJoin (56, [some (vR (some (14, 0, a0))), some (vI x1), some (vI x2), some (vI x3), some (vI x4)], [], (I, S)) r :=
  s_iload_n rfl rfl rfl <|
  s_aload_n rfl rfl rfl <|
  s_getI rfl rfl rfl <|
  s_icmp_ge 66 rfl rfl kt kf
theorem b_X3_addJoin_64 {d : Nat} {I : Nat → Nat → Int} {S : PS} {a0 : Nat} {x1 x2 x3 x4 : Int} : Ev d mX3_addJoin (64, [some (vR (some (14, 0, a0))), some (vI x1), some (vI x2), some (vI x3), some (vI x4)], [], (I, S)) (.inl (some (vI 0)), (I, S)) :=
  s_iconst rfl rfl <|
  s_ret rfl rfl
theorem b_X3_addJoin_66 {d : Nat} {I : Nat → Nat → Int} {S : PS} {a0 p1 q1 : Nat} {x1 x2 x3 x4 : Int} (hr1 : S.1 a0 7 = some (0, q1, p1)) (hi2 : 0 ≤ x1 ∧ x1 < (q1 : Nat)) (hi3 : 0 ≤ x1 ∧ x1 < (q1 : Nat)) (hi4 : 0 ≤ x2 ∧ x2 < (q1 : Nat)) (hi5 : 0 ≤ x2 ∧ x2 < (q1 : Nat)) (ho6 : -2147483648 ≤ ((up2 (up2 I p1 (x1.toNat) (p_or (I p1 x1.toNat) (p_shl 1 x2))) p1 (x2.toNat) (p_or ((up2 I p1 (x1.toNat) (p_or (I p1 x1.toNat) (p_shl 1 x2))) p1 x2.toNat) (p_shl 1 x1))) a0 6) + 1 ∧ ((up2 (up2 I p1 (x1.toNat) (p_or (I p1 x1.toNat) (p_shl 1 x2))) p1 (x2.toNat) (p_or ((up2 I p1 (x1.toNat) (p_or (I p1 x1.toNat) (p_shl 1 x2))) p1 x2.toNat) (p_shl 1 x1))) a0 6) + 1 ≤ 2147483647) : Ev d mX3_addJoin (66, [some (vR (some (14, 0, a0))), some (vI x1), some (vI x2), some (vI x3), some (vI x4)], [], (I, S)) (.inl (some (vI 1)), ((up2 (up2 (up2 I p1 (x1.toNat) (p_or (I p1 x1.toNat) (p_shl 1 x2))) p1 (x2.toNat) (p_or ((up2 I p1 (x1.toNat) (p_or (I p1 x1.toNat) (p_shl 1 x2))) p1 x2.toNat) (p_shl 1 x1))) a0 6 (((up2 (up2 I p1 (x1.toNat) (p_or (I p1 x1.toNat) (p_shl 1 x2))) p1 (x2.toNat) (p_or ((up2 I p1 (x1.toNat) (p_or (I p1 x1.toNat) (p_shl 1 x2))) p1 x2.toNat) (p_shl 1 x1))) a0 6) + 1)), S)) :=
  s_aload_n rfl rfl rfl <|
  s_getR rfl rfl rfl hr1 <|
  s_iload_n rfl rfl rfl <|
  s_dup2 rfl rfl <|
  s_iald rfl rfl hi2 <|
  s_iconst rfl rfl <|
  s_iload_n rfl rfl rfl <|
  s_ishl rfl <|
  s_ior rfl <|
  s_iast rfl hi3 <|
  s_aload_n rfl rfl rfl <|
  s_getR rfl rfl rfl hr1 <|
  s_iload_n rfl rfl rfl <|
  s_dup2 rfl rfl <|
  s_iald rfl rfl hi4 <|
  s_iconst rfl rfl <|
  s_iload_n rfl rfl rfl <|
  s_ishl rfl <|
  s_ior rfl <|
  s_iast rfl hi5 <|
  s_aload_n rfl rfl rfl <|
  s_dup rfl rfl <|
  s_getI rfl rfl rfl <|
  s_iconst rfl rfl <|
  s_iaddp rfl ho6 <|
  s_putI rfl rfl rfl <|
  s_iconst rfl rfl <|
  s_ret rfl rfl
theorem b_X3_edgeCount_0 {d : Nat} {r : PO × PM} {I : Nat → Nat → Int} {S : PS} {a0 : Nat} (k : Ev d mX3_edgeCount (4, [some (vR (some (14, 0, a0))), some (vI 0), some (vI 0)], [], (I, S)) r) : Ev d mX3_edgeCount (0, [some (vR (some (14, 0, a0))), none, none], [], (I, S)) r :=
  s_iconst rfl rfl <|
  s_istore_n [some (vR (some (14, 0, a0))), some (vI 0), none] rfl rfl <|
  s_iconst rfl rfl <|
  s_istore_n [some (vR (some (14, 0, a0))), some (vI 0), some (vI 0)] rfl rfl <|
  k
theorem b_X3_edgeCount_4 {d : Nat} {r : PO × PM} {I : Nat → Nat → Int} {S : PS} {a0 : Nat} {x1 x2 : Int} (kt : I a0 4 ≤ x2 → Ev d mX3_edgeCount (30, [some (vR (some (14, 0, a0))), some (vI x1), some (vI x2)], [], (I, S)) r) (kf : x2 < I a0 4 → Ev d mX3_edgeCount (12, [some (vR (some (14, 0, a0))), some (vI x1), some (vI x2)], [], (I, S)) r) : Ev d mX3_edgeCount (4, [some (vR (some (14, 0, a0))), some (vI x1), some (vI x2)], [], (I, S)) r :=
  s_iload_n rfl rfl rfl <|
  s_aload_n rfl rfl rfl <|
  s_getI rfl rfl rfl <|
  s_icmp_ge 30 rfl rfl kt kf
theorem b_X3_edgeCount_12 {d : Nat} {r : PO × PM} {I : Nat → Nat → Int} {S : PS} {a0 p1 q1 : Nat} {x1 x2 z : Int} {I1 : Nat → Nat → Int} {S1 : PS} (hr1 : S.1 a0 5 = some (0, q1, p1)) (hi2 : 0 ≤ x2 ∧ x2 < (q1 : Nat)) (c : Ca d mJ6_bitCount_0f7a4 [vI (I p1 x2.toNat)] (I, S) (.inl (some (vI z))) (I1, S1)) (k : Ev (d + 1) mX3_edgeCount (22, [some (vR (some (14, 0, a0))), some (vI x1), some (vI x2)], [vI z, vI x1], (I1, S1)) r) : Ev (d + 1) mX3_edgeCount (12, [some (vR (some (14, 0, a0))), some (vI x1), some (vI x2)], [], (I, S)) r :=
  s_iload_n rfl rfl rfl <|
  s_aload_n rfl rfl rfl <|
  s_getR rfl rfl rfl hr1 <|
  s_iload_n rfl rfl rfl <|
  s_iald rfl rfl hi2 <|
  s_csI rfl rfl rfl rfl rfl rfl c k
theorem b_X3_edgeCount_22 {d : Nat} {r : PO × PM} {I : Nat → Nat → Int} {S : PS} {a0 : Nat} {x1 x2 xs0 xs1 : Int} (ho1 : -2147483648 ≤ xs0 + xs1 ∧ xs0 + xs1 ≤ 2147483647) (ho2 : -2147483648 ≤ x2 + 1 ∧ x2 + 1 ≤ 2147483647) (k : Ev d mX3_edgeCount (4, [some (vR (some (14, 0, a0))), some (vI (xs0 + xs1)), some (vI (x2 + 1))], [], (I, S)) r) : Ev d mX3_edgeCount (22, [some (vR (some (14, 0, a0))), some (vI x1), some (vI x2)], [vI xs1, vI xs0], (I, S)) r :=
  s_iaddp rfl ho1 <|
  s_istore_n [some (vR (some (14, 0, a0))), some (vI (xs0 + xs1)), some (vI x2)] rfl rfl <|
  s_iincp [some (vR (some (14, 0, a0))), some (vI (xs0 + xs1)), some (vI (x2 + 1))] rfl rfl ho2 rfl <|
  s_goto 4 rfl rfl k
theorem b_X3_edgeCount_30 {d : Nat} {I : Nat → Nat → Int} {S : PS} {a0 : Nat} {x1 x2 : Int} (hd1 : (0 ≤ x1 ∧ x1 ≤ 2147483647) ∧ 0 < (2 : Int) ∧ (2 : Int) ≤ 2147483647) : Ev d mX3_edgeCount (30, [some (vR (some (14, 0, a0))), some (vI x1), some (vI x2)], [], (I, S)) (.inl (some (vI (x1 / 2))), (I, S)) :=
  s_iload_n rfl rfl rfl <|
  s_iconst rfl rfl <|
  s_idivp rfl hd1 <|
  s_ret rfl rfl
theorem b_X3_isHeldBy_0 {d : Nat} {r : PO × PM} {I : Nat → Nat → Int} {S : PS} {a0 n2 a2 : Nat} {x1 : Int} (kt : x1 = I a0 0 → Ev d mX3_isHeldBy (10, [some (vR (some (14, 0, a0))), some (vI x1), some (vR (some (0, n2, a2))), none], [], (I, S)) r) (kf : x1 ≠ I a0 0 → Ev d mX3_isHeldBy (8, [some (vR (some (14, 0, a0))), some (vI x1), some (vR (some (0, n2, a2))), none], [], (I, S)) r) : Ev d mX3_isHeldBy (0, [some (vR (some (14, 0, a0))), some (vI x1), some (vR (some (0, n2, a2))), none], [], (I, S)) r :=
  s_iload_n rfl rfl rfl <|
  s_aload_n rfl rfl rfl <|
  s_getI rfl rfl rfl <|
  s_icmp_eq 10 rfl rfl kt kf
theorem b_X3_isHeldBy_8 {d : Nat} {I : Nat → Nat → Int} {S : PS} {a0 n2 a2 : Nat} {x1 : Int} : Ev d mX3_isHeldBy (8, [some (vR (some (14, 0, a0))), some (vI x1), some (vR (some (0, n2, a2))), none], [], (I, S)) (.inl (some (vI 0)), (I, S)) :=
  s_iconst rfl rfl <|
  s_ret rfl rfl
theorem b_X3_isHeldBy_10 {d : Nat} {r : PO × PM} {I : Nat → Nat → Int} {S : PS} {a0 n2 a2 : Nat} {x1 : Int} (k : Ev d mX3_isHeldBy (12, [some (vR (some (14, 0, a0))), some (vI x1), some (vR (some (0, n2, a2))), some (vI 0)], [], (I, S)) r) : Ev d mX3_isHeldBy (10, [some (vR (some (14, 0, a0))), some (vI x1), some (vR (some (0, n2, a2))), none], [], (I, S)) r :=
  s_iconst rfl rfl <|
  s_istore_n [some (vR (some (14, 0, a0))), some (vI x1), some (vR (some (0, n2, a2))), some (vI 0)] rfl rfl <|
  k
theorem b_X3_isHeldBy_12 {d : Nat} {r : PO × PM} {I : Nat → Nat → Int} {S : PS} {a0 n2 a2 : Nat} {x1 x3 : Int} (kt : x1 ≤ x3 → Ev d mX3_isHeldBy (49, [some (vR (some (14, 0, a0))), some (vI x1), some (vR (some (0, n2, a2))), some (vI x3)], [], (I, S)) r) (kf : x3 < x1 → Ev d mX3_isHeldBy (17, [some (vR (some (14, 0, a0))), some (vI x1), some (vR (some (0, n2, a2))), some (vI x3)], [], (I, S)) r) : Ev d mX3_isHeldBy (12, [some (vR (some (14, 0, a0))), some (vI x1), some (vR (some (0, n2, a2))), some (vI x3)], [], (I, S)) r :=
  s_iload_n rfl rfl rfl <|
  s_iload_n rfl rfl rfl <|
  s_icmp_ge 49 rfl rfl kt kf
theorem b_X3_isHeldBy_17 {d : Nat} {r : PO × PM} {I : Nat → Nat → Int} {S : PS} {a0 n2 a2 : Nat} {x1 x3 z : Int} {I1 : Nat → Nat → Int} {S1 : PS} (c : Ca d mX3_standsAt [vR (some (14, 0, a0)), vI x3, vI 1, vI x1, vR (some (0, n2, a2))] (I, S) (.inl (some (vI z))) (I1, S1)) (k : Ev (d + 1) mX3_isHeldBy (25, [some (vR (some (14, 0, a0))), some (vI x1), some (vR (some (0, n2, a2))), some (vI x3)], [vI z], (I1, S1)) r) : Ev (d + 1) mX3_isHeldBy (17, [some (vR (some (14, 0, a0))), some (vI x1), some (vR (some (0, n2, a2))), some (vI x3)], [], (I, S)) r :=
  s_aload_n rfl rfl rfl <|
  s_iload_n rfl rfl rfl <|
  s_iconst rfl rfl <|
  s_iload_n rfl rfl rfl <|
  s_aload_n rfl rfl rfl <|
  s_cvI rfl rfl rfl rfl rfl c k
theorem b_X3_isHeldBy_25 {d : Nat} {r : PO × PM} {I : Nat → Nat → Int} {S : PS} {a0 n2 a2 : Nat} {x1 x3 xs0 : Int} (kt : xs0 ≠ 0 → Ev d mX3_isHeldBy (41, [some (vR (some (14, 0, a0))), some (vI x1), some (vR (some (0, n2, a2))), some (vI x3)], [], (I, S)) r) (kf : xs0 = 0 → Ev d mX3_isHeldBy (28, [some (vR (some (14, 0, a0))), some (vI x1), some (vR (some (0, n2, a2))), some (vI x3)], [], (I, S)) r) : Ev d mX3_isHeldBy (25, [some (vR (some (14, 0, a0))), some (vI x1), some (vR (some (0, n2, a2))), some (vI x3)], [vI xs0], (I, S)) r :=
  s_if_ne 41 rfl rfl kt kf
theorem b_X3_isHeldBy_28 {d : Nat} {r : PO × PM} {I : Nat → Nat → Int} {S : PS} {a0 n2 a2 : Nat} {x1 x3 z : Int} {I1 : Nat → Nat → Int} {S1 : PS} (ho1 : -2147483648 ≤ x1 - 1 ∧ x1 - 1 ≤ 2147483647) (c : Ca d mX3_standsAt [vR (some (14, 0, a0)), vI x3, vI (x1 - 1), vI x1, vR (some (0, n2, a2))] (I, S) (.inl (some (vI z))) (I1, S1)) (k : Ev (d + 1) mX3_isHeldBy (38, [some (vR (some (14, 0, a0))), some (vI x1), some (vR (some (0, n2, a2))), some (vI x3)], [vI z], (I1, S1)) r) : Ev (d + 1) mX3_isHeldBy (28, [some (vR (some (14, 0, a0))), some (vI x1), some (vR (some (0, n2, a2))), some (vI x3)], [], (I, S)) r :=
  s_aload_n rfl rfl rfl <|
  s_iload_n rfl rfl rfl <|
  s_iload_n rfl rfl rfl <|
  s_iconst rfl rfl <|
  s_isubp rfl ho1 <|
  s_iload_n rfl rfl rfl <|
  s_aload_n rfl rfl rfl <|
  s_cvI rfl rfl rfl rfl rfl c k
theorem b_X3_isHeldBy_38 {d : Nat} {r : PO × PM} {I : Nat → Nat → Int} {S : PS} {a0 n2 a2 : Nat} {x1 x3 xs0 : Int} (kt : xs0 = 0 → Ev d mX3_isHeldBy (43, [some (vR (some (14, 0, a0))), some (vI x1), some (vR (some (0, n2, a2))), some (vI x3)], [], (I, S)) r) (kf : xs0 ≠ 0 → Ev d mX3_isHeldBy (41, [some (vR (some (14, 0, a0))), some (vI x1), some (vR (some (0, n2, a2))), some (vI x3)], [], (I, S)) r) : Ev d mX3_isHeldBy (38, [some (vR (some (14, 0, a0))), some (vI x1), some (vR (some (0, n2, a2))), some (vI x3)], [vI xs0], (I, S)) r :=
  s_if_eq 43 rfl rfl kt kf
theorem b_X3_isHeldBy_41 {d : Nat} {I : Nat → Nat → Int} {S : PS} {a0 n2 a2 : Nat} {x1 x3 : Int} : Ev d mX3_isHeldBy (41, [some (vR (some (14, 0, a0))), some (vI x1), some (vR (some (0, n2, a2))), some (vI x3)], [], (I, S)) (.inl (some (vI 1)), (I, S)) :=
  s_iconst rfl rfl <|
  s_ret rfl rfl
theorem b_X3_isHeldBy_43 {d : Nat} {r : PO × PM} {I : Nat → Nat → Int} {S : PS} {a0 n2 a2 : Nat} {x1 x3 : Int} (ho1 : -2147483648 ≤ x3 + 1 ∧ x3 + 1 ≤ 2147483647) (k : Ev d mX3_isHeldBy (12, [some (vR (some (14, 0, a0))), some (vI x1), some (vR (some (0, n2, a2))), some (vI (x3 + 1))], [], (I, S)) r) : Ev d mX3_isHeldBy (43, [some (vR (some (14, 0, a0))), some (vI x1), some (vR (some (0, n2, a2))), some (vI x3)], [], (I, S)) r :=
  s_iincp [some (vR (some (14, 0, a0))), some (vI x1), some (vR (some (0, n2, a2))), some (vI (x3 + 1))] rfl rfl ho1 rfl <|
  s_goto 12 rfl rfl k
theorem b_X3_isHeldBy_49 {d : Nat} {I : Nat → Nat → Int} {S : PS} {a0 n2 a2 : Nat} {x1 x3 : Int} : Ev d mX3_isHeldBy (49, [some (vR (some (14, 0, a0))), some (vI x1), some (vR (some (0, n2, a2))), some (vI x3)], [], (I, S)) (.inl (some (vI 0)), (I, S)) :=
  s_iconst rfl rfl <|
  s_ret rfl rfl
theorem b_X3_standsAt_0 {d : Nat} {r : PO × PM} {I : Nat → Nat → Int} {S : PS} {a0 n4 a4 : Nat} {x1 x2 x3 : Int} (k : Ev d mX3_standsAt (6, [some (vR (some (14, 0, a0))), some (vI x1), some (vI x2), some (vI x3), some (vR (some (0, n4, a4))), some (vI x1), some (vI 0)], [], (I, S)) r) : Ev d mX3_standsAt (0, [some (vR (some (14, 0, a0))), some (vI x1), some (vI x2), some (vI x3), some (vR (some (0, n4, a4))), none, none], [], (I, S)) r :=
  s_iload_n rfl rfl rfl <|
  s_istore [some (vR (some (14, 0, a0))), some (vI x1), some (vI x2), some (vI x3), some (vR (some (0, n4, a4))), some (vI x1), none] rfl rfl <|
  s_iconst rfl rfl <|
  s_istore [some (vR (some (14, 0, a0))), some (vI x1), some (vI x2), some (vI x3), some (vR (some (0, n4, a4))), some (vI x1), some (vI 0)] rfl rfl <|
  k
theorem b_X3_standsAt_6 {d : Nat} {r : PO × PM} {I : Nat → Nat → Int} {S : PS} {a0 n4 a4 : Nat} {x1 x2 x3 x5 x6 : Int} (kt : I a0 1 ≤ x6 → Ev d mX3_standsAt (56, [some (vR (some (14, 0, a0))), some (vI x1), some (vI x2), some (vI x3), some (vR (some (0, n4, a4))), some (vI x5), some (vI x6)], [], (I, S)) r) (kf : x6 < I a0 1 → Ev d mX3_standsAt (15, [some (vR (some (14, 0, a0))), some (vI x1), some (vI x2), some (vI x3), some (vR (some (0, n4, a4))), some (vI x5), some (vI x6)], [], (I, S)) r) : Ev d mX3_standsAt (6, [some (vR (some (14, 0, a0))), some (vI x1), some (vI x2), some (vI x3), some (vR (some (0, n4, a4))), some (vI x5), some (vI x6)], [], (I, S)) r :=
  s_iload rfl rfl rfl <|
  s_aload_n rfl rfl rfl <|
  s_getI rfl rfl rfl <|
  s_icmp_ge 56 rfl rfl kt kf
theorem b_X3_standsAt_15 {d : Nat} {r : PO × PM} {I : Nat → Nat → Int} {S : PS} {a0 n4 a4 p2 q2 : Nat} {x1 x2 x3 x5 x6 : Int} (hi1 : 0 ≤ x5 ∧ x5 < (n4 : Nat)) (hr2 : S.1 a0 2 = some (0, q2, p2)) (hi3 : 0 ≤ x6 ∧ x6 < (q2 : Nat)) (kt : I a4 x5.toNat = I p2 x6.toNat → Ev d mX3_standsAt (32, [some (vR (some (14, 0, a0))), some (vI x1), some (vI x2), some (vI x3), some (vR (some (0, n4, a4))), some (vI x5), some (vI x6)], [], (I, S)) r) (kf : I a4 x5.toNat ≠ I p2 x6.toNat → Ev d mX3_standsAt (30, [some (vR (some (14, 0, a0))), some (vI x1), some (vI x2), some (vI x3), some (vR (some (0, n4, a4))), some (vI x5), some (vI x6)], [], (I, S)) r) : Ev d mX3_standsAt (15, [some (vR (some (14, 0, a0))), some (vI x1), some (vI x2), some (vI x3), some (vR (some (0, n4, a4))), some (vI x5), some (vI x6)], [], (I, S)) r :=
  s_aload rfl rfl rfl <|
  s_iload rfl rfl rfl <|
  s_iald rfl rfl hi1 <|
  s_aload_n rfl rfl rfl <|
  s_getR rfl rfl rfl hr2 <|
  s_iload rfl rfl rfl <|
  s_iald rfl rfl hi3 <|
  s_icmp_eq 32 rfl rfl kt kf
theorem b_X3_standsAt_30 {d : Nat} {I : Nat → Nat → Int} {S : PS} {a0 n4 a4 : Nat} {x1 x2 x3 x5 x6 : Int} : Ev d mX3_standsAt (30, [some (vR (some (14, 0, a0))), some (vI x1), some (vI x2), some (vI x3), some (vR (some (0, n4, a4))), some (vI x5), some (vI x6)], [], (I, S)) (.inl (some (vI 0)), (I, S)) :=
  s_iconst rfl rfl <|
  s_ret rfl rfl
theorem b_X3_standsAt_32 {d : Nat} {r : PO × PM} {I : Nat → Nat → Int} {S : PS} {a0 n4 a4 : Nat} {x1 x2 x3 x5 x6 : Int} (ho1 : -2147483648 ≤ x5 + x2 ∧ x5 + x2 ≤ 2147483647) (kt : x5 + x2 < x3 → Ev d mX3_standsAt (50, [some (vR (some (14, 0, a0))), some (vI x1), some (vI x2), some (vI x3), some (vR (some (0, n4, a4))), some (vI (x5 + x2)), some (vI x6)], [], (I, S)) r) (kf : x3 ≤ x5 + x2 → Ev d mX3_standsAt (44, [some (vR (some (14, 0, a0))), some (vI x1), some (vI x2), some (vI x3), some (vR (some (0, n4, a4))), some (vI (x5 + x2)), some (vI x6)], [], (I, S)) r) : Ev d mX3_standsAt (32, [some (vR (some (14, 0, a0))), some (vI x1), some (vI x2), some (vI x3), some (vR (some (0, n4, a4))), some (vI x5), some (vI x6)], [], (I, S)) r :=
  s_iload rfl rfl rfl <|
  s_iload_n rfl rfl rfl <|
  s_iaddp rfl ho1 <|
  s_istore [some (vR (some (14, 0, a0))), some (vI x1), some (vI x2), some (vI x3), some (vR (some (0, n4, a4))), some (vI (x5 + x2)), some (vI x6)] rfl rfl <|
  s_iload rfl rfl rfl <|
  s_iload_n rfl rfl rfl <|
  s_icmp_lt 50 rfl rfl kt kf
theorem b_X3_standsAt_44 {d : Nat} {r : PO × PM} {I : Nat → Nat → Int} {S : PS} {a0 n4 a4 : Nat} {x1 x2 x3 x5 x6 : Int} (ho1 : -2147483648 ≤ x5 - x3 ∧ x5 - x3 ≤ 2147483647) (k : Ev d mX3_standsAt (50, [some (vR (some (14, 0, a0))), some (vI x1), some (vI x2), some (vI x3), some (vR (some (0, n4, a4))), some (vI (x5 - x3)), some (vI x6)], [], (I, S)) r) : Ev d mX3_standsAt (44, [some (vR (some (14, 0, a0))), some (vI x1), some (vI x2), some (vI x3), some (vR (some (0, n4, a4))), some (vI x5), some (vI x6)], [], (I, S)) r :=
  s_iload rfl rfl rfl <|
  s_iload_n rfl rfl rfl <|
  s_isubp rfl ho1 <|
  s_istore [some (vR (some (14, 0, a0))), some (vI x1), some (vI x2), some (vI x3), some (vR (some (0, n4, a4))), some (vI (x5 - x3)), some (vI x6)] rfl rfl <|
  k
theorem b_X3_standsAt_50 {d : Nat} {r : PO × PM} {I : Nat → Nat → Int} {S : PS} {a0 n4 a4 : Nat} {x1 x2 x3 x5 x6 : Int} (ho1 : -2147483648 ≤ x6 + 1 ∧ x6 + 1 ≤ 2147483647) (k : Ev d mX3_standsAt (6, [some (vR (some (14, 0, a0))), some (vI x1), some (vI x2), some (vI x3), some (vR (some (0, n4, a4))), some (vI x5), some (vI (x6 + 1))], [], (I, S)) r) : Ev d mX3_standsAt (50, [some (vR (some (14, 0, a0))), some (vI x1), some (vI x2), some (vI x3), some (vR (some (0, n4, a4))), some (vI x5), some (vI x6)], [], (I, S)) r :=
  s_iincp [some (vR (some (14, 0, a0))), some (vI x1), some (vI x2), some (vI x3), some (vR (some (0, n4, a4))), some (vI x5), some (vI (x6 + 1))] rfl rfl ho1 rfl <|
  s_goto 6 rfl rfl k
theorem b_X3_standsAt_56 {d : Nat} {I : Nat → Nat → Int} {S : PS} {a0 n4 a4 : Nat} {x1 x2 x3 x5 x6 : Int} : Ev d mX3_standsAt (56, [some (vR (some (14, 0, a0))), some (vI x1), some (vI x2), some (vI x3), some (vR (some (0, n4, a4))), some (vI x5), some (vI x6)], [], (I, S)) (.inl (some (vI 1)), (I, S)) :=
  s_iconst rfl rfl <|
  s_ret rfl rfl
theorem b_X3_study_0 {d : Nat} {r : PO × PM} {I : Nat → Nat → Int} {S : PS} {a0 a1 p1 q1 : Nat} {I1 : Nat → Nat → Int} {S1 : PS} (hr1 : S.1 a0 11 = some (0, q1, p1)) (c : Ca d mJ7_fill_53178 [vR (some (0, q1, p1)), vI 0] (I, S) (.inl none) (I1, S1)) (k : Ev (d + 1) mX3_study (8, [some (vR (some (14, 0, a0))), some (vR (some (16, 0, a1))), none, none], [], (I1, S1)) r) : Ev (d + 1) mX3_study (0, [some (vR (some (14, 0, a0))), some (vR (some (16, 0, a1))), none, none], [], (I, S)) r :=
  s_aload_n rfl rfl rfl <|
  s_getR rfl rfl rfl hr1 <|
  s_iconst rfl rfl <|
  s_csV rfl rfl rfl rfl rfl rfl c k
theorem b_X3_study_8 {d : Nat} {r : PO × PM} {I : Nat → Nat → Int} {S : PS} {a0 a1 p1 q1 : Nat} {I1 : Nat → Nat → Int} {S1 : PS} (hr1 : S.1 a0 12 = some (0, q1, p1)) (c : Ca d mJ7_fill_53178 [vR (some (0, q1, p1)), vI 0] (I, S) (.inl none) (I1, S1)) (k : Ev (d + 1) mX3_study (16, [some (vR (some (14, 0, a0))), some (vR (some (16, 0, a1))), none, none], [], (I1, S1)) r) : Ev (d + 1) mX3_study (8, [some (vR (some (14, 0, a0))), some (vR (some (16, 0, a1))), none, none], [], (I, S)) r :=
  s_aload_n rfl rfl rfl <|
  s_getR rfl rfl rfl hr1 <|
  s_iconst rfl rfl <|
  s_csV rfl rfl rfl rfl rfl rfl c k
theorem b_X3_study_16 {d : Nat} {r : PO × PM} {I : Nat → Nat → Int} {S : PS} {a0 a1 p1 q1 : Nat} {I1 : Nat → Nat → Int} {S1 : PS} (hr1 : S.1 a0 13 = some (0, q1, p1)) (c : Ca d mJ7_fill_53178 [vR (some (0, q1, p1)), vI 0] (I, S) (.inl none) (I1, S1)) (k : Ev (d + 1) mX3_study (24, [some (vR (some (14, 0, a0))), some (vR (some (16, 0, a1))), none, none], [], (I1, S1)) r) : Ev (d + 1) mX3_study (16, [some (vR (some (14, 0, a0))), some (vR (some (16, 0, a1))), none, none], [], (I, S)) r :=
  s_aload_n rfl rfl rfl <|
  s_getR rfl rfl rfl hr1 <|
  s_iconst rfl rfl <|
  s_csV rfl rfl rfl rfl rfl rfl c k
theorem b_X3_study_24 {d : Nat} {r : PO × PM} {I : Nat → Nat → Int} {S : PS} {a0 a1 : Nat} (k : Ev d mX3_study (26, [some (vR (some (14, 0, a0))), some (vR (some (16, 0, a1))), some (vI 0), none], [], (I, S)) r) : Ev d mX3_study (24, [some (vR (some (14, 0, a0))), some (vR (some (16, 0, a1))), none, none], [], (I, S)) r :=
  s_iconst rfl rfl <|
  s_istore_n [some (vR (some (14, 0, a0))), some (vR (some (16, 0, a1))), some (vI 0), none] rfl rfl <|
  k
theorem b_X3_study_26 {d : Nat} {r : PO × PM} {I : Nat → Nat → Int} {S : PS} {a0 a1 : Nat} {x2 : Int} (kt : I a1 1 ≤ x2 → Ev d mX3_study (111, [some (vR (some (14, 0, a0))), some (vR (some (16, 0, a1))), some (vI x2), none], [], (I, S)) r) (kf : x2 < I a1 1 → Ev d mX3_study (34, [some (vR (some (14, 0, a0))), some (vR (some (16, 0, a1))), some (vI x2), none], [], (I, S)) r) : Ev d mX3_study (26, [some (vR (some (14, 0, a0))), some (vR (some (16, 0, a1))), some (vI x2), none], [], (I, S)) r :=
  s_iload_n rfl rfl rfl <|
  s_aload_n rfl rfl rfl <|
  s_getI rfl rfl rfl <|
  s_icmp_ge 111 rfl rfl kt kf
theorem b_X3_study_34 {d : Nat} {r : PO × PM} {I : Nat → Nat → Int} {S : PS} {a0 a1 p1 q1 : Nat} {x2 z : Int} {I1 : Nat → Nat → Int} {S1 : PS} (hr1 : S.1 a1 2 = some (0, q1, p1)) (hi2 : 0 ≤ x2 ∧ x2 < (q1 : Nat)) (c : Ca d mX3_fillRing [vR (some (14, 0, a0)), vR (some (16, 0, a1)), vI (I p1 x2.toNat), vI 0] (I, S) (.inl (some (vI z))) (I1, S1)) (k : Ev (d + 1) mX3_study (46, [some (vR (some (14, 0, a0))), some (vR (some (16, 0, a1))), some (vI x2), none], [vI z], (I1, S1)) r) : Ev (d + 1) mX3_study (34, [some (vR (some (14, 0, a0))), some (vR (some (16, 0, a1))), some (vI x2), none], [], (I, S)) r :=
  s_aload_n rfl rfl rfl <|
  s_aload_n rfl rfl rfl <|
  s_aload_n rfl rfl rfl <|
  s_getR rfl rfl rfl hr1 <|
  s_iload_n rfl rfl rfl <|
  s_iald rfl rfl hi2 <|
  s_iconst rfl rfl <|
  s_cvI rfl rfl rfl rfl rfl c k
theorem b_X3_study_46 {d : Nat} {r : PO × PM} {I : Nat → Nat → Int} {S : PS} {a0 a1 p1 q1 : Nat} {x2 xs0 : Int} (hr1 : S.1 a0 10 = some (1, q1, p1)) (kt : xs0 = 0 → Ev d mX3_study (60, [some (vR (some (14, 0, a0))), some (vR (some (16, 0, a1))), some (vI x2), some (vI xs0)], [vI x2, vR (some (1, q1, p1))], (I, S)) r) (kf : xs0 ≠ 0 → Ev d mX3_study (56, [some (vR (some (14, 0, a0))), some (vR (some (16, 0, a1))), some (vI x2), some (vI xs0)], [vI x2, vR (some (1, q1, p1))], (I, S)) r) : Ev d mX3_study (46, [some (vR (some (14, 0, a0))), some (vR (some (16, 0, a1))), some (vI x2), none], [vI xs0], (I, S)) r :=
  s_istore_n [some (vR (some (14, 0, a0))), some (vR (some (16, 0, a1))), some (vI x2), some (vI xs0)] rfl rfl <|
  s_aload_n rfl rfl rfl <|
  s_getR rfl rfl rfl hr1 <|
  s_iload_n rfl rfl rfl <|
  s_iload_n rfl rfl rfl <|
  s_if_eq 60 rfl rfl kt kf
theorem b_X3_study_56 {d : Nat} {r : PO × PM} {I : Nat → Nat → Int} {S : PS} {a0 a1 ns0 as0 : Nat} {x2 x3 xs1 : Int} (k : Ev d mX3_study (61, [some (vR (some (14, 0, a0))), some (vR (some (16, 0, a1))), some (vI x2), some (vI x3)], [vI 0, vI xs1, vR (some (1, ns0, as0))], (I, S)) r) : Ev d mX3_study (56, [some (vR (some (14, 0, a0))), some (vR (some (16, 0, a1))), some (vI x2), some (vI x3)], [vI xs1, vR (some (1, ns0, as0))], (I, S)) r :=
  s_iconst rfl rfl <|
  s_goto 61 rfl rfl k
theorem b_X3_study_60 {d : Nat} {r : PO × PM} {I : Nat → Nat → Int} {S : PS} {a0 a1 ns0 as0 : Nat} {x2 x3 xs1 : Int} (k : Ev d mX3_study (61, [some (vR (some (14, 0, a0))), some (vR (some (16, 0, a1))), some (vI x2), some (vI x3)], [vI (-1), vI xs1, vR (some (1, ns0, as0))], (I, S)) r) : Ev d mX3_study (60, [some (vR (some (14, 0, a0))), some (vR (some (16, 0, a1))), some (vI x2), some (vI x3)], [vI xs1, vR (some (1, ns0, as0))], (I, S)) r :=
  s_iconst rfl rfl <|
  k
theorem b_X3_study_61 {d : Nat} {r : PO × PM} {I : Nat → Nat → Int} {S : PS} {a0 a1 ns0 as0 : Nat} {x2 x3 xs1 xs2 : Int} (hi1 : 0 ≤ xs1 ∧ xs1 < (ns0 : Nat)) (kt : x3 = 0 → Ev d mX3_study (75, [some (vR (some (14, 0, a0))), some (vR (some (16, 0, a1))), some (vI x2), some (vI x3)], [], ((up2 I as0 (xs1.toNat) (p_i2b (p_i2b xs2))), S)) r) (kf : x3 ≠ 0 → Ev d mX3_study (67, [some (vR (some (14, 0, a0))), some (vR (some (16, 0, a1))), some (vI x2), some (vI x3)], [], ((up2 I as0 (xs1.toNat) (p_i2b (p_i2b xs2))), S)) r) : Ev d mX3_study (61, [some (vR (some (14, 0, a0))), some (vR (some (16, 0, a1))), some (vI x2), some (vI x3)], [vI xs2, vI xs1, vR (some (1, ns0, as0))], (I, S)) r :=
  s_i2b rfl <|
  s_bast rfl hi1 <|
  s_iload_n rfl rfl rfl <|
  s_if_eq 75 rfl rfl kt kf
theorem b_X3_study_67 {d : Nat} {r : PO × PM} {I : Nat → Nat → Int} {S : PS} {a0 a1 p1 q1 : Nat} {x2 x3 : Int} {I1 : Nat → Nat → Int} {S1 : PS} (hr1 : S.1 a0 11 = some (0, q1, p1)) (c : Ca d mX3_include [vR (some (0, q1, p1)), vI x2] (I, S) (.inl none) (I1, S1)) (k : Ev (d + 1) mX3_study (75, [some (vR (some (14, 0, a0))), some (vR (some (16, 0, a1))), some (vI x2), some (vI x3)], [], (I1, S1)) r) : Ev (d + 1) mX3_study (67, [some (vR (some (14, 0, a0))), some (vR (some (16, 0, a1))), some (vI x2), some (vI x3)], [], (I, S)) r :=
  s_aload_n rfl rfl rfl <|
  s_getR rfl rfl rfl hr1 <|
  s_iload_n rfl rfl rfl <|
  s_csV rfl rfl rfl rfl rfl rfl c k
theorem b_X3_study_75 {d : Nat} {r : PO × PM} {I : Nat → Nat → Int} {S : PS} {a0 a1 : Nat} {x2 x3 : Int} (kt : I a0 6 ≤ 0 → Ev d mX3_study (105, [some (vR (some (14, 0, a0))), some (vR (some (16, 0, a1))), some (vI x2), some (vI x3)], [], (I, S)) r) (kf : 0 < I a0 6 → Ev d mX3_study (82, [some (vR (some (14, 0, a0))), some (vR (some (16, 0, a1))), some (vI x2), some (vI x3)], [], (I, S)) r) : Ev d mX3_study (75, [some (vR (some (14, 0, a0))), some (vR (some (16, 0, a1))), some (vI x2), some (vI x3)], [], (I, S)) r :=
  s_aload_n rfl rfl rfl <|
  s_getI rfl rfl rfl <|
  s_if_le 105 rfl rfl kt kf
theorem b_X3_study_82 {d : Nat} {r : PO × PM} {I : Nat → Nat → Int} {S : PS} {a0 a1 p1 q1 : Nat} {x2 x3 z : Int} {I1 : Nat → Nat → Int} {S1 : PS} (hr1 : S.1 a1 2 = some (0, q1, p1)) (hi2 : 0 ≤ x2 ∧ x2 < (q1 : Nat)) (c : Ca d mX3_fillRing [vR (some (14, 0, a0)), vR (some (16, 0, a1)), vI (I p1 x2.toNat), vI 1] (I, S) (.inl (some (vI z))) (I1, S1)) (k : Ev (d + 1) mX3_study (94, [some (vR (some (14, 0, a0))), some (vR (some (16, 0, a1))), some (vI x2), some (vI x3)], [vI z], (I1, S1)) r) : Ev (d + 1) mX3_study (82, [some (vR (some (14, 0, a0))), some (vR (some (16, 0, a1))), some (vI x2), some (vI x3)], [], (I, S)) r :=
  s_aload_n rfl rfl rfl <|
  s_aload_n rfl rfl rfl <|
  s_aload_n rfl rfl rfl <|
  s_getR rfl rfl rfl hr1 <|
  s_iload_n rfl rfl rfl <|
  s_iald rfl rfl hi2 <|
  s_iconst rfl rfl <|
  s_cvI rfl rfl rfl rfl rfl c k
theorem b_X3_study_94 {d : Nat} {r : PO × PM} {I : Nat → Nat → Int} {S : PS} {a0 a1 : Nat} {x2 x3 xs0 : Int} (kt : xs0 = 0 → Ev d mX3_study (105, [some (vR (some (14, 0, a0))), some (vR (some (16, 0, a1))), some (vI x2), some (vI x3)], [], (I, S)) r) (kf : xs0 ≠ 0 → Ev d mX3_study (97, [some (vR (some (14, 0, a0))), some (vR (some (16, 0, a1))), some (vI x2), some (vI x3)], [], (I, S)) r) : Ev d mX3_study (94, [some (vR (some (14, 0, a0))), some (vR (some (16, 0, a1))), some (vI x2), some (vI x3)], [vI xs0], (I, S)) r :=
  s_if_eq 105 rfl rfl kt kf
theorem b_X3_study_97 {d : Nat} {r : PO × PM} {I : Nat → Nat → Int} {S : PS} {a0 a1 p1 q1 : Nat} {x2 x3 : Int} {I1 : Nat → Nat → Int} {S1 : PS} (hr1 : S.1 a0 13 = some (0, q1, p1)) (c : Ca d mX3_include [vR (some (0, q1, p1)), vI x2] (I, S) (.inl none) (I1, S1)) (k : Ev (d + 1) mX3_study (105, [some (vR (some (14, 0, a0))), some (vR (some (16, 0, a1))), some (vI x2), some (vI x3)], [], (I1, S1)) r) : Ev (d + 1) mX3_study (97, [some (vR (some (14, 0, a0))), some (vR (some (16, 0, a1))), some (vI x2), some (vI x3)], [], (I, S)) r :=
  s_aload_n rfl rfl rfl <|
  s_getR rfl rfl rfl hr1 <|
  s_iload_n rfl rfl rfl <|
  s_csV rfl rfl rfl rfl rfl rfl c k
theorem b_X3_study_105 {d : Nat} {r : PO × PM} {I : Nat → Nat → Int} {S : PS} {a0 a1 : Nat} {x2 x3 : Int} (ho1 : -2147483648 ≤ x2 + 1 ∧ x2 + 1 ≤ 2147483647) (k : Ev d mX3_study (26, [some (vR (some (14, 0, a0))), some (vR (some (16, 0, a1))), some (vI (x2 + 1)), none], [], (I, S)) r) : Ev d mX3_study (105, [some (vR (some (14, 0, a0))), some (vR (some (16, 0, a1))), some (vI x2), some (vI x3)], [], (I, S)) r :=
  s_iincp [some (vR (some (14, 0, a0))), some (vR (some (16, 0, a1))), some (vI (x2 + 1)), some (vI x3)] rfl rfl ho1 rfl <|
  s_goto 26 rfl rfl (ev_forget [false, false, false, true] rfl k)
theorem b_X3_study_111 {d : Nat} {r : PO × PM} {I : Nat → Nat → Int} {S : PS} {a0 a1 : Nat} {x2 : Int} (k : Ev d mX3_study (118, [some (vR (some (14, 0, a0))), some (vR (some (16, 0, a1))), some (vI 1), none], [], ((up2 I a0 14 0), S)) r) : Ev d mX3_study (111, [some (vR (some (14, 0, a0))), some (vR (some (16, 0, a1))), some (vI x2), none], [], (I, S)) r :=
  s_aload_n rfl rfl rfl <|
  s_iconst rfl rfl <|
  s_putI rfl rfl rfl <|
  s_iconst rfl rfl <|
  s_istore_n [some (vR (some (14, 0, a0))), some (vR (some (16, 0, a1))), some (vI 1), none] rfl rfl <|
  k
theorem b_X3_study_118 {d : Nat} {r : PO × PM} {I : Nat → Nat → Int} {S : PS} {a0 a1 : Nat} {x2 : Int} (kt : I a1 1 < x2 → Ev d mX3_study (146, [some (vR (some (14, 0, a0))), some (vR (some (16, 0, a1))), some (vI x2), none], [], (I, S)) r) (kf : x2 ≤ I a1 1 → Ev d mX3_study (126, [some (vR (some (14, 0, a0))), some (vR (some (16, 0, a1))), some (vI x2), none], [], (I, S)) r) : Ev d mX3_study (118, [some (vR (some (14, 0, a0))), some (vR (some (16, 0, a1))), some (vI x2), none], [], (I, S)) r :=
  s_iload_n rfl rfl rfl <|
  s_aload_n rfl rfl rfl <|
  s_getI rfl rfl rfl <|
  s_icmp_gt 146 rfl rfl kt kf
theorem b_X3_study_126 {d : Nat} {r : PO × PM} {I : Nat → Nat → Int} {S : PS} {a0 a1 : Nat} {x2 z : Int} {I1 : Nat → Nat → Int} {S1 : PS} (c : Ca d mX3_addLevel [vR (some (14, 0, a0)), vR (some (16, 0, a1)), vI x2] (I, S) (.inl (some (vI z))) (I1, S1)) (k : Ev (d + 1) mX3_study (132, [some (vR (some (14, 0, a0))), some (vR (some (16, 0, a1))), some (vI x2), none], [vI z], (I1, S1)) r) : Ev (d + 1) mX3_study (126, [some (vR (some (14, 0, a0))), some (vR (some (16, 0, a1))), some (vI x2), none], [], (I, S)) r :=
  s_aload_n rfl rfl rfl <|
  s_aload_n rfl rfl rfl <|
  s_iload_n rfl rfl rfl <|
  s_cvI rfl rfl rfl rfl rfl c k
theorem b_X3_study_132 {d : Nat} {r : PO × PM} {I : Nat → Nat → Int} {S : PS} {a0 a1 : Nat} {x2 xs0 : Int} (kt : xs0 = 0 → Ev d mX3_study (146, [some (vR (some (14, 0, a0))), some (vR (some (16, 0, a1))), some (vI x2), none], [], (I, S)) r) (kf : xs0 ≠ 0 → Ev d mX3_study (135, [some (vR (some (14, 0, a0))), some (vR (some (16, 0, a1))), some (vI x2), none], [], (I, S)) r) : Ev d mX3_study (132, [some (vR (some (14, 0, a0))), some (vR (some (16, 0, a1))), some (vI x2), none], [vI xs0], (I, S)) r :=
  s_if_eq 146 rfl rfl kt kf
theorem b_X3_study_135 {d : Nat} {r : PO × PM} {I : Nat → Nat → Int} {S : PS} {a0 a1 : Nat} {x2 : Int} (ho1 : -2147483648 ≤ x2 + 1 ∧ x2 + 1 ≤ 2147483647) (k : Ev d mX3_study (118, [some (vR (some (14, 0, a0))), some (vR (some (16, 0, a1))), some (vI (x2 + 1)), none], [], ((up2 I a0 14 x2), S)) r) : Ev d mX3_study (135, [some (vR (some (14, 0, a0))), some (vR (some (16, 0, a1))), some (vI x2), none], [], (I, S)) r :=
  s_aload_n rfl rfl rfl <|
  s_iload_n rfl rfl rfl <|
  s_putI rfl rfl rfl <|
  s_iincp [some (vR (some (14, 0, a0))), some (vR (some (16, 0, a1))), some (vI (x2 + 1)), none] rfl rfl ho1 rfl <|
  s_goto 118 rfl rfl k
theorem b_X3_study_146 {d : Nat} {r : PO × PM} {I : Nat → Nat → Int} {S : PS} {a0 a1 : Nat} {x2 : Int} (k : Ev d mX3_study (148, [some (vR (some (14, 0, a0))), some (vR (some (16, 0, a1))), some (vI 0), none], [], (I, S)) r) : Ev d mX3_study (146, [some (vR (some (14, 0, a0))), some (vR (some (16, 0, a1))), some (vI x2), none], [], (I, S)) r :=
  s_iconst rfl rfl <|
  s_istore_n [some (vR (some (14, 0, a0))), some (vR (some (16, 0, a1))), some (vI 0), none] rfl rfl <|
  k
theorem b_X3_study_148 {d : Nat} {r : PO × PM} {I : Nat → Nat → Int} {S : PS} {a0 a1 : Nat} {x2 : Int} (kt : I a1 1 ≤ x2 → Ev d mX3_study (180, [some (vR (some (14, 0, a0))), some (vR (some (16, 0, a1))), some (vI x2), none], [], (I, S)) r) (kf : x2 < I a1 1 → Ev d mX3_study (156, [some (vR (some (14, 0, a0))), some (vR (some (16, 0, a1))), some (vI x2), none], [], (I, S)) r) : Ev d mX3_study (148, [some (vR (some (14, 0, a0))), some (vR (some (16, 0, a1))), some (vI x2), none], [], (I, S)) r :=
  s_iload_n rfl rfl rfl <|
  s_aload_n rfl rfl rfl <|
  s_getI rfl rfl rfl <|
  s_icmp_ge 180 rfl rfl kt kf
theorem b_X3_study_156 {d : Nat} {r : PO × PM} {I : Nat → Nat → Int} {S : PS} {a0 a1 p1 q1 : Nat} {x2 : Int} (hr1 : S.1 a0 10 = some (1, q1, p1)) (hi2 : 0 ≤ x2 ∧ x2 < (q1 : Nat)) (kt : I p1 x2.toNat ≠ (-1) → Ev d mX3_study (174, [some (vR (some (14, 0, a0))), some (vR (some (16, 0, a1))), some (vI x2), none], [], (I, S)) r) (kf : I p1 x2.toNat = (-1) → Ev d mX3_study (166, [some (vR (some (14, 0, a0))), some (vR (some (16, 0, a1))), some (vI x2), none], [], (I, S)) r) : Ev d mX3_study (156, [some (vR (some (14, 0, a0))), some (vR (some (16, 0, a1))), some (vI x2), none], [], (I, S)) r :=
  s_aload_n rfl rfl rfl <|
  s_getR rfl rfl rfl hr1 <|
  s_iload_n rfl rfl rfl <|
  s_bald rfl rfl hi2 <|
  s_iconst rfl rfl <|
  s_icmp_ne 174 rfl rfl kt kf
theorem b_X3_study_166 {d : Nat} {r : PO × PM} {I : Nat → Nat → Int} {S : PS} {a0 a1 p1 q1 : Nat} {x2 : Int} {I1 : Nat → Nat → Int} {S1 : PS} (hr1 : S.1 a0 12 = some (0, q1, p1)) (c : Ca d mX3_include [vR (some (0, q1, p1)), vI x2] (I, S) (.inl none) (I1, S1)) (k : Ev (d + 1) mX3_study (174, [some (vR (some (14, 0, a0))), some (vR (some (16, 0, a1))), some (vI x2), none], [], (I1, S1)) r) : Ev (d + 1) mX3_study (166, [some (vR (some (14, 0, a0))), some (vR (some (16, 0, a1))), some (vI x2), none], [], (I, S)) r :=
  s_aload_n rfl rfl rfl <|
  s_getR rfl rfl rfl hr1 <|
  s_iload_n rfl rfl rfl <|
  s_csV rfl rfl rfl rfl rfl rfl c k
theorem b_X3_study_174 {d : Nat} {r : PO × PM} {I : Nat → Nat → Int} {S : PS} {a0 a1 : Nat} {x2 : Int} (ho1 : -2147483648 ≤ x2 + 1 ∧ x2 + 1 ≤ 2147483647) (k : Ev d mX3_study (148, [some (vR (some (14, 0, a0))), some (vR (some (16, 0, a1))), some (vI (x2 + 1)), none], [], (I, S)) r) : Ev d mX3_study (174, [some (vR (some (14, 0, a0))), some (vR (some (16, 0, a1))), some (vI x2), none], [], (I, S)) r :=
  s_iincp [some (vR (some (14, 0, a0))), some (vR (some (16, 0, a1))), some (vI (x2 + 1)), none] rfl rfl ho1 rfl <|
  s_goto 148 rfl rfl k
theorem b_X3_study_180 {d : Nat} {I : Nat → Nat → Int} {S : PS} {a0 a1 : Nat} {x2 : Int} : Ev d mX3_study (180, [some (vR (some (14, 0, a0))), some (vR (some (16, 0, a1))), some (vI x2), none], [], (I, S)) (.inl none, ((up2 I a0 9 1), S)) :=
  s_aload_n rfl rfl rfl <|
  s_iconst rfl rfl <|
  s_putZ rfl rfl rfl (Or.inr rfl) <|
  s_vret rfl rfl
theorem b_X3_addLevel_0 {d : Nat} {r : PO × PM} {I : Nat → Nat → Int} {S : PS} {a0 a1 : Nat} {x2 : Int} (k : Ev d mX3_addLevel (5, [some (vR (some (14, 0, a0))), some (vR (some (16, 0, a1))), some (vI x2), some (vI 0), some (vI 0)], [], (I, S)) r) : Ev d mX3_addLevel (0, [some (vR (some (14, 0, a0))), some (vR (some (16, 0, a1))), some (vI x2), none, none], [], (I, S)) r :=
  s_iconst rfl rfl <|
  s_istore_n [some (vR (some (14, 0, a0))), some (vR (some (16, 0, a1))), some (vI x2), some (vI 0), none] rfl rfl <|
  s_iconst rfl rfl <|
  s_istore [some (vR (some (14, 0, a0))), some (vR (some (16, 0, a1))), some (vI x2), some (vI 0), some (vI 0)] rfl rfl <|
  k
theorem b_X3_addLevel_5 {d : Nat} {r : PO × PM} {I : Nat → Nat → Int} {S : PS} {a0 a1 : Nat} {x2 x3 x4 : Int} (kt : I a1 1 ≤ x4 → Ev d mX3_addLevel (56, [some (vR (some (14, 0, a0))), some (vR (some (16, 0, a1))), some (vI x2), some (vI x3), some (vI x4)], [], (I, S)) r) (kf : x4 < I a1 1 → Ev d mX3_addLevel (14, [some (vR (some (14, 0, a0))), some (vR (some (16, 0, a1))), some (vI x2), some (vI x3), some (vI x4)], [], (I, S)) r) : Ev d mX3_addLevel (5, [some (vR (some (14, 0, a0))), some (vR (some (16, 0, a1))), some (vI x2), some (vI x3), some (vI x4)], [], (I, S)) r :=
  s_iload rfl rfl rfl <|
  s_aload_n rfl rfl rfl <|
  s_getI rfl rfl rfl <|
  s_icmp_ge 56 rfl rfl kt kf
theorem b_X3_addLevel_14 {d : Nat} {r : PO × PM} {I : Nat → Nat → Int} {S : PS} {a0 a1 p1 q1 : Nat} {x2 x3 x4 : Int} (hr1 : S.1 a0 10 = some (1, q1, p1)) (hi2 : 0 ≤ x4 ∧ x4 < (q1 : Nat)) (kt : I p1 x4.toNat ≠ (-1) → Ev d mX3_addLevel (50, [some (vR (some (14, 0, a0))), some (vR (some (16, 0, a1))), some (vI x2), some (vI x3), some (vI x4)], [], (I, S)) r) (kf : I p1 x4.toNat = (-1) → Ev d mX3_addLevel (25, [some (vR (some (14, 0, a0))), some (vR (some (16, 0, a1))), some (vI x2), some (vI x3), some (vI x4)], [], (I, S)) r) : Ev d mX3_addLevel (14, [some (vR (some (14, 0, a0))), some (vR (some (16, 0, a1))), some (vI x2), some (vI x3), some (vI x4)], [], (I, S)) r :=
  s_aload_n rfl rfl rfl <|
  s_getR rfl rfl rfl hr1 <|
  s_iload rfl rfl rfl <|
  s_bald rfl rfl hi2 <|
  s_iconst rfl rfl <|
  s_icmp_ne 50 rfl rfl kt kf
theorem b_X3_addLevel_25 {d : Nat} {r : PO × PM} {I : Nat → Nat → Int} {S : PS} {a0 a1 p1 q1 : Nat} {x2 x3 x4 z : Int} {I1 : Nat → Nat → Int} {S1 : PS} (hr1 : S.1 a0 10 = some (1, q1, p1)) (c : Ca d mX6_leadsBelow [vR (some (16, 0, a1)), vI x4, vR (some (1, q1, p1)), vI x2] (I, S) (.inl (some (vI z))) (I1, S1)) (k : Ev (d + 1) mX3_addLevel (36, [some (vR (some (14, 0, a0))), some (vR (some (16, 0, a1))), some (vI x2), some (vI x3), some (vI x4)], [vI z], (I1, S1)) r) : Ev (d + 1) mX3_addLevel (25, [some (vR (some (14, 0, a0))), some (vR (some (16, 0, a1))), some (vI x2), some (vI x3), some (vI x4)], [], (I, S)) r :=
  s_aload_n rfl rfl rfl <|
  s_iload rfl rfl rfl <|
  s_aload_n rfl rfl rfl <|
  s_getR rfl rfl rfl hr1 <|
  s_iload_n rfl rfl rfl <|
  s_cvI rfl rfl rfl rfl rfl c k
theorem b_X3_addLevel_36 {d : Nat} {r : PO × PM} {I : Nat → Nat → Int} {S : PS} {a0 a1 : Nat} {x2 x3 x4 xs0 : Int} (kt : xs0 = 0 → Ev d mX3_addLevel (50, [some (vR (some (14, 0, a0))), some (vR (some (16, 0, a1))), some (vI x2), some (vI x3), some (vI x4)], [], (I, S)) r) (kf : xs0 ≠ 0 → Ev d mX3_addLevel (39, [some (vR (some (14, 0, a0))), some (vR (some (16, 0, a1))), some (vI x2), some (vI x3), some (vI x4)], [], (I, S)) r) : Ev d mX3_addLevel (36, [some (vR (some (14, 0, a0))), some (vR (some (16, 0, a1))), some (vI x2), some (vI x3), some (vI x4)], [vI xs0], (I, S)) r :=
  s_if_eq 50 rfl rfl kt kf
theorem b_X3_addLevel_39 {d : Nat} {r : PO × PM} {I : Nat → Nat → Int} {S : PS} {a0 a1 p1 q1 : Nat} {x2 x3 x4 : Int} (hr1 : S.1 a0 10 = some (1, q1, p1)) (hi2 : 0 ≤ x4 ∧ x4 < (q1 : Nat)) (k : Ev d mX3_addLevel (50, [some (vR (some (14, 0, a0))), some (vR (some (16, 0, a1))), some (vI x2), some (vI 1), some (vI x4)], [], ((up2 I p1 (x4.toNat) (p_i2b (p_i2b x2))), S)) r) : Ev d mX3_addLevel (39, [some (vR (some (14, 0, a0))), some (vR (some (16, 0, a1))), some (vI x2), some (vI x3), some (vI x4)], [], (I, S)) r :=
  s_aload_n rfl rfl rfl <|
  s_getR rfl rfl rfl hr1 <|
  s_iload rfl rfl rfl <|
  s_iload_n rfl rfl rfl <|
  s_i2b rfl <|
  s_bast rfl hi2 <|
  s_iconst rfl rfl <|
  s_istore_n [some (vR (some (14, 0, a0))), some (vR (some (16, 0, a1))), some (vI x2), some (vI 1), some (vI x4)] rfl rfl <|
  k
theorem b_X3_addLevel_50 {d : Nat} {r : PO × PM} {I : Nat → Nat → Int} {S : PS} {a0 a1 : Nat} {x2 x3 x4 : Int} (ho1 : -2147483648 ≤ x4 + 1 ∧ x4 + 1 ≤ 2147483647) (k : Ev d mX3_addLevel (5, [some (vR (some (14, 0, a0))), some (vR (some (16, 0, a1))), some (vI x2), some (vI x3), some (vI (x4 + 1))], [], (I, S)) r) : Ev d mX3_addLevel (50, [some (vR (some (14, 0, a0))), some (vR (some (16, 0, a1))), some (vI x2), some (vI x3), some (vI x4)], [], (I, S)) r :=
  s_iincp [some (vR (some (14, 0, a0))), some (vR (some (16, 0, a1))), some (vI x2), some (vI x3), some (vI (x4 + 1))] rfl rfl ho1 rfl <|
  s_goto 5 rfl rfl k
theorem b_X3_addLevel_56 {d : Nat} {I : Nat → Nat → Int} {S : PS} {a0 a1 : Nat} {x2 x3 x4 : Int} (hb1 : x3 = 0 ∨ x3 = 1) : Ev d mX3_addLevel (56, [some (vR (some (14, 0, a0))), some (vR (some (16, 0, a1))), some (vI x2), some (vI x3), some (vI x4)], [], (I, S)) (.inl (some (vI x3)), (I, S)) :=
  s_iload_n rfl rfl rfl <|
  s_retz rfl rfl hb1
theorem b_X3_include_0 {d : Nat} {I : Nat → Nat → Int} {S : PS} {n0 a0 : Nat} {x1 : Int} (hi1 : 0 ≤ p_shr x1 5 ∧ p_shr x1 5 < (n0 : Nat)) (hi2 : 0 ≤ p_shr x1 5 ∧ p_shr x1 5 < (n0 : Nat)) : Ev d mX3_include (0, [some (vR (some (0, n0, a0))), some (vI x1)], [], (I, S)) (.inl none, ((up2 I a0 ((p_shr x1 5).toNat) (p_or (I a0 (p_shr x1 5).toNat) (p_shl 1 (p_and x1 31)))), S)) :=
  s_aload_n rfl rfl rfl <|
  s_iload_n rfl rfl rfl <|
  s_iconst rfl rfl <|
  s_ishr rfl <|
  s_dup2 rfl rfl <|
  s_iald rfl rfl hi1 <|
  s_iconst rfl rfl <|
  s_iload_n rfl rfl rfl <|
  s_bipush rfl rfl <|
  s_iand rfl <|
  s_ishl rfl <|
  s_ior rfl <|
  s_iast rfl hi2 <|
  s_vret rfl rfl
theorem b_X3_sizeOf_0 {d : Nat} {r : PO × PM} {I : Nat → Nat → Int} {S : PS} {a0 n1 a1 : Nat} (k : Ev d mX3_sizeOf (4, [some (vR (some (14, 0, a0))), some (vR (some (0, n1, a1))), some (vI 0), some (vI 0)], [], (I, S)) r) : Ev d mX3_sizeOf (0, [some (vR (some (14, 0, a0))), some (vR (some (0, n1, a1))), none, none], [], (I, S)) r :=
  s_iconst rfl rfl <|
  s_istore_n [some (vR (some (14, 0, a0))), some (vR (some (0, n1, a1))), some (vI 0), none] rfl rfl <|
  s_iconst rfl rfl <|
  s_istore_n [some (vR (some (14, 0, a0))), some (vR (some (0, n1, a1))), some (vI 0), some (vI 0)] rfl rfl <|
  k
theorem b_X3_sizeOf_4 {d : Nat} {r : PO × PM} {I : Nat → Nat → Int} {S : PS} {a0 n1 a1 : Nat} {x2 x3 : Int} (hn1 : n1 ≤ 100000) (kt : (n1 : Int) ≤ x3 → Ev d mX3_sizeOf (25, [some (vR (some (14, 0, a0))), some (vR (some (0, n1, a1))), some (vI x2), some (vI x3)], [], (I, S)) r) (kf : x3 < (n1 : Int) → Ev d mX3_sizeOf (10, [some (vR (some (14, 0, a0))), some (vR (some (0, n1, a1))), some (vI x2), some (vI x3)], [], (I, S)) r) : Ev d mX3_sizeOf (4, [some (vR (some (14, 0, a0))), some (vR (some (0, n1, a1))), some (vI x2), some (vI x3)], [], (I, S)) r :=
  s_iload_n rfl rfl rfl <|
  s_aload_n rfl rfl rfl <|
  s_alen rfl rfl hn1 <|
  s_icmp_ge 25 rfl rfl kt kf
theorem b_X3_sizeOf_10 {d : Nat} {r : PO × PM} {I : Nat → Nat → Int} {S : PS} {a0 n1 a1 : Nat} {x2 x3 z : Int} {I1 : Nat → Nat → Int} {S1 : PS} (hi1 : 0 ≤ x3 ∧ x3 < (n1 : Nat)) (c : Ca d mJ6_bitCount_0f7a4 [vI (I a1 x3.toNat)] (I, S) (.inl (some (vI z))) (I1, S1)) (k : Ev (d + 1) mX3_sizeOf (17, [some (vR (some (14, 0, a0))), some (vR (some (0, n1, a1))), some (vI x2), some (vI x3)], [vI z, vI x2], (I1, S1)) r) : Ev (d + 1) mX3_sizeOf (10, [some (vR (some (14, 0, a0))), some (vR (some (0, n1, a1))), some (vI x2), some (vI x3)], [], (I, S)) r :=
  s_iload_n rfl rfl rfl <|
  s_aload_n rfl rfl rfl <|
  s_iload_n rfl rfl rfl <|
  s_iald rfl rfl hi1 <|
  s_csI rfl rfl rfl rfl rfl rfl c k
theorem b_X3_sizeOf_17 {d : Nat} {r : PO × PM} {I : Nat → Nat → Int} {S : PS} {a0 n1 a1 : Nat} {x2 x3 xs0 xs1 : Int} (ho1 : -2147483648 ≤ xs0 + xs1 ∧ xs0 + xs1 ≤ 2147483647) (ho2 : -2147483648 ≤ x3 + 1 ∧ x3 + 1 ≤ 2147483647) (k : Ev d mX3_sizeOf (4, [some (vR (some (14, 0, a0))), some (vR (some (0, n1, a1))), some (vI (xs0 + xs1)), some (vI (x3 + 1))], [], (I, S)) r) : Ev d mX3_sizeOf (17, [some (vR (some (14, 0, a0))), some (vR (some (0, n1, a1))), some (vI x2), some (vI x3)], [vI xs1, vI xs0], (I, S)) r :=
  s_iaddp rfl ho1 <|
  s_istore_n [some (vR (some (14, 0, a0))), some (vR (some (0, n1, a1))), some (vI (xs0 + xs1)), some (vI x3)] rfl rfl <|
  s_iincp [some (vR (some (14, 0, a0))), some (vR (some (0, n1, a1))), some (vI (xs0 + xs1)), some (vI (x3 + 1))] rfl rfl ho2 rfl <|
  s_goto 4 rfl rfl k
theorem b_X3_sizeOf_25 {d : Nat} {I : Nat → Nat → Int} {S : PS} {a0 n1 a1 : Nat} {x2 x3 : Int} : Ev d mX3_sizeOf (25, [some (vR (some (14, 0, a0))), some (vR (some (0, n1, a1))), some (vI x2), some (vI x3)], [], (I, S)) (.inl (some (vI x2)), (I, S)) :=
  s_iload_n rfl rfl rfl <|
  s_ret rfl rfl
theorem b_X3_isD_0 {d : Nat} {r : PO × PM} {I : Nat → Nat → Int} {S : PS} {a0 p1 q1 : Nat} {I1 : Nat → Nat → Int} {S1 : PS} {z : Int} (hr1 : S.1 a0 12 = some (0, q1, p1)) (c : Ca d mX3_sizeOf [vR (some (14, 0, a0)), vR (some (0, q1, p1))] (I, S) (.inl (some (vI z))) (I1, S1)) (k : Ev (d + 1) mX3_isD (8, [some (vR (some (14, 0, a0)))], [vI z], (I1, S1)) r) : Ev (d + 1) mX3_isD (0, [some (vR (some (14, 0, a0)))], [], (I, S)) r :=
  s_aload_n rfl rfl rfl <|
  s_aload_n rfl rfl rfl <|
  s_getR rfl rfl rfl hr1 <|
  s_cvI rfl rfl rfl rfl rfl c k
theorem b_X3_isD_8 {d : Nat} {r : PO × PM} {I : Nat → Nat → Int} {S : PS} {a0 : Nat} {xs0 : Int} (kt : xs0 ≠ 0 → Ev d mX3_isD (15, [some (vR (some (14, 0, a0)))], [], (I, S)) r) (kf : xs0 = 0 → Ev d mX3_isD (11, [some (vR (some (14, 0, a0)))], [], (I, S)) r) : Ev d mX3_isD (8, [some (vR (some (14, 0, a0)))], [vI xs0], (I, S)) r :=
  s_if_ne 15 rfl rfl kt kf
theorem b_X3_isD_11 {d : Nat} {r : PO × PM} {I : Nat → Nat → Int} {S : PS} {a0 : Nat} (k : Ev d mX3_isD (16, [some (vR (some (14, 0, a0)))], [vI 1], (I, S)) r) : Ev d mX3_isD (11, [some (vR (some (14, 0, a0)))], [], (I, S)) r :=
  s_iconst rfl rfl <|
  s_goto 16 rfl rfl k
theorem b_X3_isD_15 {d : Nat} {r : PO × PM} {I : Nat → Nat → Int} {S : PS} {a0 : Nat} (k : Ev d mX3_isD (16, [some (vR (some (14, 0, a0)))], [vI 0], (I, S)) r) : Ev d mX3_isD (15, [some (vR (some (14, 0, a0)))], [], (I, S)) r :=
  s_iconst rfl rfl <|
  k
theorem b_X3_isD_16 {d : Nat} {I : Nat → Nat → Int} {S : PS} {a0 : Nat} {xs0 : Int} (hb1 : xs0 = 0 ∨ xs0 = 1) : Ev d mX3_isD (16, [some (vR (some (14, 0, a0)))], [vI xs0], (I, S)) (.inl (some (vI xs0)), (I, S)) :=
  s_retz rfl rfl hb1
theorem b_X3_isC_0 {d : Nat} {r : PO × PM} {I : Nat → Nat → Int} {S : PS} {a0 : Nat} (kt : I a0 6 = 0 → Ev d mX3_isC (18, [some (vR (some (14, 0, a0))), none], [], (I, S)) r) (kf : I a0 6 ≠ 0 → Ev d mX3_isC (7, [some (vR (some (14, 0, a0))), none], [], (I, S)) r) : Ev d mX3_isC (0, [some (vR (some (14, 0, a0))), none], [], (I, S)) r :=
  s_aload_n rfl rfl rfl <|
  s_getI rfl rfl rfl <|
  s_if_eq 18 rfl rfl kt kf
theorem b_X3_isC_7 {d : Nat} {r : PO × PM} {I : Nat → Nat → Int} {S : PS} {a0 p1 q1 : Nat} {I1 : Nat → Nat → Int} {S1 : PS} {z : Int} (hr1 : S.1 a0 13 = some (0, q1, p1)) (c : Ca d mX3_sizeOf [vR (some (14, 0, a0)), vR (some (0, q1, p1))] (I, S) (.inl (some (vI z))) (I1, S1)) (k : Ev (d + 1) mX3_isC (15, [some (vR (some (14, 0, a0))), none], [vI z], (I1, S1)) r) : Ev (d + 1) mX3_isC (7, [some (vR (some (14, 0, a0))), none], [], (I, S)) r :=
  s_aload_n rfl rfl rfl <|
  s_aload_n rfl rfl rfl <|
  s_getR rfl rfl rfl hr1 <|
  s_cvI rfl rfl rfl rfl rfl c k
theorem b_X3_isC_15 {d : Nat} {r : PO × PM} {I : Nat → Nat → Int} {S : PS} {a0 : Nat} {xs0 : Int} (kt : xs0 ≠ 0 → Ev d mX3_isC (20, [some (vR (some (14, 0, a0))), none], [], (I, S)) r) (kf : xs0 = 0 → Ev d mX3_isC (18, [some (vR (some (14, 0, a0))), none], [], (I, S)) r) : Ev d mX3_isC (15, [some (vR (some (14, 0, a0))), none], [vI xs0], (I, S)) r :=
  s_if_ne 20 rfl rfl kt kf
theorem b_X3_isC_18 {d : Nat} {I : Nat → Nat → Int} {S : PS} {a0 : Nat} : Ev d mX3_isC (18, [some (vR (some (14, 0, a0))), none], [], (I, S)) (.inl (some (vI 0)), (I, S)) :=
  s_iconst rfl rfl <|
  s_ret rfl rfl
theorem b_X3_isC_20 {d : Nat} {r : PO × PM} {I : Nat → Nat → Int} {S : PS} {a0 : Nat} (k : Ev d mX3_isC (22, [some (vR (some (14, 0, a0))), some (vI 0)], [], (I, S)) r) : Ev d mX3_isC (20, [some (vR (some (14, 0, a0))), none], [], (I, S)) r :=
  s_iconst rfl rfl <|
  s_istore_n [some (vR (some (14, 0, a0))), some (vI 0)] rfl rfl <|
  k
theorem b_X3_isC_22 {d : Nat} {r : PO × PM} {I : Nat → Nat → Int} {S : PS} {a0 : Nat} {x1 : Int} (kt : 3 ≤ x1 → Ev d mX3_isC (51, [some (vR (some (14, 0, a0))), some (vI x1)], [], (I, S)) r) (kf : x1 < 3 → Ev d mX3_isC (27, [some (vR (some (14, 0, a0))), some (vI x1)], [], (I, S)) r) : Ev d mX3_isC (22, [some (vR (some (14, 0, a0))), some (vI x1)], [], (I, S)) r :=
  s_iload_n rfl rfl rfl <|
  s_iconst rfl rfl <|
  s_icmp_ge 51 rfl rfl kt kf
theorem b_X3_isC_27 {d : Nat} {r : PO × PM} {I : Nat → Nat → Int} {S : PS} {a0 p1 q1 p3 q3 : Nat} {x1 : Int} (hr1 : S.1 a0 13 = some (0, q1, p1)) (hi2 : 0 ≤ x1 ∧ x1 < (q1 : Nat)) (hr3 : S.1 a0 12 = some (0, q3, p3)) (hi4 : 0 ≤ x1 ∧ x1 < (q3 : Nat)) (kt : p_and (I p1 x1.toNat) (I p3 x1.toNat) = 0 → Ev d mX3_isC (45, [some (vR (some (14, 0, a0))), some (vI x1)], [], (I, S)) r) (kf : p_and (I p1 x1.toNat) (I p3 x1.toNat) ≠ 0 → Ev d mX3_isC (43, [some (vR (some (14, 0, a0))), some (vI x1)], [], (I, S)) r) : Ev d mX3_isC (27, [some (vR (some (14, 0, a0))), some (vI x1)], [], (I, S)) r :=
  s_aload_n rfl rfl rfl <|
  s_getR rfl rfl rfl hr1 <|
  s_iload_n rfl rfl rfl <|
  s_iald rfl rfl hi2 <|
  s_aload_n rfl rfl rfl <|
  s_getR rfl rfl rfl hr3 <|
  s_iload_n rfl rfl rfl <|
  s_iald rfl rfl hi4 <|
  s_iand rfl <|
  s_if_eq 45 rfl rfl kt kf
theorem b_X3_isC_43 {d : Nat} {I : Nat → Nat → Int} {S : PS} {a0 : Nat} {x1 : Int} : Ev d mX3_isC (43, [some (vR (some (14, 0, a0))), some (vI x1)], [], (I, S)) (.inl (some (vI 0)), (I, S)) :=
  s_iconst rfl rfl <|
  s_ret rfl rfl
theorem b_X3_isC_45 {d : Nat} {r : PO × PM} {I : Nat → Nat → Int} {S : PS} {a0 : Nat} {x1 : Int} (ho1 : -2147483648 ≤ x1 + 1 ∧ x1 + 1 ≤ 2147483647) (k : Ev d mX3_isC (22, [some (vR (some (14, 0, a0))), some (vI (x1 + 1))], [], (I, S)) r) : Ev d mX3_isC (45, [some (vR (some (14, 0, a0))), some (vI x1)], [], (I, S)) r :=
  s_iincp [some (vR (some (14, 0, a0))), some (vI (x1 + 1))] rfl rfl ho1 rfl <|
  s_goto 22 rfl rfl k
theorem b_X3_isC_51 {d : Nat} {I : Nat → Nat → Int} {S : PS} {a0 : Nat} {x1 : Int} : Ev d mX3_isC (51, [some (vR (some (14, 0, a0))), some (vI x1)], [], (I, S)) (.inl (some (vI 1)), (I, S)) :=
  s_iconst rfl rfl <|
  s_ret rfl rfl
theorem b_X3_firstExtension_0 {d : Nat} {r : PO × PM} {I : Nat → Nat → Int} {S : PS} {a0 a1 : Nat} {x2 x3 z : Int} {I1 : Nat → Nat → Int} {S1 : PS} (c : Ca d mX3_fillRing [vR (some (14, 0, a0)), vR (some (16, 0, a1)), vI x2, vI 0] (I, S) (.inl (some (vI z))) (I1, S1)) (k : Ev (d + 1) mX3_firstExtension (7, [some (vR (some (14, 0, a0))), some (vR (some (16, 0, a1))), some (vI x2), some (vI x3), none], [vI z], (I1, S1)) r) : Ev (d + 1) mX3_firstExtension (0, [some (vR (some (14, 0, a0))), some (vR (some (16, 0, a1))), some (vI x2), some (vI x3), none], [], (I, S)) r :=
  s_aload_n rfl rfl rfl <|
  s_aload_n rfl rfl rfl <|
  s_iload_n rfl rfl rfl <|
  s_iconst rfl rfl <|
  s_cvI rfl rfl rfl rfl rfl c k
theorem b_X3_firstExtension_7 {d : Nat} {r : PO × PM} {I : Nat → Nat → Int} {S : PS} {a0 a1 : Nat} {x2 x3 xs0 : Int} (kt : xs0 ≠ 0 → Ev d mX3_firstExtension (12, [some (vR (some (14, 0, a0))), some (vR (some (16, 0, a1))), some (vI x2), some (vI x3), none], [], (I, S)) r) (kf : xs0 = 0 → Ev d mX3_firstExtension (10, [some (vR (some (14, 0, a0))), some (vR (some (16, 0, a1))), some (vI x2), some (vI x3), none], [], (I, S)) r) : Ev d mX3_firstExtension (7, [some (vR (some (14, 0, a0))), some (vR (some (16, 0, a1))), some (vI x2), some (vI x3), none], [vI xs0], (I, S)) r :=
  s_if_ne 12 rfl rfl kt kf
theorem b_X3_firstExtension_10 {d : Nat} {I : Nat → Nat → Int} {S : PS} {a0 a1 : Nat} {x2 x3 : Int} : Ev d mX3_firstExtension (10, [some (vR (some (14, 0, a0))), some (vR (some (16, 0, a1))), some (vI x2), some (vI x3), none], [], (I, S)) (.inl (some (vI (-1))), (I, S)) :=
  s_iconst rfl rfl <|
  s_ret rfl rfl
theorem b_X3_firstExtension_12 {d : Nat} {r : PO × PM} {I : Nat → Nat → Int} {S : PS} {a0 a1 : Nat} {x2 x3 : Int} (k : Ev d mX3_firstExtension (15, [some (vR (some (14, 0, a0))), some (vR (some (16, 0, a1))), some (vI x2), some (vI x3), some (vI 0)], [], (I, S)) r) : Ev d mX3_firstExtension (12, [some (vR (some (14, 0, a0))), some (vR (some (16, 0, a1))), some (vI x2), some (vI x3), none], [], (I, S)) r :=
  s_iconst rfl rfl <|
  s_istore [some (vR (some (14, 0, a0))), some (vR (some (16, 0, a1))), some (vI x2), some (vI x3), some (vI 0)] rfl rfl <|
  k
theorem b_X3_firstExtension_15 {d : Nat} {r : PO × PM} {I : Nat → Nat → Int} {S : PS} {a0 a1 : Nat} {x2 x3 x4 : Int} (kt : 4 ≤ x4 → Ev d mX3_firstExtension (49, [some (vR (some (14, 0, a0))), some (vR (some (16, 0, a1))), some (vI x2), some (vI x3), some (vI x4)], [], (I, S)) r) (kf : x4 < 4 → Ev d mX3_firstExtension (21, [some (vR (some (14, 0, a0))), some (vR (some (16, 0, a1))), some (vI x2), some (vI x3), some (vI x4)], [], (I, S)) r) : Ev d mX3_firstExtension (15, [some (vR (some (14, 0, a0))), some (vR (some (16, 0, a1))), some (vI x2), some (vI x3), some (vI x4)], [], (I, S)) r :=
  s_iload rfl rfl rfl <|
  s_iconst rfl rfl <|
  s_icmp_ge 49 rfl rfl kt kf
theorem b_X3_firstExtension_21 {d : Nat} {r : PO × PM} {I : Nat → Nat → Int} {S : PS} {a0 a1 p1 q1 : Nat} {x2 x3 x4 : Int} (hr1 : S.1 a0 8 = some (0, q1, p1)) (hi2 : 0 ≤ x4 ∧ x4 < (q1 : Nat)) (ho3 : -2147483648 ≤ I a0 3 + x3 ∧ I a0 3 + x3 ≤ 2147483647) (kt : p_and (p_shr (I p1 x4.toNat) (I a0 3 + x3)) 1 = 0 → Ev d mX3_firstExtension (43, [some (vR (some (14, 0, a0))), some (vR (some (16, 0, a1))), some (vI x2), some (vI x3), some (vI x4)], [], (I, S)) r) (kf : p_and (p_shr (I p1 x4.toNat) (I a0 3 + x3)) 1 ≠ 0 → Ev d mX3_firstExtension (40, [some (vR (some (14, 0, a0))), some (vR (some (16, 0, a1))), some (vI x2), some (vI x3), some (vI x4)], [], (I, S)) r) : Ev d mX3_firstExtension (21, [some (vR (some (14, 0, a0))), some (vR (some (16, 0, a1))), some (vI x2), some (vI x3), some (vI x4)], [], (I, S)) r :=
  s_aload_n rfl rfl rfl <|
  s_getR rfl rfl rfl hr1 <|
  s_iload rfl rfl rfl <|
  s_iald rfl rfl hi2 <|
  s_aload_n rfl rfl rfl <|
  s_getI rfl rfl rfl <|
  s_iload_n rfl rfl rfl <|
  s_iaddp rfl ho3 <|
  s_ishr rfl <|
  s_iconst rfl rfl <|
  s_iand rfl <|
  s_if_eq 43 rfl rfl kt kf
theorem b_X3_firstExtension_40 {d : Nat} {I : Nat → Nat → Int} {S : PS} {a0 a1 : Nat} {x2 x3 x4 : Int} : Ev d mX3_firstExtension (40, [some (vR (some (14, 0, a0))), some (vR (some (16, 0, a1))), some (vI x2), some (vI x3), some (vI x4)], [], (I, S)) (.inl (some (vI x4)), (I, S)) :=
  s_iload rfl rfl rfl <|
  s_ret rfl rfl
theorem b_X3_firstExtension_43 {d : Nat} {r : PO × PM} {I : Nat → Nat → Int} {S : PS} {a0 a1 : Nat} {x2 x3 x4 : Int} (ho1 : -2147483648 ≤ x4 + 1 ∧ x4 + 1 ≤ 2147483647) (k : Ev d mX3_firstExtension (15, [some (vR (some (14, 0, a0))), some (vR (some (16, 0, a1))), some (vI x2), some (vI x3), some (vI (x4 + 1))], [], (I, S)) r) : Ev d mX3_firstExtension (43, [some (vR (some (14, 0, a0))), some (vR (some (16, 0, a1))), some (vI x2), some (vI x3), some (vI x4)], [], (I, S)) r :=
  s_iincp [some (vR (some (14, 0, a0))), some (vR (some (16, 0, a1))), some (vI x2), some (vI x3), some (vI (x4 + 1))] rfl rfl ho1 rfl <|
  s_goto 15 rfl rfl k
theorem b_X3_firstExtension_49 {d : Nat} {I : Nat → Nat → Int} {S : PS} {a0 a1 : Nat} {x2 x3 x4 : Int} : Ev d mX3_firstExtension (49, [some (vR (some (14, 0, a0))), some (vR (some (16, 0, a1))), some (vI x2), some (vI x3), some (vI x4)], [], (I, S)) (.inl (some (vI (-1))), (I, S)) :=
  s_iconst rfl rfl <|
  s_ret rfl rfl
theorem b_X3_fillRing_0 {d : Nat} {r : PO × PM} {I : Nat → Nat → Int} {S : PS} {a0 a1 p1 q1 : Nat} {x2 x3 : Int} {I1 : Nat → Nat → Int} {S1 : PS} (hr1 : S.1 a0 8 = some (0, q1, p1)) (c : Ca d mJ7_fill_53178 [vR (some (0, q1, p1)), vI 0] (I, S) (.inl none) (I1, S1)) (k : Ev (d + 1) mX3_fillRing (8, [some (vR (some (14, 0, a0))), some (vR (some (16, 0, a1))), some (vI x2), some (vI x3), none], [], (I1, S1)) r) : Ev (d + 1) mX3_fillRing (0, [some (vR (some (14, 0, a0))), some (vR (some (16, 0, a1))), some (vI x2), some (vI x3), none], [], (I, S)) r :=
  s_aload_n rfl rfl rfl <|
  s_getR rfl rfl rfl hr1 <|
  s_iconst rfl rfl <|
  s_csV rfl rfl rfl rfl rfl rfl c k
theorem b_X3_fillRing_8 {d : Nat} {r : PO × PM} {I : Nat → Nat → Int} {S : PS} {a0 a1 : Nat} {x2 x3 : Int} (k : Ev d mX3_fillRing (11, [some (vR (some (14, 0, a0))), some (vR (some (16, 0, a1))), some (vI x2), some (vI x3), some (vI 0)], [], (I, S)) r) : Ev d mX3_fillRing (8, [some (vR (some (14, 0, a0))), some (vR (some (16, 0, a1))), some (vI x2), some (vI x3), none], [], (I, S)) r :=
  s_iconst rfl rfl <|
  s_istore [some (vR (some (14, 0, a0))), some (vR (some (16, 0, a1))), some (vI x2), some (vI x3), some (vI 0)] rfl rfl <|
  k
theorem b_X3_fillRing_11 {d : Nat} {r : PO × PM} {I : Nat → Nat → Int} {S : PS} {a0 a1 : Nat} {x2 x3 x4 : Int} (kt : I a0 3 ≤ x4 → Ev d mX3_fillRing (45, [some (vR (some (14, 0, a0))), some (vR (some (16, 0, a1))), some (vI x2), some (vI x3), some (vI x4)], [], (I, S)) r) (kf : x4 < I a0 3 → Ev d mX3_fillRing (20, [some (vR (some (14, 0, a0))), some (vR (some (16, 0, a1))), some (vI x2), some (vI x3), some (vI x4)], [], (I, S)) r) : Ev d mX3_fillRing (11, [some (vR (some (14, 0, a0))), some (vR (some (16, 0, a1))), some (vI x2), some (vI x3), some (vI x4)], [], (I, S)) r :=
  s_iload rfl rfl rfl <|
  s_aload_n rfl rfl rfl <|
  s_getI rfl rfl rfl <|
  s_icmp_ge 45 rfl rfl kt kf
theorem b_X3_fillRing_20 {d : Nat} {r : PO × PM} {I : Nat → Nat → Int} {S : PS} {a0 a1 p1 q1 : Nat} {x2 x3 x4 z : Int} {I1 : Nat → Nat → Int} {S1 : PS} (hr1 : S.1 a0 8 = some (0, q1, p1)) (c : Ca d mX6_colourAt [vR (some (16, 0, a1)), vI x2, vI x4] (I, S) (.inl (some (vI z))) (I1, S1)) (k : Ev (d + 1) mX3_fillRing (31, [some (vR (some (14, 0, a0))), some (vR (some (16, 0, a1))), some (vI x2), some (vI x3), some (vI x4)], [vI z, vR (some (0, q1, p1))], (I1, S1)) r) : Ev (d + 1) mX3_fillRing (20, [some (vR (some (14, 0, a0))), some (vR (some (16, 0, a1))), some (vI x2), some (vI x3), some (vI x4)], [], (I, S)) r :=
  s_aload_n rfl rfl rfl <|
  s_getR rfl rfl rfl hr1 <|
  s_aload_n rfl rfl rfl <|
  s_iload_n rfl rfl rfl <|
  s_iload rfl rfl rfl <|
  s_cvI rfl rfl rfl rfl rfl c k
theorem b_X3_fillRing_31 {d : Nat} {r : PO × PM} {I : Nat → Nat → Int} {S : PS} {a0 a1 ns0 as0 : Nat} {x2 x3 x4 xs1 : Int} (hi1 : 0 ≤ xs1 ∧ xs1 < (ns0 : Nat)) (hi2 : 0 ≤ xs1 ∧ xs1 < (ns0 : Nat)) (ho3 : -2147483648 ≤ x4 + 1 ∧ x4 + 1 ≤ 2147483647) (k : Ev d mX3_fillRing (11, [some (vR (some (14, 0, a0))), some (vR (some (16, 0, a1))), some (vI x2), some (vI x3), some (vI (x4 + 1))], [], ((up2 I as0 (xs1.toNat) (p_or (I as0 xs1.toNat) (p_shl 1 x4))), S)) r) : Ev d mX3_fillRing (31, [some (vR (some (14, 0, a0))), some (vR (some (16, 0, a1))), some (vI x2), some (vI x3), some (vI x4)], [vI xs1, vR (some (0, ns0, as0))], (I, S)) r :=
  s_dup2 rfl rfl <|
  s_iald rfl rfl hi1 <|
  s_iconst rfl rfl <|
  s_iload rfl rfl rfl <|
  s_ishl rfl <|
  s_ior rfl <|
  s_iast rfl hi2 <|
  s_iincp [some (vR (some (14, 0, a0))), some (vR (some (16, 0, a1))), some (vI x2), some (vI x3), some (vI (x4 + 1))] rfl rfl ho3 rfl <|
  s_goto 11 rfl rfl k
theorem b_X3_fillRing_45 {d : Nat} {r : PO × PM} {I : Nat → Nat → Int} {S : PS} {a0 a1 : Nat} {x2 x3 x4 z : Int} {I1 : Nat → Nat → Int} {S1 : PS} (c : Ca d mX3_fillFrom [vR (some (14, 0, a0)), vI (I a0 3), vI x3] (I, S) (.inl (some (vI z))) (I1, S1)) (k : Ev (d + 1) mX3_fillRing (54, [some (vR (some (14, 0, a0))), some (vR (some (16, 0, a1))), some (vI x2), some (vI x3), some (vI x4)], [vI z], (I1, S1)) r) : Ev (d + 1) mX3_fillRing (45, [some (vR (some (14, 0, a0))), some (vR (some (16, 0, a1))), some (vI x2), some (vI x3), some (vI x4)], [], (I, S)) r :=
  s_aload_n rfl rfl rfl <|
  s_aload_n rfl rfl rfl <|
  s_getI rfl rfl rfl <|
  s_iload_n rfl rfl rfl <|
  s_cvI rfl rfl rfl rfl rfl c k
theorem b_X3_fillRing_54 {d : Nat} {I : Nat → Nat → Int} {S : PS} {a0 a1 : Nat} {x2 x3 x4 xs0 : Int} (hb1 : xs0 = 0 ∨ xs0 = 1) : Ev d mX3_fillRing (54, [some (vR (some (14, 0, a0))), some (vR (some (16, 0, a1))), some (vI x2), some (vI x3), some (vI x4)], [vI xs0], (I, S)) (.inl (some (vI xs0)), (I, S)) :=
  s_retz rfl rfl hb1
theorem b_X3_fillFrom_0 {d : Nat} {r : PO × PM} {I : Nat → Nat → Int} {S : PS} {a0 : Nat} {x1 x2 : Int} (kt : x1 < I a0 4 → Ev d mX3_fillFrom (10, [some (vR (some (14, 0, a0))), some (vI x1), some (vI x2), none, none, none, none], [], (I, S)) r) (kf : I a0 4 ≤ x1 → Ev d mX3_fillFrom (8, [some (vR (some (14, 0, a0))), some (vI x1), some (vI x2), none, none, none, none], [], (I, S)) r) : Ev d mX3_fillFrom (0, [some (vR (some (14, 0, a0))), some (vI x1), some (vI x2), none, none, none, none], [], (I, S)) r :=
  s_iload_n rfl rfl rfl <|
  s_aload_n rfl rfl rfl <|
  s_getI rfl rfl rfl <|
  s_icmp_lt 10 rfl rfl kt kf
theorem b_X3_fillFrom_8 {d : Nat} {I : Nat → Nat → Int} {S : PS} {a0 : Nat} {x1 x2 : Int} : Ev d mX3_fillFrom (8, [some (vR (some (14, 0, a0))), some (vI x1), some (vI x2), none, none, none, none], [], (I, S)) (.inl (some (vI 1)), (I, S)) :=
  s_iconst rfl rfl <|
  s_ret rfl rfl
theorem b_X3_fillFrom_10 {d : Nat} {r : PO × PM} {I : Nat → Nat → Int} {S : PS} {a0 p1 q1 : Nat} {x1 x2 : Int} (hr1 : S.1 a0 5 = some (0, q1, p1)) (hi2 : 0 ≤ x1 ∧ x1 < (q1 : Nat)) (ho3 : -2147483648 ≤ p_shl 1 x1 - 1 ∧ p_shl 1 x1 - 1 ≤ 2147483647) (kt : x2 = 0 → Ev d mX3_fillFrom (43, [some (vR (some (14, 0, a0))), some (vI x1), some (vI x2), some (vI (p_shl 1 x1)), some (vI (p_and (I p1 x1.toNat) (p_shl 1 x1 - 1))), none, none], [], (I, S)) r) (kf : x2 ≠ 0 → Ev d mX3_fillFrom (30, [some (vR (some (14, 0, a0))), some (vI x1), some (vI x2), some (vI (p_shl 1 x1)), some (vI (p_and (I p1 x1.toNat) (p_shl 1 x1 - 1))), none, none], [], (I, S)) r) : Ev d mX3_fillFrom (10, [some (vR (some (14, 0, a0))), some (vI x1), some (vI x2), none, none, none, none], [], (I, S)) r :=
  s_iconst rfl rfl <|
  s_iload_n rfl rfl rfl <|
  s_ishl rfl <|
  s_istore_n [some (vR (some (14, 0, a0))), some (vI x1), some (vI x2), some (vI (p_shl 1 x1)), none, none, none] rfl rfl <|
  s_aload_n rfl rfl rfl <|
  s_getR rfl rfl rfl hr1 <|
  s_iload_n rfl rfl rfl <|
  s_iald rfl rfl hi2 <|
  s_iload_n rfl rfl rfl <|
  s_iconst rfl rfl <|
  s_isubp rfl ho3 <|
  s_iand rfl <|
  s_istore [some (vR (some (14, 0, a0))), some (vI x1), some (vI x2), some (vI (p_shl 1 x1)), some (vI (p_and (I p1 x1.toNat) (p_shl 1 x1 - 1))), none, none] rfl rfl <|
  s_iload_n rfl rfl rfl <|
  s_if_eq 43 rfl rfl kt kf
theorem b_X3_fillFrom_30 {d : Nat} {r : PO × PM} {I : Nat → Nat → Int} {S : PS} {a0 p1 q1 : Nat} {x1 x2 x3 x4 : Int} (hr1 : S.1 a0 7 = some (0, q1, p1)) (hi2 : 0 ≤ x1 ∧ x1 < (q1 : Nat)) (ho3 : -2147483648 ≤ x3 - 1 ∧ x3 - 1 ≤ 2147483647) (k : Ev d mX3_fillFrom (44, [some (vR (some (14, 0, a0))), some (vI x1), some (vI x2), some (vI x3), some (vI x4), none, none], [vI (p_and (I p1 x1.toNat) (x3 - 1))], (I, S)) r) : Ev d mX3_fillFrom (30, [some (vR (some (14, 0, a0))), some (vI x1), some (vI x2), some (vI x3), some (vI x4), none, none], [], (I, S)) r :=
  s_aload_n rfl rfl rfl <|
  s_getR rfl rfl rfl hr1 <|
  s_iload_n rfl rfl rfl <|
  s_iald rfl rfl hi2 <|
  s_iload_n rfl rfl rfl <|
  s_iconst rfl rfl <|
  s_isubp rfl ho3 <|
  s_iand rfl <|
  s_goto 44 rfl rfl k
theorem b_X3_fillFrom_43 {d : Nat} {r : PO × PM} {I : Nat → Nat → Int} {S : PS} {a0 : Nat} {x1 x2 x3 x4 : Int} (k : Ev d mX3_fillFrom (44, [some (vR (some (14, 0, a0))), some (vI x1), some (vI x2), some (vI x3), some (vI x4), none, none], [vI 0], (I, S)) r) : Ev d mX3_fillFrom (43, [some (vR (some (14, 0, a0))), some (vI x1), some (vI x2), some (vI x3), some (vI x4), none, none], [], (I, S)) r :=
  s_iconst rfl rfl <|
  k
theorem b_X3_fillFrom_44 {d : Nat} {r : PO × PM} {I : Nat → Nat → Int} {S : PS} {a0 : Nat} {x1 x2 x3 x4 xs0 : Int} (k : Ev d mX3_fillFrom (49, [some (vR (some (14, 0, a0))), some (vI x1), some (vI x2), some (vI x3), some (vI x4), some (vI xs0), some (vI 0)], [], (I, S)) r) : Ev d mX3_fillFrom (44, [some (vR (some (14, 0, a0))), some (vI x1), some (vI x2), some (vI x3), some (vI x4), none, none], [vI xs0], (I, S)) r :=
  s_istore [some (vR (some (14, 0, a0))), some (vI x1), some (vI x2), some (vI x3), some (vI x4), some (vI xs0), none] rfl rfl <|
  s_iconst rfl rfl <|
  s_istore [some (vR (some (14, 0, a0))), some (vI x1), some (vI x2), some (vI x3), some (vI x4), some (vI xs0), some (vI 0)] rfl rfl <|
  k
theorem b_X3_fillFrom_49 {d : Nat} {r : PO × PM} {I : Nat → Nat → Int} {S : PS} {a0 : Nat} {x1 x2 x3 x4 x5 x6 : Int} (kt : 4 ≤ x6 → Ev d mX3_fillFrom (113, [some (vR (some (14, 0, a0))), some (vI x1), some (vI x2), some (vI x3), some (vI x4), some (vI x5), some (vI x6)], [], (I, S)) r) (kf : x6 < 4 → Ev d mX3_fillFrom (55, [some (vR (some (14, 0, a0))), some (vI x1), some (vI x2), some (vI x3), some (vI x4), some (vI x5), some (vI x6)], [], (I, S)) r) : Ev d mX3_fillFrom (49, [some (vR (some (14, 0, a0))), some (vI x1), some (vI x2), some (vI x3), some (vI x4), some (vI x5), some (vI x6)], [], (I, S)) r :=
  s_iload rfl rfl rfl <|
  s_iconst rfl rfl <|
  s_icmp_ge 113 rfl rfl kt kf
theorem b_X3_fillFrom_55 {d : Nat} {r : PO × PM} {I : Nat → Nat → Int} {S : PS} {a0 p1 q1 : Nat} {x1 x2 x3 x4 x5 x6 : Int} (hr1 : S.1 a0 8 = some (0, q1, p1)) (hi2 : 0 ≤ x6 ∧ x6 < (q1 : Nat)) (kt : p_and x4 (I p1 x6.toNat) ≠ x5 → Ev d mX3_fillFrom (107, [some (vR (some (14, 0, a0))), some (vI x1), some (vI x2), some (vI x3), some (vI x4), some (vI x5), some (vI x6)], [], (I, S)) r) (kf : p_and x4 (I p1 x6.toNat) = x5 → Ev d mX3_fillFrom (70, [some (vR (some (14, 0, a0))), some (vI x1), some (vI x2), some (vI x3), some (vI x4), some (vI x5), some (vI x6)], [], (I, S)) r) : Ev d mX3_fillFrom (55, [some (vR (some (14, 0, a0))), some (vI x1), some (vI x2), some (vI x3), some (vI x4), some (vI x5), some (vI x6)], [], (I, S)) r :=
  s_iload rfl rfl rfl <|
  s_aload_n rfl rfl rfl <|
  s_getR rfl rfl rfl hr1 <|
  s_iload rfl rfl rfl <|
  s_iald rfl rfl hi2 <|
  s_iand rfl <|
  s_iload rfl rfl rfl <|
  s_icmp_ne 107 rfl rfl kt kf
theorem b_X3_fillFrom_70 {d : Nat} {r : PO × PM} {I : Nat → Nat → Int} {S : PS} {a0 p1 q1 : Nat} {x1 x2 x3 x4 x5 x6 z : Int} {I1 : Nat → Nat → Int} {S1 : PS} (hr1 : S.1 a0 8 = some (0, q1, p1)) (hi2 : 0 ≤ x6 ∧ x6 < (q1 : Nat)) (hi3 : 0 ≤ x6 ∧ x6 < (q1 : Nat)) (ho4 : -2147483648 ≤ x1 + 1 ∧ x1 + 1 ≤ 2147483647) (c : Ca d mX3_fillFrom [vR (some (14, 0, a0)), vI (x1 + 1), vI x2] ((up2 I p1 (x6.toNat) (p_or (I p1 x6.toNat) x3)), S) (.inl (some (vI z))) (I1, S1)) (k : Ev (d + 1) mX3_fillFrom (89, [some (vR (some (14, 0, a0))), some (vI x1), some (vI x2), some (vI x3), some (vI x4), some (vI x5), some (vI x6)], [vI z], (I1, S1)) r) : Ev (d + 1) mX3_fillFrom (70, [some (vR (some (14, 0, a0))), some (vI x1), some (vI x2), some (vI x3), some (vI x4), some (vI x5), some (vI x6)], [], (I, S)) r :=
  s_aload_n rfl rfl rfl <|
  s_getR rfl rfl rfl hr1 <|
  s_iload rfl rfl rfl <|
  s_dup2 rfl rfl <|
  s_iald rfl rfl hi2 <|
  s_iload_n rfl rfl rfl <|
  s_ior rfl <|
  s_iast rfl hi3 <|
  s_aload_n rfl rfl rfl <|
  s_iload_n rfl rfl rfl <|
  s_iconst rfl rfl <|
  s_iaddp rfl ho4 <|
  s_iload_n rfl rfl rfl <|
  s_cvI rfl rfl rfl rfl rfl c k
theorem b_X3_fillFrom_89 {d : Nat} {r : PO × PM} {I : Nat → Nat → Int} {S : PS} {a0 : Nat} {x1 x2 x3 x4 x5 x6 xs0 : Int} (kt : xs0 = 0 → Ev d mX3_fillFrom (94, [some (vR (some (14, 0, a0))), some (vI x1), some (vI x2), some (vI x3), some (vI x4), some (vI x5), some (vI x6)], [], (I, S)) r) (kf : xs0 ≠ 0 → Ev d mX3_fillFrom (92, [some (vR (some (14, 0, a0))), some (vI x1), some (vI x2), some (vI x3), some (vI x4), some (vI x5), some (vI x6)], [], (I, S)) r) : Ev d mX3_fillFrom (89, [some (vR (some (14, 0, a0))), some (vI x1), some (vI x2), some (vI x3), some (vI x4), some (vI x5), some (vI x6)], [vI xs0], (I, S)) r :=
  s_if_eq 94 rfl rfl kt kf
theorem b_X3_fillFrom_92 {d : Nat} {I : Nat → Nat → Int} {S : PS} {a0 : Nat} {x1 x2 x3 x4 x5 x6 : Int} : Ev d mX3_fillFrom (92, [some (vR (some (14, 0, a0))), some (vI x1), some (vI x2), some (vI x3), some (vI x4), some (vI x5), some (vI x6)], [], (I, S)) (.inl (some (vI 1)), (I, S)) :=
  s_iconst rfl rfl <|
  s_ret rfl rfl
theorem b_X3_fillFrom_94 {d : Nat} {r : PO × PM} {I : Nat → Nat → Int} {S : PS} {a0 p1 q1 : Nat} {x1 x2 x3 x4 x5 x6 : Int} (hr1 : S.1 a0 8 = some (0, q1, p1)) (hi2 : 0 ≤ x6 ∧ x6 < (q1 : Nat)) (hi3 : 0 ≤ x6 ∧ x6 < (q1 : Nat)) (k : Ev d mX3_fillFrom (107, [some (vR (some (14, 0, a0))), some (vI x1), some (vI x2), some (vI x3), some (vI x4), some (vI x5), some (vI x6)], [], ((up2 I p1 (x6.toNat) (p_and (I p1 x6.toNat) (p_xor x3 (-1)))), S)) r) : Ev d mX3_fillFrom (94, [some (vR (some (14, 0, a0))), some (vI x1), some (vI x2), some (vI x3), some (vI x4), some (vI x5), some (vI x6)], [], (I, S)) r :=
  s_aload_n rfl rfl rfl <|
  s_getR rfl rfl rfl hr1 <|
  s_iload rfl rfl rfl <|
  s_dup2 rfl rfl <|
  s_iald rfl rfl hi2 <|
  s_iload_n rfl rfl rfl <|
  s_iconst rfl rfl <|
  s_ixor rfl <|
  s_iand rfl <|
  s_iast rfl hi3 <|
  k
theorem b_X3_fillFrom_107 {d : Nat} {r : PO × PM} {I : Nat → Nat → Int} {S : PS} {a0 : Nat} {x1 x2 x3 x4 x5 x6 : Int} (ho1 : -2147483648 ≤ x6 + 1 ∧ x6 + 1 ≤ 2147483647) (k : Ev d mX3_fillFrom (49, [some (vR (some (14, 0, a0))), some (vI x1), some (vI x2), some (vI x3), some (vI x4), some (vI x5), some (vI (x6 + 1))], [], (I, S)) r) : Ev d mX3_fillFrom (107, [some (vR (some (14, 0, a0))), some (vI x1), some (vI x2), some (vI x3), some (vI x4), some (vI x5), some (vI x6)], [], (I, S)) r :=
  s_iincp [some (vR (some (14, 0, a0))), some (vI x1), some (vI x2), some (vI x3), some (vI x4), some (vI x5), some (vI (x6 + 1))] rfl rfl ho1 rfl <|
  s_goto 49 rfl rfl k
theorem b_X3_fillFrom_113 {d : Nat} {I : Nat → Nat → Int} {S : PS} {a0 : Nat} {x1 x2 x3 x4 x5 x6 : Int} : Ev d mX3_fillFrom (113, [some (vR (some (14, 0, a0))), some (vI x1), some (vI x2), some (vI x3), some (vI x4), some (vI x5), some (vI x6)], [], (I, S)) (.inl (some (vI 0)), (I, S)) :=
  s_iconst rfl rfl <|
  s_ret rfl rfl
theorem b_X4_init_0 {d : Nat} {r : PO × PM} {h : PM} {a0 : Nat} {h1 : PM} (c : Ca d mX2_init [vR (some (13, 0, (m_sz h)))] (m_new h 13 0 1) (.inl none) h1) (k : Ev (d + 1) mX4_init (12, [some (vR (some (15, 0, a0)))], [vR (some (13, 0, (m_sz h))), vR (some (15, 0, a0))], h1) r) : Ev (d + 1) mX4_init (0, [some (vR (some (15, 0, a0)))], [], h) r :=
  s_aload_n rfl rfl rfl <|
  s_obj rfl rfl rfl <|
  s_aload_n rfl rfl rfl <|
  s_new rfl rfl <|
  s_dup rfl rfl <|
  s_ci rfl rfl rfl rfl rfl rfl c k
theorem b_X4_init_12 {d : Nat} {h : PM} {a0 as0 as1 : Nat} : Ev d mX4_init (12, [some (vR (some (15, 0, a0)))], [vR (some (13, 0, as1)), vR (some (15, 0, as0))], h) (.inl none, m_si (m_si (m_si (m_si (m_si (m_si (m_si (m_si (m_si (m_sr (m_new (m_sr (m_new (m_sr h as0 0 (some (13, 0, as1))) 0 32 32) a0 1 (some (0, 32, (m_sz (m_sr h as0 0 (some (13, 0, as1))))))) 0 8 8) a0 2 (some (0, 8, (m_sz (m_sr (m_new (m_sr h as0 0 (some (13, 0, as1))) 0 32 32) a0 1 (some (0, 32, (m_sz (m_sr h as0 0 (some (13, 0, as1))))))))))) a0 3 0) a0 4 0) a0 5 (-1)) a0 6 0) a0 7 0) a0 8 (-1)) a0 9 0) a0 10 0) a0 11 0) :=
  s_putR rfl rfl rfl <|
  s_aload_n rfl rfl rfl <|
  s_bipush rfl rfl <|
  s_newa (n := 32) rfl (Or.inl ⟨rfl, rfl⟩) (by decide) <|
  s_putR rfl rfl rfl <|
  s_aload_n rfl rfl rfl <|
  s_bipush rfl rfl <|
  s_newa (n := 8) rfl (Or.inl ⟨rfl, rfl⟩) (by decide) <|
  s_putR rfl rfl rfl <|
  s_aload_n rfl rfl rfl <|
  s_iconst rfl rfl <|
  s_putI rfl rfl rfl <|
  s_aload_n rfl rfl rfl <|
  s_iconst rfl rfl <|
  s_putI rfl rfl rfl <|
  s_aload_n rfl rfl rfl <|
  s_iconst rfl rfl <|
  s_putI rfl rfl rfl <|
  s_aload_n rfl rfl rfl <|
  s_iconst rfl rfl <|
  s_putZ rfl rfl rfl (Or.inl rfl) <|
  s_aload_n rfl rfl rfl <|
  s_iconst rfl rfl <|
  s_putI rfl rfl rfl <|
  s_aload_n rfl rfl rfl <|
  s_iconst rfl rfl <|
  s_putI rfl rfl rfl <|
  s_aload_n rfl rfl rfl <|
  s_iconst rfl rfl <|
  s_putI rfl rfl rfl <|
  s_aload_n rfl rfl rfl <|
  s_iconst rfl rfl <|
  s_putI rfl rfl rfl <|
  s_aload_n rfl rfl rfl <|
  s_iconst rfl rfl <|
  s_putI rfl rfl rfl <|
  s_vret rfl rfl
theorem b_X4_forgetTold_0 {d : Nat} {I : Nat → Nat → Int} {S : PS} {a0 : Nat} : Ev d mX4_forgetTold (0, [some (vR (some (15, 0, a0)))], [], (I, S)) (.inl none, ((up2 (up2 I a0 6 0) a0 5 (-1)), S)) :=
  s_aload_n rfl rfl rfl <|
  s_iconst rfl rfl <|
  s_putZ rfl rfl rfl (Or.inl rfl) <|
  s_aload_n rfl rfl rfl <|
  s_iconst rfl rfl <|
  s_putI rfl rfl rfl <|
  s_vret rfl rfl
theorem b_X4_toldOf_0 {d : Nat} {r : PO × PM} {I : Nat → Nat → Int} {S : PS} {a0 : Nat} {x1 : Int} (kt : I a0 6 ≠ 0 → Ev d mX4_toldOf (9, [some (vR (some (15, 0, a0))), some (vI x1)], [], (I, S)) r) (kf : I a0 6 = 0 → Ev d mX4_toldOf (7, [some (vR (some (15, 0, a0))), some (vI x1)], [], (I, S)) r) : Ev d mX4_toldOf (0, [some (vR (some (15, 0, a0))), some (vI x1)], [], (I, S)) r :=
  s_aload_n rfl rfl rfl <|
  s_getI rfl rfl rfl <|
  s_if_ne 9 rfl rfl kt kf
theorem b_X4_toldOf_7 {d : Nat} {I : Nat → Nat → Int} {S : PS} {a0 : Nat} {x1 : Int} : Ev d mX4_toldOf (7, [some (vR (some (15, 0, a0))), some (vI x1)], [], (I, S)) (.inl (some (vI (-1))), (I, S)) :=
  s_iconst rfl rfl <|
  s_ret rfl rfl
theorem b_X4_toldOf_9 {d : Nat} {r : PO × PM} {I : Nat → Nat → Int} {S : PS} {a0 : Nat} {x1 : Int} (k0 : x1 = 0 → Ev d mX4_toldOf (36, [some (vR (some (15, 0, a0))), some (vI x1)], [], (I, S)) r) (k1 : x1 = 1 → Ev d mX4_toldOf (41, [some (vR (some (15, 0, a0))), some (vI x1)], [], (I, S)) r) (k2 : x1 = 2 → Ev d mX4_toldOf (46, [some (vR (some (15, 0, a0))), some (vI x1)], [], (I, S)) r) (kd : ¬(0 ≤ x1 ∧ x1 ≤ 2) → Ev d mX4_toldOf (51, [some (vR (some (15, 0, a0))), some (vI x1)], [], (I, S)) r) : Ev d mX4_toldOf (9, [some (vR (some (15, 0, a0))), some (vI x1)], [], (I, S)) r :=
  s_iload_n rfl rfl rfl <|
  s_sw 51 rfl (by decide) (fun c => kd c) (fun j hj => by
  match j, hj with
  | 0, _ => exact fun c => k0 c
  | 1, _ => exact fun c => k1 c
  | 2, _ => exact fun c => k2 c
  | j + 3, hj => exact absurd hj (by simp))
theorem b_X4_toldOf_36 {d : Nat} {I : Nat → Nat → Int} {S : PS} {a0 : Nat} {x1 : Int} : Ev d mX4_toldOf (36, [some (vR (some (15, 0, a0))), some (vI x1)], [], (I, S)) (.inl (some (vI (I a0 8))), (I, S)) :=
  s_aload_n rfl rfl rfl <|
  s_getI rfl rfl rfl <|
  s_ret rfl rfl
theorem b_X4_toldOf_41 {d : Nat} {I : Nat → Nat → Int} {S : PS} {a0 : Nat} {x1 : Int} : Ev d mX4_toldOf (41, [some (vR (some (15, 0, a0))), some (vI x1)], [], (I, S)) (.inl (some (vI (I a0 9))), (I, S)) :=
  s_aload_n rfl rfl rfl <|
  s_getI rfl rfl rfl <|
  s_ret rfl rfl
theorem b_X4_toldOf_46 {d : Nat} {I : Nat → Nat → Int} {S : PS} {a0 : Nat} {x1 : Int} : Ev d mX4_toldOf (46, [some (vR (some (15, 0, a0))), some (vI x1)], [], (I, S)) (.inl (some (vI (I a0 10))), (I, S)) :=
  s_aload_n rfl rfl rfl <|
  s_getI rfl rfl rfl <|
  s_ret rfl rfl
theorem b_X4_toldOf_51 {d : Nat} {I : Nat → Nat → Int} {S : PS} {a0 : Nat} {x1 : Int} : Ev d mX4_toldOf (51, [some (vR (some (15, 0, a0))), some (vI x1)], [], (I, S)) (.inl (some (vI (I a0 11))), (I, S)) :=
  s_aload_n rfl rfl rfl <|
  s_getI rfl rfl rfl <|
  s_ret rfl rfl
theorem b_X4_run_0 {d : Nat} {r : PO × PM} {I : Nat → Nat → Int} {S : PS} {a0 a1 a2 a3 p1 : Nat} {I1 : Nat → Nat → Int} {S1 : PS} (hr1 : S.1 a0 0 = some (13, 0, p1)) (c : Ca d mX2_copyFrom [vR (some (13, 0, p1)), vR (some (13, 0, a3))] (I, S) (.inl none) (I1, S1)) (k : Ev (d + 1) mX4_run (8, [some (vR (some (15, 0, a0))), some (vR (some (20, 0, a1))), some (vR (some (11, 0, a2))), some (vR (some (13, 0, a3))), none], [], (I1, S1)) r) : Ev (d + 1) mX4_run (0, [some (vR (some (15, 0, a0))), some (vR (some (20, 0, a1))), some (vR (some (11, 0, a2))), some (vR (some (13, 0, a3))), none], [], (I, S)) r :=
  s_aload_n rfl rfl rfl <|
  s_getR rfl rfl rfl hr1 <|
  s_aload_n rfl rfl rfl <|
  s_cvV rfl rfl rfl rfl rfl c k
theorem b_X4_run_8 {d : Nat} {r : PO × PM} {I : Nat → Nat → Int} {S : PS} {a0 a1 a2 a3 : Nat} {I1 : Nat → Nat → Int} {S1 : PS} {z : Int} (c : Ca d mX4_lay [vR (some (15, 0, a0))] ((up2 (up2 (up2 (up2 I a0 6 1) a0 7 0) a0 8 (-1)) a0 10 0), S) (.inl (some (vI z))) (I1, S1)) (k : Ev (d + 1) mX4_run (32, [some (vR (some (15, 0, a0))), some (vR (some (20, 0, a1))), some (vR (some (11, 0, a2))), some (vR (some (13, 0, a3))), none], [vI z], (I1, S1)) r) : Ev (d + 1) mX4_run (8, [some (vR (some (15, 0, a0))), some (vR (some (20, 0, a1))), some (vR (some (11, 0, a2))), some (vR (some (13, 0, a3))), none], [], (I, S)) r :=
  s_aload_n rfl rfl rfl <|
  s_iconst rfl rfl <|
  s_putZ rfl rfl rfl (Or.inr rfl) <|
  s_aload_n rfl rfl rfl <|
  s_iconst rfl rfl <|
  s_putI rfl rfl rfl <|
  s_aload_n rfl rfl rfl <|
  s_iconst rfl rfl <|
  s_putI rfl rfl rfl <|
  s_aload_n rfl rfl rfl <|
  s_iconst rfl rfl <|
  s_putI rfl rfl rfl <|
  s_aload_n rfl rfl rfl <|
  s_cvI rfl rfl rfl rfl rfl c k
theorem b_X4_run_32 {d : Nat} {r : PO × PM} {I : Nat → Nat → Int} {S : PS} {a0 a1 a2 a3 : Nat} {xs0 : Int} {I1 : Nat → Nat → Int} {S1 : PS} (c : Ca d mX10_advance [vR (some (20, 0, a1))] (I, S) (.inl none) (I1, S1)) (k : Ev (d + 1) mX4_run (37, [some (vR (some (15, 0, a0))), some (vR (some (20, 0, a1))), some (vR (some (11, 0, a2))), some (vR (some (13, 0, a3))), none], [], (I1, S1)) r) : Ev (d + 1) mX4_run (32, [some (vR (some (15, 0, a0))), some (vR (some (20, 0, a1))), some (vR (some (11, 0, a2))), some (vR (some (13, 0, a3))), none], [vI xs0], (I, S)) r :=
  s_pop rfl rfl <|
  s_aload_n rfl rfl rfl <|
  s_cvV rfl rfl rfl rfl rfl c k
theorem b_X4_run_37 {d : Nat} {r : PO × PM} {I : Nat → Nat → Int} {S : PS} {a0 a1 a2 a3 : Nat} (k : Ev d mX4_run (40, [some (vR (some (15, 0, a0))), some (vR (some (20, 0, a1))), some (vR (some (11, 0, a2))), some (vR (some (13, 0, a3))), some (vI 0)], [], (I, S)) r) : Ev d mX4_run (37, [some (vR (some (15, 0, a0))), some (vR (some (20, 0, a1))), some (vR (some (11, 0, a2))), some (vR (some (13, 0, a3))), none], [], (I, S)) r :=
  s_iconst rfl rfl <|
  s_istore [some (vR (some (15, 0, a0))), some (vR (some (20, 0, a1))), some (vR (some (11, 0, a2))), some (vR (some (13, 0, a3))), some (vI 0)] rfl rfl <|
  k
theorem b_X4_run_40 {d : Nat} {r : PO × PM} {I : Nat → Nat → Int} {S : PS} {a0 a1 a2 a3 : Nat} {x4 : Int} (kt : 700 < x4 → Ev d mX4_run (101, [some (vR (some (15, 0, a0))), some (vR (some (20, 0, a1))), some (vR (some (11, 0, a2))), some (vR (some (13, 0, a3))), some (vI x4)], [], (I, S)) r) (kf : x4 ≤ 700 → Ev d mX4_run (48, [some (vR (some (15, 0, a0))), some (vR (some (20, 0, a1))), some (vR (some (11, 0, a2))), some (vR (some (13, 0, a3))), some (vI x4)], [], (I, S)) r) : Ev d mX4_run (40, [some (vR (some (15, 0, a0))), some (vR (some (20, 0, a1))), some (vR (some (11, 0, a2))), some (vR (some (13, 0, a3))), some (vI x4)], [], (I, S)) r :=
  s_iload rfl rfl rfl <|
  s_sipush rfl rfl <|
  s_icmp_gt 101 rfl rfl kt kf
theorem b_X4_run_48 {d : Nat} {r : PO × PM} {I : Nat → Nat → Int} {S : PS} {a0 a1 a2 a3 : Nat} {x4 : Int} (kt : I a1 3 = 0 → Ev d mX4_run (101, [some (vR (some (15, 0, a0))), some (vR (some (20, 0, a1))), some (vR (some (11, 0, a2))), some (vR (some (13, 0, a3))), some (vI x4)], [], (I, S)) r) (kf : I a1 3 ≠ 0 → Ev d mX4_run (55, [some (vR (some (15, 0, a0))), some (vR (some (20, 0, a1))), some (vR (some (11, 0, a2))), some (vR (some (13, 0, a3))), some (vI x4)], [], (I, S)) r) : Ev d mX4_run (48, [some (vR (some (15, 0, a0))), some (vR (some (20, 0, a1))), some (vR (some (11, 0, a2))), some (vR (some (13, 0, a3))), some (vI x4)], [], (I, S)) r :=
  s_aload_n rfl rfl rfl <|
  s_getI rfl rfl rfl <|
  s_if_eq 101 rfl rfl kt kf
theorem b_X4_run_55 {d : Nat} {r : PO × PM} {I : Nat → Nat → Int} {S : PS} {a0 a1 a2 a3 : Nat} {x4 : Int} (kt : I a0 8 ≠ (-1) → Ev d mX4_run (101, [some (vR (some (15, 0, a0))), some (vR (some (20, 0, a1))), some (vR (some (11, 0, a2))), some (vR (some (13, 0, a3))), some (vI x4)], [], (I, S)) r) (kf : I a0 8 = (-1) → Ev d mX4_run (63, [some (vR (some (15, 0, a0))), some (vR (some (20, 0, a1))), some (vR (some (11, 0, a2))), some (vR (some (13, 0, a3))), some (vI x4)], [], (I, S)) r) : Ev d mX4_run (55, [some (vR (some (15, 0, a0))), some (vR (some (20, 0, a1))), some (vR (some (11, 0, a2))), some (vR (some (13, 0, a3))), some (vI x4)], [], (I, S)) r :=
  s_aload_n rfl rfl rfl <|
  s_getI rfl rfl rfl <|
  s_iconst rfl rfl <|
  s_icmp_ne 101 rfl rfl kt kf
theorem b_X4_run_63 {d : Nat} {r : PO × PM} {I : Nat → Nat → Int} {S : PS} {a0 a1 a2 a3 : Nat} {x4 z : Int} {I1 : Nat → Nat → Int} {S1 : PS} (c : Ca d mX4_takeStep [vR (some (15, 0, a0)), vR (some (20, 0, a1)), vR (some (11, 0, a2))] (I, S) (.inl (some (vI z))) (I1, S1)) (k : Ev (d + 1) mX4_run (70, [some (vR (some (15, 0, a0))), some (vR (some (20, 0, a1))), some (vR (some (11, 0, a2))), some (vR (some (13, 0, a3))), some (vI x4)], [vI z, vR (some (15, 0, a0))], (I1, S1)) r) : Ev (d + 1) mX4_run (63, [some (vR (some (15, 0, a0))), some (vR (some (20, 0, a1))), some (vR (some (11, 0, a2))), some (vR (some (13, 0, a3))), some (vI x4)], [], (I, S)) r :=
  s_aload_n rfl rfl rfl <|
  s_aload_n rfl rfl rfl <|
  s_aload_n rfl rfl rfl <|
  s_aload_n rfl rfl rfl <|
  s_cvI rfl rfl rfl rfl rfl c k
theorem b_X4_run_70 {d : Nat} {r : PO × PM} {I : Nat → Nat → Int} {S : PS} {a0 a1 a2 a3 as0 : Nat} {x4 xs1 : Int} (kt : (up2 I as0 8 xs1) a0 8 ≠ (-1) → Ev d mX4_run (95, [some (vR (some (15, 0, a0))), some (vR (some (20, 0, a1))), some (vR (some (11, 0, a2))), some (vR (some (13, 0, a3))), some (vI x4)], [], ((up2 I as0 8 xs1), S)) r) (kf : (up2 I as0 8 xs1) a0 8 = (-1) → Ev d mX4_run (81, [some (vR (some (15, 0, a0))), some (vR (some (20, 0, a1))), some (vR (some (11, 0, a2))), some (vR (some (13, 0, a3))), some (vI x4)], [], ((up2 I as0 8 xs1), S)) r) : Ev d mX4_run (70, [some (vR (some (15, 0, a0))), some (vR (some (20, 0, a1))), some (vR (some (11, 0, a2))), some (vR (some (13, 0, a3))), some (vI x4)], [vI xs1, vR (some (15, 0, as0))], (I, S)) r :=
  s_putI rfl rfl rfl <|
  s_aload_n rfl rfl rfl <|
  s_getI rfl rfl rfl <|
  s_iconst rfl rfl <|
  s_icmp_ne 95 rfl rfl kt kf
theorem b_X4_run_81 {d : Nat} {r : PO × PM} {I : Nat → Nat → Int} {S : PS} {a0 a1 a2 a3 : Nat} {x4 : Int} {I1 : Nat → Nat → Int} {S1 : PS} (ho1 : -2147483648 ≤ I a0 7 + 1 ∧ I a0 7 + 1 ≤ 2147483647) (c : Ca d mX10_advance [vR (some (20, 0, a1))] ((up2 I a0 7 (I a0 7 + 1)), S) (.inl none) (I1, S1)) (k : Ev (d + 1) mX4_run (95, [some (vR (some (15, 0, a0))), some (vR (some (20, 0, a1))), some (vR (some (11, 0, a2))), some (vR (some (13, 0, a3))), some (vI x4)], [], (I1, S1)) r) : Ev (d + 1) mX4_run (81, [some (vR (some (15, 0, a0))), some (vR (some (20, 0, a1))), some (vR (some (11, 0, a2))), some (vR (some (13, 0, a3))), some (vI x4)], [], (I, S)) r :=
  s_aload_n rfl rfl rfl <|
  s_dup rfl rfl <|
  s_getI rfl rfl rfl <|
  s_iconst rfl rfl <|
  s_iaddp rfl ho1 <|
  s_putI rfl rfl rfl <|
  s_aload_n rfl rfl rfl <|
  s_cvV rfl rfl rfl rfl rfl c k
theorem b_X4_run_95 {d : Nat} {r : PO × PM} {I : Nat → Nat → Int} {S : PS} {a0 a1 a2 a3 : Nat} {x4 : Int} (ho1 : -2147483648 ≤ x4 + 1 ∧ x4 + 1 ≤ 2147483647) (k : Ev d mX4_run (40, [some (vR (some (15, 0, a0))), some (vR (some (20, 0, a1))), some (vR (some (11, 0, a2))), some (vR (some (13, 0, a3))), some (vI (x4 + 1))], [], (I, S)) r) : Ev d mX4_run (95, [some (vR (some (15, 0, a0))), some (vR (some (20, 0, a1))), some (vR (some (11, 0, a2))), some (vR (some (13, 0, a3))), some (vI x4)], [], (I, S)) r :=
  s_iincp [some (vR (some (15, 0, a0))), some (vR (some (20, 0, a1))), some (vR (some (11, 0, a2))), some (vR (some (13, 0, a3))), some (vI (x4 + 1))] rfl rfl ho1 rfl <|
  s_goto 40 rfl rfl k
theorem b_X4_run_101 {d : Nat} {r : PO × PM} {I : Nat → Nat → Int} {S : PS} {a0 a1 a2 a3 p1 : Nat} {x4 z : Int} {I1 : Nat → Nat → Int} {S1 : PS} (hr1 : S.1 a0 0 = some (13, 0, p1)) (c : Ca d mX2_paintedCount [vR (some (13, 0, p1))] (I, S) (.inl (some (vI z))) (I1, S1)) (k : Ev (d + 1) mX4_run (109, [some (vR (some (15, 0, a0))), some (vR (some (20, 0, a1))), some (vR (some (11, 0, a2))), some (vR (some (13, 0, a3))), some (vI x4)], [vI z, vR (some (15, 0, a0))], (I1, S1)) r) : Ev (d + 1) mX4_run (101, [some (vR (some (15, 0, a0))), some (vR (some (20, 0, a1))), some (vR (some (11, 0, a2))), some (vR (some (13, 0, a3))), some (vI x4)], [], (I, S)) r :=
  s_aload_n rfl rfl rfl <|
  s_aload_n rfl rfl rfl <|
  s_getR rfl rfl rfl hr1 <|
  s_cvI rfl rfl rfl rfl rfl c k
theorem b_X4_run_109 {d : Nat} {r : PO × PM} {I : Nat → Nat → Int} {S : PS} {a0 a1 a2 a3 as0 : Nat} {x4 xs1 : Int} {I1 : Nat → Nat → Int} {S1 : PS} (c : Ca d mX4_takeAllOff [vR (some (15, 0, a0))] ((up2 I as0 9 xs1), S) (.inl none) (I1, S1)) (k : Ev (d + 1) mX4_run (116, [some (vR (some (15, 0, a0))), some (vR (some (20, 0, a1))), some (vR (some (11, 0, a2))), some (vR (some (13, 0, a3))), some (vI x4)], [], (I1, S1)) r) : Ev (d + 1) mX4_run (109, [some (vR (some (15, 0, a0))), some (vR (some (20, 0, a1))), some (vR (some (11, 0, a2))), some (vR (some (13, 0, a3))), some (vI x4)], [vI xs1, vR (some (15, 0, as0))], (I, S)) r :=
  s_putI rfl rfl rfl <|
  s_aload_n rfl rfl rfl <|
  s_cvV rfl rfl rfl rfl rfl c k
theorem b_X4_run_116 {d : Nat} {I : Nat → Nat → Int} {S : PS} {a0 a1 a2 a3 : Nat} {x4 : Int} : Ev d mX4_run (116, [some (vR (some (15, 0, a0))), some (vR (some (20, 0, a1))), some (vR (some (11, 0, a2))), some (vR (some (13, 0, a3))), some (vI x4)], [], (I, S)) (.inl none, (I, S)) :=
  s_vret rfl rfl
theorem b_X4_takeStep_0 {d : Nat} {r : PO × PM} {I : Nat → Nat → Int} {S : PS} {a0 a1 a2 : Nat} {I1 : Nat → Nat → Int} {S1 : PS} {z : Int} (c : Ca d mX4_deedOf [vR (some (20, 0, a1))] (I, S) (.inl (some (vI z))) (I1, S1)) (k : Ev (d + 1) mX4_takeStep (9, [some (vR (some (15, 0, a0))), some (vR (some (20, 0, a1))), some (vR (some (11, 0, a2))), some (vI (I a1 4)), none, none, none, none, none], [vI z], (I1, S1)) r) : Ev (d + 1) mX4_takeStep (0, [some (vR (some (15, 0, a0))), some (vR (some (20, 0, a1))), some (vR (some (11, 0, a2))), none, none, none, none, none, none], [], (I, S)) r :=
  s_aload_n rfl rfl rfl <|
  s_getI rfl rfl rfl <|
  s_istore_n [some (vR (some (15, 0, a0))), some (vR (some (20, 0, a1))), some (vR (some (11, 0, a2))), some (vI (I a1 4)), none, none, none, none, none] rfl rfl <|
  s_aload_n rfl rfl rfl <|
  s_csI rfl rfl rfl rfl rfl rfl c k
theorem b_X4_takeStep_9 {d : Nat} {r : PO × PM} {I : Nat → Nat → Int} {S : PS} {a0 a1 a2 : Nat} {x3 xs0 : Int} (kt : xs0 ≠ (-1) → Ev d mX4_takeStep (19, [some (vR (some (15, 0, a0))), some (vR (some (20, 0, a1))), some (vR (some (11, 0, a2))), some (vI x3), some (vI xs0), none, none, none, none], [], (I, S)) r) (kf : xs0 = (-1) → Ev d mX4_takeStep (17, [some (vR (some (15, 0, a0))), some (vR (some (20, 0, a1))), some (vR (some (11, 0, a2))), some (vI x3), some (vI xs0), none, none, none, none], [], (I, S)) r) : Ev d mX4_takeStep (9, [some (vR (some (15, 0, a0))), some (vR (some (20, 0, a1))), some (vR (some (11, 0, a2))), some (vI x3), none, none, none, none, none], [vI xs0], (I, S)) r :=
  s_istore [some (vR (some (15, 0, a0))), some (vR (some (20, 0, a1))), some (vR (some (11, 0, a2))), some (vI x3), some (vI xs0), none, none, none, none] rfl rfl <|
  s_iload rfl rfl rfl <|
  s_iconst rfl rfl <|
  s_icmp_ne 19 rfl rfl kt kf
theorem b_X4_takeStep_17 {d : Nat} {I : Nat → Nat → Int} {S : PS} {a0 a1 a2 : Nat} {x3 x4 : Int} : Ev d mX4_takeStep (17, [some (vR (some (15, 0, a0))), some (vR (some (20, 0, a1))), some (vR (some (11, 0, a2))), some (vI x3), some (vI x4), none, none, none, none], [], (I, S)) (.inl (some (vI x3)), (I, S)) :=
  s_iload_n rfl rfl rfl <|
  s_ret rfl rfl
theorem b_X4_takeStep_19 {d : Nat} {r : PO × PM} {I : Nat → Nat → Int} {S : PS} {a0 a1 a2 : Nat} {x3 x4 z : Int} {I1 : Nat → Nat → Int} {S1 : PS} (c : Ca d mX4_numbersOf [vI x4] (I, S) (.inl (some (vI z))) (I1, S1)) (k : Ev (d + 1) mX4_takeStep (30, [some (vR (some (15, 0, a0))), some (vR (some (20, 0, a1))), some (vR (some (11, 0, a2))), some (vI x3), some (vI x4), some (vI 0), some (vI 0), none, none], [vI z], (I1, S1)) r) : Ev (d + 1) mX4_takeStep (19, [some (vR (some (15, 0, a0))), some (vR (some (20, 0, a1))), some (vR (some (11, 0, a2))), some (vI x3), some (vI x4), none, none, none, none], [], (I, S)) r :=
  s_iconst rfl rfl <|
  s_istore [some (vR (some (15, 0, a0))), some (vR (some (20, 0, a1))), some (vR (some (11, 0, a2))), some (vI x3), some (vI x4), some (vI 0), none, none, none] rfl rfl <|
  s_iconst rfl rfl <|
  s_istore [some (vR (some (15, 0, a0))), some (vR (some (20, 0, a1))), some (vR (some (11, 0, a2))), some (vI x3), some (vI x4), some (vI 0), some (vI 0), none, none] rfl rfl <|
  s_iload rfl rfl rfl <|
  s_csI rfl rfl rfl rfl rfl rfl c k
theorem b_X4_takeStep_30 {d : Nat} {r : PO × PM} {I : Nat → Nat → Int} {S : PS} {a0 a1 a2 : Nat} {x3 x4 x5 x6 xs0 : Int} (k : Ev d mX4_takeStep (35, [some (vR (some (15, 0, a0))), some (vR (some (20, 0, a1))), some (vR (some (11, 0, a2))), some (vI x3), some (vI x4), some (vI x5), some (vI x6), some (vI xs0), some (vI 0)], [], (I, S)) r) : Ev d mX4_takeStep (30, [some (vR (some (15, 0, a0))), some (vR (some (20, 0, a1))), some (vR (some (11, 0, a2))), some (vI x3), some (vI x4), some (vI x5), some (vI x6), none, none], [vI xs0], (I, S)) r :=
  s_istore [some (vR (some (15, 0, a0))), some (vR (some (20, 0, a1))), some (vR (some (11, 0, a2))), some (vI x3), some (vI x4), some (vI x5), some (vI x6), some (vI xs0), none] rfl rfl <|
  s_iconst rfl rfl <|
  s_istore [some (vR (some (15, 0, a0))), some (vR (some (20, 0, a1))), some (vR (some (11, 0, a2))), some (vI x3), some (vI x4), some (vI x5), some (vI x6), some (vI xs0), some (vI 0)] rfl rfl <|
  k
theorem b_X4_takeStep_35 {d : Nat} {r : PO × PM} {I : Nat → Nat → Int} {S : PS} {a0 a1 a2 : Nat} {x3 x4 x5 x6 x7 x8 : Int} (kt : x7 ≤ x8 → Ev d mX4_takeStep (95, [some (vR (some (15, 0, a0))), some (vR (some (20, 0, a1))), some (vR (some (11, 0, a2))), some (vI x3), some (vI x4), some (vI x5), some (vI x6), some (vI x7), some (vI x8)], [], (I, S)) r) (kf : x8 < x7 → Ev d mX4_takeStep (42, [some (vR (some (15, 0, a0))), some (vR (some (20, 0, a1))), some (vR (some (11, 0, a2))), some (vI x3), some (vI x4), some (vI x5), some (vI x6), some (vI x7), some (vI x8)], [], (I, S)) r) : Ev d mX4_takeStep (35, [some (vR (some (15, 0, a0))), some (vR (some (20, 0, a1))), some (vR (some (11, 0, a2))), some (vI x3), some (vI x4), some (vI x5), some (vI x6), some (vI x7), some (vI x8)], [], (I, S)) r :=
  s_iload rfl rfl rfl <|
  s_iload rfl rfl rfl <|
  s_icmp_ge 95 rfl rfl kt kf
theorem b_X4_takeStep_42 {d : Nat} {r : PO × PM} {I : Nat → Nat → Int} {S : PS} {a0 a1 a2 : Nat} {x3 x4 x5 x6 x7 x8 : Int} {I1 : Nat → Nat → Int} {S1 : PS} (c : Ca d mX10_advance [vR (some (20, 0, a1))] (I, S) (.inl none) (I1, S1)) (k : Ev (d + 1) mX4_takeStep (46, [some (vR (some (15, 0, a0))), some (vR (some (20, 0, a1))), some (vR (some (11, 0, a2))), some (vI x3), some (vI x4), some (vI x5), some (vI x6), some (vI x7), some (vI x8)], [], (I1, S1)) r) : Ev (d + 1) mX4_takeStep (42, [some (vR (some (15, 0, a0))), some (vR (some (20, 0, a1))), some (vR (some (11, 0, a2))), some (vI x3), some (vI x4), some (vI x5), some (vI x6), some (vI x7), some (vI x8)], [], (I, S)) r :=
  s_aload_n rfl rfl rfl <|
  s_cvV rfl rfl rfl rfl rfl c k
theorem b_X4_takeStep_46 {d : Nat} {r : PO × PM} {I : Nat → Nat → Int} {S : PS} {a0 a1 a2 : Nat} {x3 x4 x5 x6 x7 x8 : Int} (kt : I a1 3 ≠ 2 → Ev d mX4_takeStep (64, [some (vR (some (15, 0, a0))), some (vR (some (20, 0, a1))), some (vR (some (11, 0, a2))), some (vI x3), some (vI x4), some (vI x5), some (vI x6), some (vI x7), some (vI x8)], [], (I, S)) r) (kf : I a1 3 = 2 → Ev d mX4_takeStep (54, [some (vR (some (15, 0, a0))), some (vR (some (20, 0, a1))), some (vR (some (11, 0, a2))), some (vI x3), some (vI x4), some (vI x5), some (vI x6), some (vI x7), some (vI x8)], [], (I, S)) r) : Ev d mX4_takeStep (46, [some (vR (some (15, 0, a0))), some (vR (some (20, 0, a1))), some (vR (some (11, 0, a2))), some (vI x3), some (vI x4), some (vI x5), some (vI x6), some (vI x7), some (vI x8)], [], (I, S)) r :=
  s_aload_n rfl rfl rfl <|
  s_getI rfl rfl rfl <|
  s_iconst rfl rfl <|
  s_icmp_ne 64 rfl rfl kt kf
theorem b_X4_takeStep_54 {d : Nat} {r : PO × PM} {I : Nat → Nat → Int} {S : PS} {a0 a1 a2 : Nat} {x3 x4 x5 x6 x7 x8 : Int} (kt : I a1 5 ≠ 10000 → Ev d mX4_takeStep (69, [some (vR (some (15, 0, a0))), some (vR (some (20, 0, a1))), some (vR (some (11, 0, a2))), some (vI x3), some (vI x4), some (vI x5), some (vI x6), some (vI x7), some (vI x8)], [], (I, S)) r) (kf : I a1 5 = 10000 → Ev d mX4_takeStep (64, [some (vR (some (15, 0, a0))), some (vR (some (20, 0, a1))), some (vR (some (11, 0, a2))), some (vI x3), some (vI x4), some (vI x5), some (vI x6), some (vI x7), some (vI x8)], [], (I, S)) r) : Ev d mX4_takeStep (54, [some (vR (some (15, 0, a0))), some (vR (some (20, 0, a1))), some (vR (some (11, 0, a2))), some (vI x3), some (vI x4), some (vI x5), some (vI x6), some (vI x7), some (vI x8)], [], (I, S)) r :=
  s_aload_n rfl rfl rfl <|
  s_getI rfl rfl rfl <|
  s_sipush rfl rfl <|
  s_icmp_ne 69 rfl rfl kt kf
theorem b_X4_takeStep_64 {d : Nat} {I : Nat → Nat → Int} {S : PS} {a0 a1 a2 : Nat} {x3 x4 x5 x6 x7 x8 : Int} : Ev d mX4_takeStep (64, [some (vR (some (15, 0, a0))), some (vR (some (20, 0, a1))), some (vR (some (11, 0, a2))), some (vI x3), some (vI x4), some (vI x5), some (vI x6), some (vI x7), some (vI x8)], [], (I, S)) (.inl (some (vI (I a1 4))), (I, S)) :=
  s_aload_n rfl rfl rfl <|
  s_getI rfl rfl rfl <|
  s_ret rfl rfl
theorem b_X4_takeStep_69 {d : Nat} {r : PO × PM} {I : Nat → Nat → Int} {S : PS} {a0 a1 a2 : Nat} {x3 x4 x5 x6 x7 x8 : Int} (kt : x8 ≠ 0 → Ev d mX4_takeStep (83, [some (vR (some (15, 0, a0))), some (vR (some (20, 0, a1))), some (vR (some (11, 0, a2))), some (vI x3), some (vI x4), some (vI x5), some (vI x6), some (vI x7), some (vI x8)], [], (I, S)) r) (kf : x8 = 0 → Ev d mX4_takeStep (74, [some (vR (some (15, 0, a0))), some (vR (some (20, 0, a1))), some (vR (some (11, 0, a2))), some (vI x3), some (vI x4), some (vI x5), some (vI x6), some (vI x7), some (vI x8)], [], (I, S)) r) : Ev d mX4_takeStep (69, [some (vR (some (15, 0, a0))), some (vR (some (20, 0, a1))), some (vR (some (11, 0, a2))), some (vI x3), some (vI x4), some (vI x5), some (vI x6), some (vI x7), some (vI x8)], [], (I, S)) r :=
  s_iload rfl rfl rfl <|
  s_if_ne 83 rfl rfl kt kf
theorem b_X4_takeStep_74 {d : Nat} {r : PO × PM} {I : Nat → Nat → Int} {S : PS} {a0 a1 a2 : Nat} {x3 x4 x5 x6 x7 x8 : Int} (k : Ev d mX4_takeStep (89, [some (vR (some (15, 0, a0))), some (vR (some (20, 0, a1))), some (vR (some (11, 0, a2))), some (vI x3), some (vI x4), some (vI (I a1 5)), some (vI x6), some (vI x7), some (vI x8)], [], (I, S)) r) : Ev d mX4_takeStep (74, [some (vR (some (15, 0, a0))), some (vR (some (20, 0, a1))), some (vR (some (11, 0, a2))), some (vI x3), some (vI x4), some (vI x5), some (vI x6), some (vI x7), some (vI x8)], [], (I, S)) r :=
  s_aload_n rfl rfl rfl <|
  s_getI rfl rfl rfl <|
  s_istore [some (vR (some (15, 0, a0))), some (vR (some (20, 0, a1))), some (vR (some (11, 0, a2))), some (vI x3), some (vI x4), some (vI (I a1 5)), some (vI x6), some (vI x7), some (vI x8)] rfl rfl <|
  s_goto 89 rfl rfl k
theorem b_X4_takeStep_83 {d : Nat} {r : PO × PM} {I : Nat → Nat → Int} {S : PS} {a0 a1 a2 : Nat} {x3 x4 x5 x6 x7 x8 : Int} (k : Ev d mX4_takeStep (89, [some (vR (some (15, 0, a0))), some (vR (some (20, 0, a1))), some (vR (some (11, 0, a2))), some (vI x3), some (vI x4), some (vI x5), some (vI (I a1 5)), some (vI x7), some (vI x8)], [], (I, S)) r) : Ev d mX4_takeStep (83, [some (vR (some (15, 0, a0))), some (vR (some (20, 0, a1))), some (vR (some (11, 0, a2))), some (vI x3), some (vI x4), some (vI x5), some (vI x6), some (vI x7), some (vI x8)], [], (I, S)) r :=
  s_aload_n rfl rfl rfl <|
  s_getI rfl rfl rfl <|
  s_istore [some (vR (some (15, 0, a0))), some (vR (some (20, 0, a1))), some (vR (some (11, 0, a2))), some (vI x3), some (vI x4), some (vI x5), some (vI (I a1 5)), some (vI x7), some (vI x8)] rfl rfl <|
  k
theorem b_X4_takeStep_89 {d : Nat} {r : PO × PM} {I : Nat → Nat → Int} {S : PS} {a0 a1 a2 : Nat} {x3 x4 x5 x6 x7 x8 : Int} (ho1 : -2147483648 ≤ x8 + 1 ∧ x8 + 1 ≤ 2147483647) (k : Ev d mX4_takeStep (35, [some (vR (some (15, 0, a0))), some (vR (some (20, 0, a1))), some (vR (some (11, 0, a2))), some (vI x3), some (vI x4), some (vI x5), some (vI x6), some (vI x7), some (vI (x8 + 1))], [], (I, S)) r) : Ev d mX4_takeStep (89, [some (vR (some (15, 0, a0))), some (vR (some (20, 0, a1))), some (vR (some (11, 0, a2))), some (vI x3), some (vI x4), some (vI x5), some (vI x6), some (vI x7), some (vI x8)], [], (I, S)) r :=
  s_iincp [some (vR (some (15, 0, a0))), some (vR (some (20, 0, a1))), some (vR (some (11, 0, a2))), some (vI x3), some (vI x4), some (vI x5), some (vI x6), some (vI x7), some (vI (x8 + 1))] rfl rfl ho1 rfl <|
  s_goto 35 rfl rfl k
theorem b_X4_takeStep_95 {d : Nat} {r : PO × PM} {I : Nat → Nat → Int} {S : PS} {a0 a1 a2 : Nat} {x3 x4 x5 x6 x7 x8 : Int} {I1 : Nat → Nat → Int} {S1 : PS} (c : Ca d mX10_advance [vR (some (20, 0, a1))] (I, S) (.inl none) (I1, S1)) (k : Ev (d + 1) mX4_takeStep (99, [some (vR (some (15, 0, a0))), some (vR (some (20, 0, a1))), some (vR (some (11, 0, a2))), some (vI x3), some (vI x4), some (vI x5), some (vI x6), some (vI x7), some (vI x8)], [], (I1, S1)) r) : Ev (d + 1) mX4_takeStep (95, [some (vR (some (15, 0, a0))), some (vR (some (20, 0, a1))), some (vR (some (11, 0, a2))), some (vI x3), some (vI x4), some (vI x5), some (vI x6), some (vI x7), some (vI x8)], [], (I, S)) r :=
  s_aload_n rfl rfl rfl <|
  s_cvV rfl rfl rfl rfl rfl c k
theorem b_X4_takeStep_99 {d : Nat} {r : PO × PM} {I : Nat → Nat → Int} {S : PS} {a0 a1 a2 : Nat} {x3 x4 x5 x6 x7 x8 : Int} (kt : I a1 3 = 3 → Ev d mX4_takeStep (112, [some (vR (some (15, 0, a0))), some (vR (some (20, 0, a1))), some (vR (some (11, 0, a2))), some (vI x3), some (vI x4), some (vI x5), some (vI x6), some (vI x7), some (vI x8)], [], (I, S)) r) (kf : I a1 3 ≠ 3 → Ev d mX4_takeStep (107, [some (vR (some (15, 0, a0))), some (vR (some (20, 0, a1))), some (vR (some (11, 0, a2))), some (vI x3), some (vI x4), some (vI x5), some (vI x6), some (vI x7), some (vI x8)], [], (I, S)) r) : Ev d mX4_takeStep (99, [some (vR (some (15, 0, a0))), some (vR (some (20, 0, a1))), some (vR (some (11, 0, a2))), some (vI x3), some (vI x4), some (vI x5), some (vI x6), some (vI x7), some (vI x8)], [], (I, S)) r :=
  s_aload_n rfl rfl rfl <|
  s_getI rfl rfl rfl <|
  s_iconst rfl rfl <|
  s_icmp_eq 112 rfl rfl kt kf
theorem b_X4_takeStep_107 {d : Nat} {I : Nat → Nat → Int} {S : PS} {a0 a1 a2 : Nat} {x3 x4 x5 x6 x7 x8 : Int} : Ev d mX4_takeStep (107, [some (vR (some (15, 0, a0))), some (vR (some (20, 0, a1))), some (vR (some (11, 0, a2))), some (vI x3), some (vI x4), some (vI x5), some (vI x6), some (vI x7), some (vI x8)], [], (I, S)) (.inl (some (vI (I a1 4))), (I, S)) :=
  s_aload_n rfl rfl rfl <|
  s_getI rfl rfl rfl <|
  s_ret rfl rfl
theorem b_X4_takeStep_112 {d : Nat} {r : PO × PM} {I : Nat → Nat → Int} {S : PS} {a0 a1 a2 : Nat} {x3 x4 x5 x6 x7 x8 z : Int} {I1 : Nat → Nat → Int} {S1 : PS} (c : Ca d mX4_perform [vR (some (15, 0, a0)), vR (some (11, 0, a2)), vI x4, vI x5, vI x6] (I, S) (.inl (some (vI z))) (I1, S1)) (k : Ev (d + 1) mX4_takeStep (123, [some (vR (some (15, 0, a0))), some (vR (some (20, 0, a1))), some (vR (some (11, 0, a2))), some (vI x3), some (vI x4), some (vI x5), some (vI x6), some (vI x7), some (vI x8)], [vI z], (I1, S1)) r) : Ev (d + 1) mX4_takeStep (112, [some (vR (some (15, 0, a0))), some (vR (some (20, 0, a1))), some (vR (some (11, 0, a2))), some (vI x3), some (vI x4), some (vI x5), some (vI x6), some (vI x7), some (vI x8)], [], (I, S)) r :=
  s_aload_n rfl rfl rfl <|
  s_aload_n rfl rfl rfl <|
  s_iload rfl rfl rfl <|
  s_iload rfl rfl rfl <|
  s_iload rfl rfl rfl <|
  s_cvI rfl rfl rfl rfl rfl c k
theorem b_X4_takeStep_123 {d : Nat} {r : PO × PM} {I : Nat → Nat → Int} {S : PS} {a0 a1 a2 : Nat} {x3 x4 x5 x6 x7 x8 xs0 : Int} (kt : xs0 = 0 → Ev d mX4_takeStep (130, [some (vR (some (15, 0, a0))), some (vR (some (20, 0, a1))), some (vR (some (11, 0, a2))), some (vI x3), some (vI x4), some (vI x5), some (vI x6), some (vI x7), some (vI x8)], [], (I, S)) r) (kf : xs0 ≠ 0 → Ev d mX4_takeStep (126, [some (vR (some (15, 0, a0))), some (vR (some (20, 0, a1))), some (vR (some (11, 0, a2))), some (vI x3), some (vI x4), some (vI x5), some (vI x6), some (vI x7), some (vI x8)], [], (I, S)) r) : Ev d mX4_takeStep (123, [some (vR (some (15, 0, a0))), some (vR (some (20, 0, a1))), some (vR (some (11, 0, a2))), some (vI x3), some (vI x4), some (vI x5), some (vI x6), some (vI x7), some (vI x8)], [vI xs0], (I, S)) r :=
  s_if_eq 130 rfl rfl kt kf
theorem b_X4_takeStep_126 {d : Nat} {r : PO × PM} {I : Nat → Nat → Int} {S : PS} {a0 a1 a2 : Nat} {x3 x4 x5 x6 x7 x8 : Int} (k : Ev d mX4_takeStep (131, [some (vR (some (15, 0, a0))), some (vR (some (20, 0, a1))), some (vR (some (11, 0, a2))), some (vI x3), some (vI x4), some (vI x5), some (vI x6), some (vI x7), some (vI x8)], [vI (-1)], (I, S)) r) : Ev d mX4_takeStep (126, [some (vR (some (15, 0, a0))), some (vR (some (20, 0, a1))), some (vR (some (11, 0, a2))), some (vI x3), some (vI x4), some (vI x5), some (vI x6), some (vI x7), some (vI x8)], [], (I, S)) r :=
  s_iconst rfl rfl <|
  s_goto 131 rfl rfl k
theorem b_X4_takeStep_130 {d : Nat} {r : PO × PM} {I : Nat → Nat → Int} {S : PS} {a0 a1 a2 : Nat} {x3 x4 x5 x6 x7 x8 : Int} (k : Ev d mX4_takeStep (131, [some (vR (some (15, 0, a0))), some (vR (some (20, 0, a1))), some (vR (some (11, 0, a2))), some (vI x3), some (vI x4), some (vI x5), some (vI x6), some (vI x7), some (vI x8)], [vI x3], (I, S)) r) : Ev d mX4_takeStep (130, [some (vR (some (15, 0, a0))), some (vR (some (20, 0, a1))), some (vR (some (11, 0, a2))), some (vI x3), some (vI x4), some (vI x5), some (vI x6), some (vI x7), some (vI x8)], [], (I, S)) r :=
  s_iload_n rfl rfl rfl <|
  k
theorem b_X4_takeStep_131 {d : Nat} {I : Nat → Nat → Int} {S : PS} {a0 a1 a2 : Nat} {x3 x4 x5 x6 x7 x8 xs0 : Int} : Ev d mX4_takeStep (131, [some (vR (some (15, 0, a0))), some (vR (some (20, 0, a1))), some (vR (some (11, 0, a2))), some (vI x3), some (vI x4), some (vI x5), some (vI x6), some (vI x7), some (vI x8)], [vI xs0], (I, S)) (.inl (some (vI xs0)), (I, S)) :=
  s_ret rfl rfl
theorem b_X4_deedOf_0 {d : Nat} {r : PO × PM} {I : Nat → Nat → Int} {S : PS} {a0 : Nat} {I1 : Nat → Nat → Int} {S1 : PS} {z : Int} (c : Ca d mX10_isWord [vR (some (20, 0, a0)), vR (some (6, 5, 20))] (I, S) (.inl (some (vI z))) (I1, S1)) (k : Ev (d + 1) mX4_deedOf (6, [some (vR (some (20, 0, a0)))], [vI z], (I1, S1)) r) : Ev (d + 1) mX4_deedOf (0, [some (vR (some (20, 0, a0)))], [], (I, S)) r :=
  s_aload_n rfl rfl rfl <|
  s_ldc rfl rfl <|
  s_cvI rfl rfl rfl rfl rfl c k
theorem b_X4_deedOf_6 {d : Nat} {r : PO × PM} {I : Nat → Nat → Int} {S : PS} {a0 : Nat} {xs0 : Int} (kt : xs0 = 0 → Ev d mX4_deedOf (11, [some (vR (some (20, 0, a0)))], [], (I, S)) r) (kf : xs0 ≠ 0 → Ev d mX4_deedOf (9, [some (vR (some (20, 0, a0)))], [], (I, S)) r) : Ev d mX4_deedOf (6, [some (vR (some (20, 0, a0)))], [vI xs0], (I, S)) r :=
  s_if_eq 11 rfl rfl kt kf
theorem b_X4_deedOf_9 {d : Nat} {I : Nat → Nat → Int} {S : PS} {a0 : Nat} : Ev d mX4_deedOf (9, [some (vR (some (20, 0, a0)))], [], (I, S)) (.inl (some (vI 0)), (I, S)) :=
  s_iconst rfl rfl <|
  s_ret rfl rfl
theorem b_X4_deedOf_11 {d : Nat} {r : PO × PM} {I : Nat → Nat → Int} {S : PS} {a0 : Nat} {I1 : Nat → Nat → Int} {S1 : PS} {z : Int} (c : Ca d mX10_isWord [vR (some (20, 0, a0)), vR (some (6, 4, 22))] (I, S) (.inl (some (vI z))) (I1, S1)) (k : Ev (d + 1) mX4_deedOf (17, [some (vR (some (20, 0, a0)))], [vI z], (I1, S1)) r) : Ev (d + 1) mX4_deedOf (11, [some (vR (some (20, 0, a0)))], [], (I, S)) r :=
  s_aload_n rfl rfl rfl <|
  s_ldc rfl rfl <|
  s_cvI rfl rfl rfl rfl rfl c k
theorem b_X4_deedOf_17 {d : Nat} {r : PO × PM} {I : Nat → Nat → Int} {S : PS} {a0 : Nat} {xs0 : Int} (kt : xs0 = 0 → Ev d mX4_deedOf (22, [some (vR (some (20, 0, a0)))], [], (I, S)) r) (kf : xs0 ≠ 0 → Ev d mX4_deedOf (20, [some (vR (some (20, 0, a0)))], [], (I, S)) r) : Ev d mX4_deedOf (17, [some (vR (some (20, 0, a0)))], [vI xs0], (I, S)) r :=
  s_if_eq 22 rfl rfl kt kf
theorem b_X4_deedOf_20 {d : Nat} {I : Nat → Nat → Int} {S : PS} {a0 : Nat} : Ev d mX4_deedOf (20, [some (vR (some (20, 0, a0)))], [], (I, S)) (.inl (some (vI 1)), (I, S)) :=
  s_iconst rfl rfl <|
  s_ret rfl rfl
theorem b_X4_deedOf_22 {d : Nat} {r : PO × PM} {I : Nat → Nat → Int} {S : PS} {a0 : Nat} {I1 : Nat → Nat → Int} {S1 : PS} {z : Int} (c : Ca d mX10_isWord [vR (some (20, 0, a0)), vR (some (6, 4, 24))] (I, S) (.inl (some (vI z))) (I1, S1)) (k : Ev (d + 1) mX4_deedOf (28, [some (vR (some (20, 0, a0)))], [vI z], (I1, S1)) r) : Ev (d + 1) mX4_deedOf (22, [some (vR (some (20, 0, a0)))], [], (I, S)) r :=
  s_aload_n rfl rfl rfl <|
  s_ldc rfl rfl <|
  s_cvI rfl rfl rfl rfl rfl c k
theorem b_X4_deedOf_28 {d : Nat} {r : PO × PM} {I : Nat → Nat → Int} {S : PS} {a0 : Nat} {xs0 : Int} (kt : xs0 = 0 → Ev d mX4_deedOf (33, [some (vR (some (20, 0, a0)))], [], (I, S)) r) (kf : xs0 ≠ 0 → Ev d mX4_deedOf (31, [some (vR (some (20, 0, a0)))], [], (I, S)) r) : Ev d mX4_deedOf (28, [some (vR (some (20, 0, a0)))], [vI xs0], (I, S)) r :=
  s_if_eq 33 rfl rfl kt kf
theorem b_X4_deedOf_31 {d : Nat} {I : Nat → Nat → Int} {S : PS} {a0 : Nat} : Ev d mX4_deedOf (31, [some (vR (some (20, 0, a0)))], [], (I, S)) (.inl (some (vI 2)), (I, S)) :=
  s_iconst rfl rfl <|
  s_ret rfl rfl
theorem b_X4_deedOf_33 {d : Nat} {r : PO × PM} {I : Nat → Nat → Int} {S : PS} {a0 : Nat} {I1 : Nat → Nat → Int} {S1 : PS} {z : Int} (c : Ca d mX10_isWord [vR (some (20, 0, a0)), vR (some (6, 5, 26))] (I, S) (.inl (some (vI z))) (I1, S1)) (k : Ev (d + 1) mX4_deedOf (39, [some (vR (some (20, 0, a0)))], [vI z], (I1, S1)) r) : Ev (d + 1) mX4_deedOf (33, [some (vR (some (20, 0, a0)))], [], (I, S)) r :=
  s_aload_n rfl rfl rfl <|
  s_ldc rfl rfl <|
  s_cvI rfl rfl rfl rfl rfl c k
theorem b_X4_deedOf_39 {d : Nat} {r : PO × PM} {I : Nat → Nat → Int} {S : PS} {a0 : Nat} {xs0 : Int} (kt : xs0 = 0 → Ev d mX4_deedOf (44, [some (vR (some (20, 0, a0)))], [], (I, S)) r) (kf : xs0 ≠ 0 → Ev d mX4_deedOf (42, [some (vR (some (20, 0, a0)))], [], (I, S)) r) : Ev d mX4_deedOf (39, [some (vR (some (20, 0, a0)))], [vI xs0], (I, S)) r :=
  s_if_eq 44 rfl rfl kt kf
theorem b_X4_deedOf_42 {d : Nat} {I : Nat → Nat → Int} {S : PS} {a0 : Nat} : Ev d mX4_deedOf (42, [some (vR (some (20, 0, a0)))], [], (I, S)) (.inl (some (vI 3)), (I, S)) :=
  s_iconst rfl rfl <|
  s_ret rfl rfl
theorem b_X4_deedOf_44 {d : Nat} {r : PO × PM} {I : Nat → Nat → Int} {S : PS} {a0 : Nat} {I1 : Nat → Nat → Int} {S1 : PS} {z : Int} (c : Ca d mX10_isWord [vR (some (20, 0, a0)), vR (some (6, 3, 28))] (I, S) (.inl (some (vI z))) (I1, S1)) (k : Ev (d + 1) mX4_deedOf (50, [some (vR (some (20, 0, a0)))], [vI z], (I1, S1)) r) : Ev (d + 1) mX4_deedOf (44, [some (vR (some (20, 0, a0)))], [], (I, S)) r :=
  s_aload_n rfl rfl rfl <|
  s_ldc rfl rfl <|
  s_cvI rfl rfl rfl rfl rfl c k
theorem b_X4_deedOf_50 {d : Nat} {r : PO × PM} {I : Nat → Nat → Int} {S : PS} {a0 : Nat} {xs0 : Int} (kt : xs0 = 0 → Ev d mX4_deedOf (57, [some (vR (some (20, 0, a0)))], [], (I, S)) r) (kf : xs0 ≠ 0 → Ev d mX4_deedOf (53, [some (vR (some (20, 0, a0)))], [], (I, S)) r) : Ev d mX4_deedOf (50, [some (vR (some (20, 0, a0)))], [vI xs0], (I, S)) r :=
  s_if_eq 57 rfl rfl kt kf
theorem b_X4_deedOf_53 {d : Nat} {r : PO × PM} {I : Nat → Nat → Int} {S : PS} {a0 : Nat} (k : Ev d mX4_deedOf (58, [some (vR (some (20, 0, a0)))], [vI 4], (I, S)) r) : Ev d mX4_deedOf (53, [some (vR (some (20, 0, a0)))], [], (I, S)) r :=
  s_iconst rfl rfl <|
  s_goto 58 rfl rfl k
theorem b_X4_deedOf_57 {d : Nat} {r : PO × PM} {I : Nat → Nat → Int} {S : PS} {a0 : Nat} (k : Ev d mX4_deedOf (58, [some (vR (some (20, 0, a0)))], [vI (-1)], (I, S)) r) : Ev d mX4_deedOf (57, [some (vR (some (20, 0, a0)))], [], (I, S)) r :=
  s_iconst rfl rfl <|
  k
theorem b_X4_deedOf_58 {d : Nat} {I : Nat → Nat → Int} {S : PS} {a0 : Nat} {xs0 : Int} : Ev d mX4_deedOf (58, [some (vR (some (20, 0, a0)))], [vI xs0], (I, S)) (.inl (some (vI xs0)), (I, S)) :=
  s_ret rfl rfl
theorem b_X4_numbersOf_0 {d : Nat} {r : PO × PM} {I : Nat → Nat → Int} {S : PS} {x0 : Int} (kt : x0 = 0 → Ev d mX4_numbersOf (9, [some (vI x0)], [], (I, S)) r) (kf : x0 ≠ 0 → Ev d mX4_numbersOf (4, [some (vI x0)], [], (I, S)) r) : Ev d mX4_numbersOf (0, [some (vI x0)], [], (I, S)) r :=
  s_iload_n rfl rfl rfl <|
  s_if_eq 9 rfl rfl kt kf
theorem b_X4_numbersOf_4 {d : Nat} {r : PO × PM} {I : Nat → Nat → Int} {S : PS} {x0 : Int} (kt : x0 ≠ 2 → Ev d mX4_numbersOf (11, [some (vI x0)], [], (I, S)) r) (kf : x0 = 2 → Ev d mX4_numbersOf (9, [some (vI x0)], [], (I, S)) r) : Ev d mX4_numbersOf (4, [some (vI x0)], [], (I, S)) r :=
  s_iload_n rfl rfl rfl <|
  s_iconst rfl rfl <|
  s_icmp_ne 11 rfl rfl kt kf
theorem b_X4_numbersOf_9 {d : Nat} {I : Nat → Nat → Int} {S : PS} {x0 : Int} : Ev d mX4_numbersOf (9, [some (vI x0)], [], (I, S)) (.inl (some (vI 2)), (I, S)) :=
  s_iconst rfl rfl <|
  s_ret rfl rfl
theorem b_X4_numbersOf_11 {d : Nat} {r : PO × PM} {I : Nat → Nat → Int} {S : PS} {x0 : Int} (kt : x0 ≠ 1 → Ev d mX4_numbersOf (20, [some (vI x0)], [], (I, S)) r) (kf : x0 = 1 → Ev d mX4_numbersOf (16, [some (vI x0)], [], (I, S)) r) : Ev d mX4_numbersOf (11, [some (vI x0)], [], (I, S)) r :=
  s_iload_n rfl rfl rfl <|
  s_iconst rfl rfl <|
  s_icmp_ne 20 rfl rfl kt kf
theorem b_X4_numbersOf_16 {d : Nat} {r : PO × PM} {I : Nat → Nat → Int} {S : PS} {x0 : Int} (k : Ev d mX4_numbersOf (21, [some (vI x0)], [vI 1], (I, S)) r) : Ev d mX4_numbersOf (16, [some (vI x0)], [], (I, S)) r :=
  s_iconst rfl rfl <|
  s_goto 21 rfl rfl k
theorem b_X4_numbersOf_20 {d : Nat} {r : PO × PM} {I : Nat → Nat → Int} {S : PS} {x0 : Int} (k : Ev d mX4_numbersOf (21, [some (vI x0)], [vI 0], (I, S)) r) : Ev d mX4_numbersOf (20, [some (vI x0)], [], (I, S)) r :=
  s_iconst rfl rfl <|
  k
theorem b_X4_numbersOf_21 {d : Nat} {I : Nat → Nat → Int} {S : PS} {x0 xs0 : Int} : Ev d mX4_numbersOf (21, [some (vI x0)], [vI xs0], (I, S)) (.inl (some (vI xs0)), (I, S)) :=
  s_ret rfl rfl
theorem b_X4_perform_0 {d : Nat} {r : PO × PM} {I : Nat → Nat → Int} {S : PS} {a0 a1 : Nat} {x2 x3 x4 : Int} (kt : x2 ≠ 3 → Ev d mX4_perform (10, [some (vR (some (15, 0, a0))), some (vR (some (11, 0, a1))), some (vI x2), some (vI x3), some (vI x4)], [], (I, S)) r) (kf : x2 = 3 → Ev d mX4_perform (5, [some (vR (some (15, 0, a0))), some (vR (some (11, 0, a1))), some (vI x2), some (vI x3), some (vI x4)], [], (I, S)) r) : Ev d mX4_perform (0, [some (vR (some (15, 0, a0))), some (vR (some (11, 0, a1))), some (vI x2), some (vI x3), some (vI x4)], [], (I, S)) r :=
  s_iload_n rfl rfl rfl <|
  s_iconst rfl rfl <|
  s_icmp_ne 10 rfl rfl kt kf
theorem b_X4_perform_5 {d : Nat} {r : PO × PM} {I : Nat → Nat → Int} {S : PS} {a0 a1 : Nat} {x2 x3 x4 z : Int} {I1 : Nat → Nat → Int} {S1 : PS} (c : Ca d mX4_lay [vR (some (15, 0, a0))] (I, S) (.inl (some (vI z))) (I1, S1)) (k : Ev (d + 1) mX4_perform (9, [some (vR (some (15, 0, a0))), some (vR (some (11, 0, a1))), some (vI x2), some (vI x3), some (vI x4)], [vI z], (I1, S1)) r) : Ev (d + 1) mX4_perform (5, [some (vR (some (15, 0, a0))), some (vR (some (11, 0, a1))), some (vI x2), some (vI x3), some (vI x4)], [], (I, S)) r :=
  s_aload_n rfl rfl rfl <|
  s_cvI rfl rfl rfl rfl rfl c k
theorem b_X4_perform_9 {d : Nat} {I : Nat → Nat → Int} {S : PS} {a0 a1 : Nat} {x2 x3 x4 xs0 : Int} (hb1 : xs0 = 0 ∨ xs0 = 1) : Ev d mX4_perform (9, [some (vR (some (15, 0, a0))), some (vR (some (11, 0, a1))), some (vI x2), some (vI x3), some (vI x4)], [vI xs0], (I, S)) (.inl (some (vI xs0)), (I, S)) :=
  s_retz rfl rfl hb1
theorem b_X4_perform_10 {d : Nat} {r : PO × PM} {I : Nat → Nat → Int} {S : PS} {a0 a1 : Nat} {x2 x3 x4 : Int} (kt : x2 ≠ 4 → Ev d mX4_perform (31, [some (vR (some (15, 0, a0))), some (vR (some (11, 0, a1))), some (vI x2), some (vI x3), some (vI x4)], [], (I, S)) r) (kf : x2 = 4 → Ev d mX4_perform (15, [some (vR (some (15, 0, a0))), some (vR (some (11, 0, a1))), some (vI x2), some (vI x3), some (vI x4)], [], (I, S)) r) : Ev d mX4_perform (10, [some (vR (some (15, 0, a0))), some (vR (some (11, 0, a1))), some (vI x2), some (vI x3), some (vI x4)], [], (I, S)) r :=
  s_iload_n rfl rfl rfl <|
  s_iconst rfl rfl <|
  s_icmp_ne 31 rfl rfl kt kf
theorem b_X4_perform_15 {d : Nat} {r : PO × PM} {I : Nat → Nat → Int} {S : PS} {a0 a1 : Nat} {x2 x3 x4 : Int} (kt : 1 < I a0 3 → Ev d mX4_perform (25, [some (vR (some (15, 0, a0))), some (vR (some (11, 0, a1))), some (vI x2), some (vI x3), some (vI x4)], [], (I, S)) r) (kf : I a0 3 ≤ 1 → Ev d mX4_perform (23, [some (vR (some (15, 0, a0))), some (vR (some (11, 0, a1))), some (vI x2), some (vI x3), some (vI x4)], [], (I, S)) r) : Ev d mX4_perform (15, [some (vR (some (15, 0, a0))), some (vR (some (11, 0, a1))), some (vI x2), some (vI x3), some (vI x4)], [], (I, S)) r :=
  s_aload_n rfl rfl rfl <|
  s_getI rfl rfl rfl <|
  s_iconst rfl rfl <|
  s_icmp_gt 25 rfl rfl kt kf
theorem b_X4_perform_23 {d : Nat} {I : Nat → Nat → Int} {S : PS} {a0 a1 : Nat} {x2 x3 x4 : Int} : Ev d mX4_perform (23, [some (vR (some (15, 0, a0))), some (vR (some (11, 0, a1))), some (vI x2), some (vI x3), some (vI x4)], [], (I, S)) (.inl (some (vI 0)), (I, S)) :=
  s_iconst rfl rfl <|
  s_ret rfl rfl
theorem b_X4_perform_25 {d : Nat} {r : PO × PM} {I : Nat → Nat → Int} {S : PS} {a0 a1 : Nat} {x2 x3 x4 : Int} {I1 : Nat → Nat → Int} {S1 : PS} (c : Ca d mX4_takeOff [vR (some (15, 0, a0))] (I, S) (.inl none) (I1, S1)) (k : Ev (d + 1) mX4_perform (29, [some (vR (some (15, 0, a0))), some (vR (some (11, 0, a1))), some (vI x2), some (vI x3), some (vI x4)], [], (I1, S1)) r) : Ev (d + 1) mX4_perform (25, [some (vR (some (15, 0, a0))), some (vR (some (11, 0, a1))), some (vI x2), some (vI x3), some (vI x4)], [], (I, S)) r :=
  s_aload_n rfl rfl rfl <|
  s_cvV rfl rfl rfl rfl rfl c k
theorem b_X4_perform_29 {d : Nat} {I : Nat → Nat → Int} {S : PS} {a0 a1 : Nat} {x2 x3 x4 : Int} : Ev d mX4_perform (29, [some (vR (some (15, 0, a0))), some (vR (some (11, 0, a1))), some (vI x2), some (vI x3), some (vI x4)], [], (I, S)) (.inl (some (vI 1)), (I, S)) :=
  s_iconst rfl rfl <|
  s_ret rfl rfl
theorem b_X4_perform_31 {d : Nat} {r : PO × PM} {I : Nat → Nat → Int} {S : PS} {a0 a1 p1 : Nat} {x2 x3 x4 z : Int} {I1 : Nat → Nat → Int} {S1 : PS} (hr1 : S.1 a0 0 = some (13, 0, p1)) (c : Ca d mX2_attempt [vR (some (13, 0, p1)), vR (some (11, 0, a1)), vI x2, vI x3, vI x4] (I, S) (.inl (some (vI z))) (I1, S1)) (k : Ev (d + 1) mX4_perform (43, [some (vR (some (15, 0, a0))), some (vR (some (11, 0, a1))), some (vI x2), some (vI x3), some (vI x4)], [vI z], (I1, S1)) r) : Ev (d + 1) mX4_perform (31, [some (vR (some (15, 0, a0))), some (vR (some (11, 0, a1))), some (vI x2), some (vI x3), some (vI x4)], [], (I, S)) r :=
  s_aload_n rfl rfl rfl <|
  s_getR rfl rfl rfl hr1 <|
  s_aload_n rfl rfl rfl <|
  s_iload_n rfl rfl rfl <|
  s_iload_n rfl rfl rfl <|
  s_iload rfl rfl rfl <|
  s_cvI rfl rfl rfl rfl rfl c k
theorem b_X4_perform_43 {d : Nat} {I : Nat → Nat → Int} {S : PS} {a0 a1 : Nat} {x2 x3 x4 xs0 : Int} (hb1 : xs0 = 0 ∨ xs0 = 1) : Ev d mX4_perform (43, [some (vR (some (15, 0, a0))), some (vR (some (11, 0, a1))), some (vI x2), some (vI x3), some (vI x4)], [vI xs0], (I, S)) (.inl (some (vI xs0)), (I, S)) :=
  s_retz rfl rfl hb1
theorem b_X4_lay_0 {d : Nat} {r : PO × PM} {I : Nat → Nat → Int} {S : PS} {a0 : Nat} (kt : I a0 3 < 8 → Ev d mX4_lay (11, [some (vR (some (15, 0, a0)))], [], (I, S)) r) (kf : 8 ≤ I a0 3 → Ev d mX4_lay (9, [some (vR (some (15, 0, a0)))], [], (I, S)) r) : Ev d mX4_lay (0, [some (vR (some (15, 0, a0)))], [], (I, S)) r :=
  s_aload_n rfl rfl rfl <|
  s_getI rfl rfl rfl <|
  s_bipush rfl rfl <|
  s_icmp_lt 11 rfl rfl kt kf
theorem b_X4_lay_9 {d : Nat} {I : Nat → Nat → Int} {S : PS} {a0 : Nat} : Ev d mX4_lay (9, [some (vR (some (15, 0, a0)))], [], (I, S)) (.inl (some (vI 0)), (I, S)) :=
  s_iconst rfl rfl <|
  s_ret rfl rfl
theorem b_X4_lay_11 {d : Nat} {I : Nat → Nat → Int} {S : PS} {a0 p1 p2 q2 p3 q3 p8 q8 : Nat} (hr1 : S.1 a0 0 = some (13, 0, p1)) (hr2 : S.1 p1 0 = some (0, q2, p2)) (hr3 : S.1 a0 1 = some (0, q3, p3)) (ho4 : -2147483648 ≤ (I a0 3) * 4 ∧ (I a0 3) * 4 ≤ 2147483647) (hc5 : 0 ≤ (I a0 3) * 4) (hc6 : (0 : Int) + 4 ≤ (q2 : Nat)) (hc7 : (I a0 3) * 4 + 4 ≤ (q3 : Nat)) (hr8 : S.1 a0 2 = some (0, q8, p8)) (hi9 : 0 ≤ (cpyI I p2 0 p3 (((I a0 3) * 4).toNat) 4) a0 3 ∧ (cpyI I p2 0 p3 (((I a0 3) * 4).toNat) 4) a0 3 < (q8 : Nat)) (ho10 : -2147483648 ≤ ((up2 (cpyI I p2 0 p3 (((I a0 3) * 4).toNat) 4) p8 (((cpyI I p2 0 p3 (((I a0 3) * 4).toNat) 4) a0 3).toNat) ((cpyI I p2 0 p3 (((I a0 3) * 4).toNat) 4) a0 4)) a0 4) + 1 ∧ ((up2 (cpyI I p2 0 p3 (((I a0 3) * 4).toNat) 4) p8 (((cpyI I p2 0 p3 (((I a0 3) * 4).toNat) 4) a0 3).toNat) ((cpyI I p2 0 p3 (((I a0 3) * 4).toNat) 4) a0 4)) a0 4) + 1 ≤ 2147483647) (ho11 : -2147483648 ≤ ((up2 (up2 (cpyI I p2 0 p3 (((I a0 3) * 4).toNat) 4) p8 (((cpyI I p2 0 p3 (((I a0 3) * 4).toNat) 4) a0 3).toNat) ((cpyI I p2 0 p3 (((I a0 3) * 4).toNat) 4) a0 4)) a0 4 (((up2 (cpyI I p2 0 p3 (((I a0 3) * 4).toNat) 4) p8 (((cpyI I p2 0 p3 (((I a0 3) * 4).toNat) 4) a0 3).toNat) ((cpyI I p2 0 p3 (((I a0 3) * 4).toNat) 4) a0 4)) a0 4) + 1)) a0 3) + 1 ∧ ((up2 (up2 (cpyI I p2 0 p3 (((I a0 3) * 4).toNat) 4) p8 (((cpyI I p2 0 p3 (((I a0 3) * 4).toNat) 4) a0 3).toNat) ((cpyI I p2 0 p3 (((I a0 3) * 4).toNat) 4) a0 4)) a0 4 (((up2 (cpyI I p2 0 p3 (((I a0 3) * 4).toNat) 4) p8 (((cpyI I p2 0 p3 (((I a0 3) * 4).toNat) 4) a0 3).toNat) ((cpyI I p2 0 p3 (((I a0 3) * 4).toNat) 4) a0 4)) a0 4) + 1)) a0 3) + 1 ≤ 2147483647) : Ev d mX4_lay (11, [some (vR (some (15, 0, a0)))], [], (I, S)) (.inl (some (vI 1)), ((up2 (up2 (up2 (up2 (cpyI I p2 0 p3 (((I a0 3) * 4).toNat) 4) p8 (((cpyI I p2 0 p3 (((I a0 3) * 4).toNat) 4) a0 3).toNat) ((cpyI I p2 0 p3 (((I a0 3) * 4).toNat) 4) a0 4)) a0 4 (((up2 (cpyI I p2 0 p3 (((I a0 3) * 4).toNat) 4) p8 (((cpyI I p2 0 p3 (((I a0 3) * 4).toNat) 4) a0 3).toNat) ((cpyI I p2 0 p3 (((I a0 3) * 4).toNat) 4) a0 4)) a0 4) + 1)) a0 3 (((up2 (up2 (cpyI I p2 0 p3 (((I a0 3) * 4).toNat) 4) p8 (((cpyI I p2 0 p3 (((I a0 3) * 4).toNat) 4) a0 3).toNat) ((cpyI I p2 0 p3 (((I a0 3) * 4).toNat) 4) a0 4)) a0 4 (((up2 (cpyI I p2 0 p3 (((I a0 3) * 4).toNat) 4) p8 (((cpyI I p2 0 p3 (((I a0 3) * 4).toNat) 4) a0 3).toNat) ((cpyI I p2 0 p3 (((I a0 3) * 4).toNat) 4) a0 4)) a0 4) + 1)) a0 3) + 1)) a0 10 (p_max ((up2 (up2 (up2 (cpyI I p2 0 p3 (((I a0 3) * 4).toNat) 4) p8 (((cpyI I p2 0 p3 (((I a0 3) * 4).toNat) 4) a0 3).toNat) ((cpyI I p2 0 p3 (((I a0 3) * 4).toNat) 4) a0 4)) a0 4 (((up2 (cpyI I p2 0 p3 (((I a0 3) * 4).toNat) 4) p8 (((cpyI I p2 0 p3 (((I a0 3) * 4).toNat) 4) a0 3).toNat) ((cpyI I p2 0 p3 (((I a0 3) * 4).toNat) 4) a0 4)) a0 4) + 1)) a0 3 (((up2 (up2 (cpyI I p2 0 p3 (((I a0 3) * 4).toNat) 4) p8 (((cpyI I p2 0 p3 (((I a0 3) * 4).toNat) 4) a0 3).toNat) ((cpyI I p2 0 p3 (((I a0 3) * 4).toNat) 4) a0 4)) a0 4 (((up2 (cpyI I p2 0 p3 (((I a0 3) * 4).toNat) 4) p8 (((cpyI I p2 0 p3 (((I a0 3) * 4).toNat) 4) a0 3).toNat) ((cpyI I p2 0 p3 (((I a0 3) * 4).toNat) 4) a0 4)) a0 4) + 1)) a0 3) + 1)) a0 10) ((up2 (up2 (up2 (cpyI I p2 0 p3 (((I a0 3) * 4).toNat) 4) p8 (((cpyI I p2 0 p3 (((I a0 3) * 4).toNat) 4) a0 3).toNat) ((cpyI I p2 0 p3 (((I a0 3) * 4).toNat) 4) a0 4)) a0 4 (((up2 (cpyI I p2 0 p3 (((I a0 3) * 4).toNat) 4) p8 (((cpyI I p2 0 p3 (((I a0 3) * 4).toNat) 4) a0 3).toNat) ((cpyI I p2 0 p3 (((I a0 3) * 4).toNat) 4) a0 4)) a0 4) + 1)) a0 3 (((up2 (up2 (cpyI I p2 0 p3 (((I a0 3) * 4).toNat) 4) p8 (((cpyI I p2 0 p3 (((I a0 3) * 4).toNat) 4) a0 3).toNat) ((cpyI I p2 0 p3 (((I a0 3) * 4).toNat) 4) a0 4)) a0 4 (((up2 (cpyI I p2 0 p3 (((I a0 3) * 4).toNat) 4) p8 (((cpyI I p2 0 p3 (((I a0 3) * 4).toNat) 4) a0 3).toNat) ((cpyI I p2 0 p3 (((I a0 3) * 4).toNat) 4) a0 4)) a0 4) + 1)) a0 3) + 1)) a0 3))), S)) :=
  s_aload_n rfl rfl rfl <|
  s_getR rfl rfl rfl hr1 <|
  s_getR rfl rfl rfl hr2 <|
  s_iconst rfl rfl <|
  s_aload_n rfl rfl rfl <|
  s_getR rfl rfl rfl hr3 <|
  s_aload_n rfl rfl rfl <|
  s_getI rfl rfl rfl <|
  s_iconst rfl rfl <|
  s_imulp rfl ho4 <|
  s_iconst rfl rfl <|
  s_copy rfl rfl (by decide) hc5 (by decide) hc6 hc7 rfl <|
  s_aload_n rfl rfl rfl <|
  s_getR rfl rfl rfl hr8 <|
  s_aload_n rfl rfl rfl <|
  s_getI rfl rfl rfl <|
  s_aload_n rfl rfl rfl <|
  s_getI rfl rfl rfl <|
  s_iast rfl hi9 <|
  s_aload_n rfl rfl rfl <|
  s_dup rfl rfl <|
  s_getI rfl rfl rfl <|
  s_iconst rfl rfl <|
  s_iaddp rfl ho10 <|
  s_putI rfl rfl rfl <|
  s_aload_n rfl rfl rfl <|
  s_dup rfl rfl <|
  s_getI rfl rfl rfl <|
  s_iconst rfl rfl <|
  s_iaddp rfl ho11 <|
  s_putI rfl rfl rfl <|
  s_aload_n rfl rfl rfl <|
  s_aload_n rfl rfl rfl <|
  s_getI rfl rfl rfl <|
  s_aload_n rfl rfl rfl <|
  s_getI rfl rfl rfl <|
  s_mm rfl rfl (Or.inl ⟨rfl, rfl⟩) rfl <|
  s_putI rfl rfl rfl <|
  s_iconst rfl rfl <|
  s_ret rfl rfl
theorem b_X4_takeOff_0 {d : Nat} {r : PO × PM} {I : Nat → Nat → Int} {S : PS} {a0 : Nat} (kt : 1 ≤ I a0 3 → Ev d mX4_takeOff (9, [some (vR (some (15, 0, a0)))], [], (I, S)) r) (kf : I a0 3 < 1 → Ev d mX4_takeOff (8, [some (vR (some (15, 0, a0)))], [], (I, S)) r) : Ev d mX4_takeOff (0, [some (vR (some (15, 0, a0)))], [], (I, S)) r :=
  s_aload_n rfl rfl rfl <|
  s_getI rfl rfl rfl <|
  s_iconst rfl rfl <|
  s_icmp_ge 9 rfl rfl kt kf
theorem b_X4_takeOff_8 {d : Nat} {I : Nat → Nat → Int} {S : PS} {a0 : Nat} : Ev d mX4_takeOff (8, [some (vR (some (15, 0, a0)))], [], (I, S)) (.inl none, (I, S)) :=
  s_vret rfl rfl
theorem b_X4_takeOff_9 {d : Nat} {I : Nat → Nat → Int} {S : PS} {a0 p2 q2 p4 p5 q5 p9 q9 : Nat} (ho1 : -2147483648 ≤ I a0 3 - 1 ∧ I a0 3 - 1 ≤ 2147483647) (hr2 : S.1 a0 1 = some (0, q2, p2)) (ho3 : -2147483648 ≤ ((up2 I a0 3 (I a0 3 - 1)) a0 3) * 4 ∧ ((up2 I a0 3 (I a0 3 - 1)) a0 3) * 4 ≤ 2147483647) (hr4 : S.1 a0 0 = some (13, 0, p4)) (hr5 : S.1 p4 0 = some (0, q5, p5)) (hc6 : 0 ≤ ((up2 I a0 3 (I a0 3 - 1)) a0 3) * 4) (hc7 : ((up2 I a0 3 (I a0 3 - 1)) a0 3) * 4 + 4 ≤ (q2 : Nat)) (hc8 : (0 : Int) + 4 ≤ (q5 : Nat)) (hr9 : S.1 a0 2 = some (0, q9, p9)) (hi10 : 0 ≤ (cpyI (up2 I a0 3 (I a0 3 - 1)) p2 ((((up2 I a0 3 (I a0 3 - 1)) a0 3) * 4).toNat) p5 0 4) a0 3 ∧ (cpyI (up2 I a0 3 (I a0 3 - 1)) p2 ((((up2 I a0 3 (I a0 3 - 1)) a0 3) * 4).toNat) p5 0 4) a0 3 < (q9 : Nat)) : Ev d mX4_takeOff (9, [some (vR (some (15, 0, a0)))], [], (I, S)) (.inl none, ((up2 (cpyI (up2 I a0 3 (I a0 3 - 1)) p2 ((((up2 I a0 3 (I a0 3 - 1)) a0 3) * 4).toNat) p5 0 4) a0 5 ((cpyI (up2 I a0 3 (I a0 3 - 1)) p2 ((((up2 I a0 3 (I a0 3 - 1)) a0 3) * 4).toNat) p5 0 4) p9 ((cpyI (up2 I a0 3 (I a0 3 - 1)) p2 ((((up2 I a0 3 (I a0 3 - 1)) a0 3) * 4).toNat) p5 0 4) a0 3).toNat)), S)) :=
  s_aload_n rfl rfl rfl <|
  s_dup rfl rfl <|
  s_getI rfl rfl rfl <|
  s_iconst rfl rfl <|
  s_isubp rfl ho1 <|
  s_putI rfl rfl rfl <|
  s_aload_n rfl rfl rfl <|
  s_getR rfl rfl rfl hr2 <|
  s_aload_n rfl rfl rfl <|
  s_getI rfl rfl rfl <|
  s_iconst rfl rfl <|
  s_imulp rfl ho3 <|
  s_aload_n rfl rfl rfl <|
  s_getR rfl rfl rfl hr4 <|
  s_getR rfl rfl rfl hr5 <|
  s_iconst rfl rfl <|
  s_iconst rfl rfl <|
  s_copy rfl rfl hc6 (by decide) (by decide) hc7 hc8 rfl <|
  s_aload_n rfl rfl rfl <|
  s_aload_n rfl rfl rfl <|
  s_getR rfl rfl rfl hr9 <|
  s_aload_n rfl rfl rfl <|
  s_getI rfl rfl rfl <|
  s_iald rfl rfl hi10 <|
  s_putI rfl rfl rfl <|
  s_vret rfl rfl
theorem b_X4_takeAllOff_0 {d : Nat} {r : PO × PM} {I : Nat → Nat → Int} {S : PS} {a0 : Nat} (k : Ev d mX4_takeAllOff (7, [some (vR (some (15, 0, a0))), some (vI 0)], [], ((up2 I a0 11 0), S)) r) : Ev d mX4_takeAllOff (0, [some (vR (some (15, 0, a0))), none], [], (I, S)) r :=
  s_aload_n rfl rfl rfl <|
  s_iconst rfl rfl <|
  s_putI rfl rfl rfl <|
  s_iconst rfl rfl <|
  s_istore_n [some (vR (some (15, 0, a0))), some (vI 0)] rfl rfl <|
  k
theorem b_X4_takeAllOff_7 {d : Nat} {r : PO × PM} {I : Nat → Nat → Int} {S : PS} {a0 : Nat} {x1 : Int} (kt : 8 ≤ x1 → Ev d mX4_takeAllOff (49, [some (vR (some (15, 0, a0))), some (vI x1)], [], (I, S)) r) (kf : x1 < 8 → Ev d mX4_takeAllOff (13, [some (vR (some (15, 0, a0))), some (vI x1)], [], (I, S)) r) : Ev d mX4_takeAllOff (7, [some (vR (some (15, 0, a0))), some (vI x1)], [], (I, S)) r :=
  s_iload_n rfl rfl rfl <|
  s_bipush rfl rfl <|
  s_icmp_ge 49 rfl rfl kt kf
theorem b_X4_takeAllOff_13 {d : Nat} {r : PO × PM} {I : Nat → Nat → Int} {S : PS} {a0 : Nat} {x1 : Int} (kt : I a0 3 ≤ 0 → Ev d mX4_takeAllOff (49, [some (vR (some (15, 0, a0))), some (vI x1)], [], (I, S)) r) (kf : 0 < I a0 3 → Ev d mX4_takeAllOff (20, [some (vR (some (15, 0, a0))), some (vI x1)], [], (I, S)) r) : Ev d mX4_takeAllOff (13, [some (vR (some (15, 0, a0))), some (vI x1)], [], (I, S)) r :=
  s_aload_n rfl rfl rfl <|
  s_getI rfl rfl rfl <|
  s_if_le 49 rfl rfl kt kf
theorem b_X4_takeAllOff_20 {d : Nat} {r : PO × PM} {I : Nat → Nat → Int} {S : PS} {a0 : Nat} {x1 : Int} {I1 : Nat → Nat → Int} {S1 : PS} (c : Ca d mX4_takeOff [vR (some (15, 0, a0))] (I, S) (.inl none) (I1, S1)) (k : Ev (d + 1) mX4_takeAllOff (24, [some (vR (some (15, 0, a0))), some (vI x1)], [], (I1, S1)) r) : Ev (d + 1) mX4_takeAllOff (20, [some (vR (some (15, 0, a0))), some (vI x1)], [], (I, S)) r :=
  s_aload_n rfl rfl rfl <|
  s_cvV rfl rfl rfl rfl rfl c k
theorem b_X4_takeAllOff_24 {d : Nat} {r : PO × PM} {I : Nat → Nat → Int} {S : PS} {a0 : Nat} {x1 : Int} (ho1 : -2147483648 ≤ (I a0 11) * 10 ∧ (I a0 11) * 10 ≤ 2147483647) (hd2 : (0 ≤ I a0 5 ∧ I a0 5 ≤ 2147483647) ∧ 0 < (10 : Int) ∧ (10 : Int) ≤ 2147483647) (ho3 : -2147483648 ≤ ((I a0 11) * 10) + ((I a0 5) % 10) ∧ ((I a0 11) * 10) + ((I a0 5) % 10) ≤ 2147483647) (ho4 : -2147483648 ≤ x1 + 1 ∧ x1 + 1 ≤ 2147483647) (k : Ev d mX4_takeAllOff (7, [some (vR (some (15, 0, a0))), some (vI (x1 + 1))], [], ((up2 I a0 11 (((I a0 11) * 10) + ((I a0 5) % 10))), S)) r) : Ev d mX4_takeAllOff (24, [some (vR (some (15, 0, a0))), some (vI x1)], [], (I, S)) r :=
  s_aload_n rfl rfl rfl <|
  s_aload_n rfl rfl rfl <|
  s_getI rfl rfl rfl <|
  s_bipush rfl rfl <|
  s_imulp rfl ho1 <|
  s_aload_n rfl rfl rfl <|
  s_getI rfl rfl rfl <|
  s_bipush rfl rfl <|
  s_iremp rfl hd2 <|
  s_iaddp rfl ho3 <|
  s_putI rfl rfl rfl <|
  s_iincp [some (vR (some (15, 0, a0))), some (vI (x1 + 1))] rfl rfl ho4 rfl <|
  s_goto 7 rfl rfl k
theorem b_X4_takeAllOff_49 {d : Nat} {I : Nat → Nat → Int} {S : PS} {a0 : Nat} {x1 : Int} : Ev d mX4_takeAllOff (49, [some (vR (some (15, 0, a0))), some (vI x1)], [], (I, S)) (.inl none, (I, S)) :=
  s_vret rfl rfl
end
