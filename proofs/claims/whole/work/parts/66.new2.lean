set_option maxRecDepth 16384
/-! both objects, new -/
theorem st9 {P : Nat → Prop} {m : Nat} (n : Nat) (hP : P n) (h : ∀ a, n + 1 ≤ a ∧ a < m → P a) : ∀ a, n ≤ a ∧ a < m → P a := fun a ha => by
  by_cases e : a = n
  · subst e; exact hP
  · exact h a (by omega)
def h64 (L : Nat) (xs : Nat → Int32) : lm_H := lm_new (lm_h0 L xs) 64 6 10
def gH (L : Nat) (xs : Nat → Int32) : lm_H := hx50 (h64 L xs)
theorem gA_64 {L : Nat} {xs : Nat → Int32} : (gH L xs).2.2.2.1 64 = aKd 64 ∧ (gH L xs).2.2.2.2.1 64 = aLn 64 ∧ ∀ k, (gH L xs).2.2.1 64 k = aRf 64 k := ⟨rfl, rfl, fun k => match k with | 0 => rfl | 1 => rfl | 2 => rfl | 3 => rfl | 4 => rfl | 5 => rfl | 6 => rfl | 7 => rfl | 8 => rfl | 9 => rfl | _ + 10 => rfl⟩
theorem gA_65 {L : Nat} {xs : Nat → Int32} : (gH L xs).2.2.2.1 65 = aKd 65 ∧ (gH L xs).2.2.2.2.1 65 = aLn 65 ∧ ∀ k, (gH L xs).2.2.1 65 k = aRf 65 k := ⟨rfl, rfl, fun k => match k with | 0 => rfl | 1 => rfl | 2 => rfl | 3 => rfl | 4 => rfl | 5 => rfl | 6 => rfl | 7 => rfl | 8 => rfl | _ + 9 => rfl⟩
theorem gA_66 {L : Nat} {xs : Nat → Int32} : (gH L xs).2.2.2.1 66 = aKd 66 ∧ (gH L xs).2.2.2.2.1 66 = aLn 66 ∧ ∀ k, (gH L xs).2.2.1 66 k = aRf 66 k := ⟨rfl, rfl, fun k => rfl⟩
theorem gA_67 {L : Nat} {xs : Nat → Int32} : (gH L xs).2.2.2.1 67 = aKd 67 ∧ (gH L xs).2.2.2.2.1 67 = aLn 67 ∧ ∀ k, (gH L xs).2.2.1 67 k = aRf 67 k := ⟨rfl, rfl, fun k => rfl⟩
theorem gA_68 {L : Nat} {xs : Nat → Int32} : (gH L xs).2.2.2.1 68 = aKd 68 ∧ (gH L xs).2.2.2.2.1 68 = aLn 68 ∧ ∀ k, (gH L xs).2.2.1 68 k = aRf 68 k := ⟨rfl, rfl, fun k => rfl⟩
theorem gA_69 {L : Nat} {xs : Nat → Int32} : (gH L xs).2.2.2.1 69 = aKd 69 ∧ (gH L xs).2.2.2.2.1 69 = aLn 69 ∧ ∀ k, (gH L xs).2.2.1 69 k = aRf 69 k := ⟨rfl, rfl, fun k => rfl⟩
theorem gA_70 {L : Nat} {xs : Nat → Int32} : (gH L xs).2.2.2.1 70 = aKd 70 ∧ (gH L xs).2.2.2.2.1 70 = aLn 70 ∧ ∀ k, (gH L xs).2.2.1 70 k = aRf 70 k := ⟨rfl, rfl, fun k => rfl⟩
theorem gA_71 {L : Nat} {xs : Nat → Int32} : (gH L xs).2.2.2.1 71 = aKd 71 ∧ (gH L xs).2.2.2.2.1 71 = aLn 71 ∧ ∀ k, (gH L xs).2.2.1 71 k = aRf 71 k := ⟨rfl, rfl, fun k => rfl⟩
theorem gA_72 {L : Nat} {xs : Nat → Int32} : (gH L xs).2.2.2.1 72 = aKd 72 ∧ (gH L xs).2.2.2.2.1 72 = aLn 72 ∧ ∀ k, (gH L xs).2.2.1 72 k = aRf 72 k := ⟨rfl, rfl, fun k => rfl⟩
theorem gA_73 {L : Nat} {xs : Nat → Int32} : (gH L xs).2.2.2.1 73 = aKd 73 ∧ (gH L xs).2.2.2.2.1 73 = aLn 73 ∧ ∀ k, (gH L xs).2.2.1 73 k = aRf 73 k := ⟨rfl, rfl, fun k => rfl⟩
theorem gA_74 {L : Nat} {xs : Nat → Int32} : (gH L xs).2.2.2.1 74 = aKd 74 ∧ (gH L xs).2.2.2.2.1 74 = aLn 74 ∧ ∀ k, (gH L xs).2.2.1 74 k = aRf 74 k := ⟨rfl, rfl, fun k => rfl⟩
theorem gA_75 {L : Nat} {xs : Nat → Int32} : (gH L xs).2.2.2.1 75 = aKd 75 ∧ (gH L xs).2.2.2.2.1 75 = aLn 75 ∧ ∀ k, (gH L xs).2.2.1 75 k = aRf 75 k := ⟨rfl, rfl, fun k => match k with | 0 => rfl | 1 => rfl | 2 => rfl | 3 => rfl | 4 => rfl | 5 => rfl | 6 => rfl | 7 => rfl | 8 => rfl | _ + 9 => rfl⟩
theorem gA_76 {L : Nat} {xs : Nat → Int32} : (gH L xs).2.2.2.1 76 = aKd 76 ∧ (gH L xs).2.2.2.2.1 76 = aLn 76 ∧ ∀ k, (gH L xs).2.2.1 76 k = aRf 76 k := ⟨rfl, rfl, fun k => rfl⟩
theorem gA_77 {L : Nat} {xs : Nat → Int32} : (gH L xs).2.2.2.1 77 = aKd 77 ∧ (gH L xs).2.2.2.2.1 77 = aLn 77 ∧ ∀ k, (gH L xs).2.2.1 77 k = aRf 77 k := ⟨rfl, rfl, fun k => rfl⟩
theorem gA_78 {L : Nat} {xs : Nat → Int32} : (gH L xs).2.2.2.1 78 = aKd 78 ∧ (gH L xs).2.2.2.2.1 78 = aLn 78 ∧ ∀ k, (gH L xs).2.2.1 78 k = aRf 78 k := ⟨rfl, rfl, fun k => rfl⟩
theorem gA_79 {L : Nat} {xs : Nat → Int32} : (gH L xs).2.2.2.1 79 = aKd 79 ∧ (gH L xs).2.2.2.2.1 79 = aLn 79 ∧ ∀ k, (gH L xs).2.2.1 79 k = aRf 79 k := ⟨rfl, rfl, fun k => rfl⟩
theorem gA_80 {L : Nat} {xs : Nat → Int32} : (gH L xs).2.2.2.1 80 = aKd 80 ∧ (gH L xs).2.2.2.2.1 80 = aLn 80 ∧ ∀ k, (gH L xs).2.2.1 80 k = aRf 80 k := ⟨rfl, rfl, fun k => rfl⟩
theorem gA_81 {L : Nat} {xs : Nat → Int32} : (gH L xs).2.2.2.1 81 = aKd 81 ∧ (gH L xs).2.2.2.2.1 81 = aLn 81 ∧ ∀ k, (gH L xs).2.2.1 81 k = aRf 81 k := ⟨rfl, rfl, fun k => rfl⟩
theorem gA_82 {L : Nat} {xs : Nat → Int32} : (gH L xs).2.2.2.1 82 = aKd 82 ∧ (gH L xs).2.2.2.2.1 82 = aLn 82 ∧ ∀ k, (gH L xs).2.2.1 82 k = aRf 82 k := ⟨rfl, rfl, fun k => rfl⟩
theorem gA_83 {L : Nat} {xs : Nat → Int32} : (gH L xs).2.2.2.1 83 = aKd 83 ∧ (gH L xs).2.2.2.2.1 83 = aLn 83 ∧ ∀ k, (gH L xs).2.2.1 83 k = aRf 83 k := ⟨rfl, rfl, fun k => rfl⟩
theorem gA_84 {L : Nat} {xs : Nat → Int32} : (gH L xs).2.2.2.1 84 = aKd 84 ∧ (gH L xs).2.2.2.2.1 84 = aLn 84 ∧ ∀ k, (gH L xs).2.2.1 84 k = aRf 84 k := ⟨rfl, rfl, fun k => rfl⟩
theorem gA_85 {L : Nat} {xs : Nat → Int32} : (gH L xs).2.2.2.1 85 = aKd 85 ∧ (gH L xs).2.2.2.2.1 85 = aLn 85 ∧ ∀ k, (gH L xs).2.2.1 85 k = aRf 85 k := ⟨rfl, rfl, fun k => match k with | 0 => rfl | 1 => rfl | 2 => rfl | 3 => rfl | 4 => rfl | 5 => rfl | 6 => rfl | 7 => rfl | 8 => rfl | _ + 9 => rfl⟩
theorem gA_86 {L : Nat} {xs : Nat → Int32} : (gH L xs).2.2.2.1 86 = aKd 86 ∧ (gH L xs).2.2.2.2.1 86 = aLn 86 ∧ ∀ k, (gH L xs).2.2.1 86 k = aRf 86 k := ⟨rfl, rfl, fun k => rfl⟩
theorem gA_87 {L : Nat} {xs : Nat → Int32} : (gH L xs).2.2.2.1 87 = aKd 87 ∧ (gH L xs).2.2.2.2.1 87 = aLn 87 ∧ ∀ k, (gH L xs).2.2.1 87 k = aRf 87 k := ⟨rfl, rfl, fun k => rfl⟩
theorem gA_88 {L : Nat} {xs : Nat → Int32} : (gH L xs).2.2.2.1 88 = aKd 88 ∧ (gH L xs).2.2.2.2.1 88 = aLn 88 ∧ ∀ k, (gH L xs).2.2.1 88 k = aRf 88 k := ⟨rfl, rfl, fun k => rfl⟩
theorem gA_89 {L : Nat} {xs : Nat → Int32} : (gH L xs).2.2.2.1 89 = aKd 89 ∧ (gH L xs).2.2.2.2.1 89 = aLn 89 ∧ ∀ k, (gH L xs).2.2.1 89 k = aRf 89 k := ⟨rfl, rfl, fun k => rfl⟩
theorem gA_90 {L : Nat} {xs : Nat → Int32} : (gH L xs).2.2.2.1 90 = aKd 90 ∧ (gH L xs).2.2.2.2.1 90 = aLn 90 ∧ ∀ k, (gH L xs).2.2.1 90 k = aRf 90 k := ⟨rfl, rfl, fun k => rfl⟩
theorem gA_91 {L : Nat} {xs : Nat → Int32} : (gH L xs).2.2.2.1 91 = aKd 91 ∧ (gH L xs).2.2.2.2.1 91 = aLn 91 ∧ ∀ k, (gH L xs).2.2.1 91 k = aRf 91 k := ⟨rfl, rfl, fun k => rfl⟩
theorem gA_92 {L : Nat} {xs : Nat → Int32} : (gH L xs).2.2.2.1 92 = aKd 92 ∧ (gH L xs).2.2.2.2.1 92 = aLn 92 ∧ ∀ k, (gH L xs).2.2.1 92 k = aRf 92 k := ⟨rfl, rfl, fun k => rfl⟩
theorem gA_93 {L : Nat} {xs : Nat → Int32} : (gH L xs).2.2.2.1 93 = aKd 93 ∧ (gH L xs).2.2.2.2.1 93 = aLn 93 ∧ ∀ k, (gH L xs).2.2.1 93 k = aRf 93 k := ⟨rfl, rfl, fun k => rfl⟩
theorem gA_94 {L : Nat} {xs : Nat → Int32} : (gH L xs).2.2.2.1 94 = aKd 94 ∧ (gH L xs).2.2.2.2.1 94 = aLn 94 ∧ ∀ k, (gH L xs).2.2.1 94 k = aRf 94 k := ⟨rfl, rfl, fun k => rfl⟩
theorem gA_95 {L : Nat} {xs : Nat → Int32} : (gH L xs).2.2.2.1 95 = aKd 95 ∧ (gH L xs).2.2.2.2.1 95 = aLn 95 ∧ ∀ k, (gH L xs).2.2.1 95 k = aRf 95 k := ⟨rfl, rfl, fun k => match k with | 0 => rfl | _ + 1 => rfl⟩
theorem gA_96 {L : Nat} {xs : Nat → Int32} : (gH L xs).2.2.2.1 96 = aKd 96 ∧ (gH L xs).2.2.2.2.1 96 = aLn 96 ∧ ∀ k, (gH L xs).2.2.1 96 k = aRf 96 k := ⟨rfl, rfl, fun k => rfl⟩
theorem gA_97 {L : Nat} {xs : Nat → Int32} : (gH L xs).2.2.2.1 97 = aKd 97 ∧ (gH L xs).2.2.2.2.1 97 = aLn 97 ∧ ∀ k, (gH L xs).2.2.1 97 k = aRf 97 k := ⟨rfl, rfl, fun k => match k with | 0 => rfl | 1 => rfl | 2 => rfl | 3 => rfl | 4 => rfl | 5 => rfl | 6 => rfl | 7 => rfl | _ + 8 => rfl⟩
theorem gA_98 {L : Nat} {xs : Nat → Int32} : (gH L xs).2.2.2.1 98 = aKd 98 ∧ (gH L xs).2.2.2.2.1 98 = aLn 98 ∧ ∀ k, (gH L xs).2.2.1 98 k = aRf 98 k := ⟨rfl, rfl, fun k => match k with | 0 => rfl | 1 => rfl | 2 => rfl | 3 => rfl | 4 => rfl | _ + 5 => rfl⟩
theorem gA_99 {L : Nat} {xs : Nat → Int32} : (gH L xs).2.2.2.1 99 = aKd 99 ∧ (gH L xs).2.2.2.2.1 99 = aLn 99 ∧ ∀ k, (gH L xs).2.2.1 99 k = aRf 99 k := ⟨rfl, rfl, fun k => rfl⟩
theorem gA_100 {L : Nat} {xs : Nat → Int32} : (gH L xs).2.2.2.1 100 = aKd 100 ∧ (gH L xs).2.2.2.2.1 100 = aLn 100 ∧ ∀ k, (gH L xs).2.2.1 100 k = aRf 100 k := ⟨rfl, rfl, fun k => rfl⟩
theorem gA_101 {L : Nat} {xs : Nat → Int32} : (gH L xs).2.2.2.1 101 = aKd 101 ∧ (gH L xs).2.2.2.2.1 101 = aLn 101 ∧ ∀ k, (gH L xs).2.2.1 101 k = aRf 101 k := ⟨rfl, rfl, fun k => rfl⟩
theorem gA_102 {L : Nat} {xs : Nat → Int32} : (gH L xs).2.2.2.1 102 = aKd 102 ∧ (gH L xs).2.2.2.2.1 102 = aLn 102 ∧ ∀ k, (gH L xs).2.2.1 102 k = aRf 102 k := ⟨rfl, rfl, fun k => rfl⟩
theorem gA_103 {L : Nat} {xs : Nat → Int32} : (gH L xs).2.2.2.1 103 = aKd 103 ∧ (gH L xs).2.2.2.2.1 103 = aLn 103 ∧ ∀ k, (gH L xs).2.2.1 103 k = aRf 103 k := ⟨rfl, rfl, fun k => match k with | 0 => rfl | 1 => rfl | _ + 2 => rfl⟩
theorem gA_104 {L : Nat} {xs : Nat → Int32} : (gH L xs).2.2.2.1 104 = aKd 104 ∧ (gH L xs).2.2.2.2.1 104 = aLn 104 ∧ ∀ k, (gH L xs).2.2.1 104 k = aRf 104 k := ⟨rfl, rfl, fun k => match k with | 0 => rfl | 1 => rfl | 2 => rfl | _ + 3 => rfl⟩
theorem gA_105 {L : Nat} {xs : Nat → Int32} : (gH L xs).2.2.2.1 105 = aKd 105 ∧ (gH L xs).2.2.2.2.1 105 = aLn 105 ∧ ∀ k, (gH L xs).2.2.1 105 k = aRf 105 k := ⟨rfl, rfl, fun k => rfl⟩
theorem gA_106 {L : Nat} {xs : Nat → Int32} : (gH L xs).2.2.2.1 106 = aKd 106 ∧ (gH L xs).2.2.2.2.1 106 = aLn 106 ∧ ∀ k, (gH L xs).2.2.1 106 k = aRf 106 k := ⟨rfl, rfl, fun k => rfl⟩
theorem gA_107 {L : Nat} {xs : Nat → Int32} : (gH L xs).2.2.2.1 107 = aKd 107 ∧ (gH L xs).2.2.2.2.1 107 = aLn 107 ∧ ∀ k, (gH L xs).2.2.1 107 k = aRf 107 k := ⟨rfl, rfl, fun k => match k with | 0 => rfl | _ + 1 => rfl⟩
theorem gA_108 {L : Nat} {xs : Nat → Int32} : (gH L xs).2.2.2.1 108 = aKd 108 ∧ (gH L xs).2.2.2.2.1 108 = aLn 108 ∧ ∀ k, (gH L xs).2.2.1 108 k = aRf 108 k := ⟨rfl, rfl, fun k => rfl⟩
theorem gA_109 {L : Nat} {xs : Nat → Int32} : (gH L xs).2.2.2.1 109 = aKd 109 ∧ (gH L xs).2.2.2.2.1 109 = aLn 109 ∧ ∀ k, (gH L xs).2.2.1 109 k = aRf 109 k := ⟨rfl, rfl, fun k => match k with | 0 => rfl | _ + 1 => rfl⟩
theorem gA_110 {L : Nat} {xs : Nat → Int32} : (gH L xs).2.2.2.1 110 = aKd 110 ∧ (gH L xs).2.2.2.2.1 110 = aLn 110 ∧ ∀ k, (gH L xs).2.2.1 110 k = aRf 110 k := ⟨rfl, rfl, fun k => rfl⟩
theorem gA_111 {L : Nat} {xs : Nat → Int32} : (gH L xs).2.2.2.1 111 = aKd 111 ∧ (gH L xs).2.2.2.2.1 111 = aLn 111 ∧ ∀ k, (gH L xs).2.2.1 111 k = aRf 111 k := ⟨rfl, rfl, fun k => match k with | 0 => rfl | _ + 1 => rfl⟩
theorem gA_112 {L : Nat} {xs : Nat → Int32} : (gH L xs).2.2.2.1 112 = aKd 112 ∧ (gH L xs).2.2.2.2.1 112 = aLn 112 ∧ ∀ k, (gH L xs).2.2.1 112 k = aRf 112 k := ⟨rfl, rfl, fun k => rfl⟩
theorem gA_113 {L : Nat} {xs : Nat → Int32} : (gH L xs).2.2.2.1 113 = aKd 113 ∧ (gH L xs).2.2.2.2.1 113 = aLn 113 ∧ ∀ k, (gH L xs).2.2.1 113 k = aRf 113 k := ⟨rfl, rfl, fun k => match k with | 0 => rfl | _ + 1 => rfl⟩
theorem gA_114 {L : Nat} {xs : Nat → Int32} : (gH L xs).2.2.2.1 114 = aKd 114 ∧ (gH L xs).2.2.2.2.1 114 = aLn 114 ∧ ∀ k, (gH L xs).2.2.1 114 k = aRf 114 k := ⟨rfl, rfl, fun k => rfl⟩
theorem gA_115 {L : Nat} {xs : Nat → Int32} : (gH L xs).2.2.2.1 115 = aKd 115 ∧ (gH L xs).2.2.2.2.1 115 = aLn 115 ∧ ∀ k, (gH L xs).2.2.1 115 k = aRf 115 k := ⟨rfl, rfl, fun k => match k with | 0 => rfl | _ + 1 => rfl⟩
theorem gA_116 {L : Nat} {xs : Nat → Int32} : (gH L xs).2.2.2.1 116 = aKd 116 ∧ (gH L xs).2.2.2.2.1 116 = aLn 116 ∧ ∀ k, (gH L xs).2.2.1 116 k = aRf 116 k := ⟨rfl, rfl, fun k => rfl⟩
theorem gA_117 {L : Nat} {xs : Nat → Int32} : (gH L xs).2.2.2.1 117 = aKd 117 ∧ (gH L xs).2.2.2.2.1 117 = aLn 117 ∧ ∀ k, (gH L xs).2.2.1 117 k = aRf 117 k := ⟨rfl, rfl, fun k => match k with | 0 => rfl | _ + 1 => rfl⟩
theorem gA_118 {L : Nat} {xs : Nat → Int32} : (gH L xs).2.2.2.1 118 = aKd 118 ∧ (gH L xs).2.2.2.2.1 118 = aLn 118 ∧ ∀ k, (gH L xs).2.2.1 118 k = aRf 118 k := ⟨rfl, rfl, fun k => rfl⟩
theorem gA_119 {L : Nat} {xs : Nat → Int32} : (gH L xs).2.2.2.1 119 = aKd 119 ∧ (gH L xs).2.2.2.2.1 119 = aLn 119 ∧ ∀ k, (gH L xs).2.2.1 119 k = aRf 119 k := ⟨rfl, rfl, fun k => match k with | 0 => rfl | _ + 1 => rfl⟩
theorem gA_120 {L : Nat} {xs : Nat → Int32} : (gH L xs).2.2.2.1 120 = aKd 120 ∧ (gH L xs).2.2.2.2.1 120 = aLn 120 ∧ ∀ k, (gH L xs).2.2.1 120 k = aRf 120 k := ⟨rfl, rfl, fun k => rfl⟩
theorem gA_121 {L : Nat} {xs : Nat → Int32} : (gH L xs).2.2.2.1 121 = aKd 121 ∧ (gH L xs).2.2.2.2.1 121 = aLn 121 ∧ ∀ k, (gH L xs).2.2.1 121 k = aRf 121 k := ⟨rfl, rfl, fun k => match k with | 0 => rfl | _ + 1 => rfl⟩
theorem gA_122 {L : Nat} {xs : Nat → Int32} : (gH L xs).2.2.2.1 122 = aKd 122 ∧ (gH L xs).2.2.2.2.1 122 = aLn 122 ∧ ∀ k, (gH L xs).2.2.1 122 k = aRf 122 k := ⟨rfl, rfl, fun k => rfl⟩
theorem gA {L : Nat} {xs : Nat → Int32} : sh_A (gH L xs).2.2 :=
  st9 (P := fun a => (gH L xs).2.2.2.1 a = aKd a ∧ (gH L xs).2.2.2.2.1 a = aLn a ∧ ∀ k, (gH L xs).2.2.1 a k = aRf a k) 64 gA_64 (st9 (P := fun a => (gH L xs).2.2.2.1 a = aKd a ∧ (gH L xs).2.2.2.2.1 a = aLn a ∧ ∀ k, (gH L xs).2.2.1 a k = aRf a k) 65 gA_65 (st9 (P := fun a => (gH L xs).2.2.2.1 a = aKd a ∧ (gH L xs).2.2.2.2.1 a = aLn a ∧ ∀ k, (gH L xs).2.2.1 a k = aRf a k) 66 gA_66 (st9 (P := fun a => (gH L xs).2.2.2.1 a = aKd a ∧ (gH L xs).2.2.2.2.1 a = aLn a ∧ ∀ k, (gH L xs).2.2.1 a k = aRf a k) 67 gA_67 (st9 (P := fun a => (gH L xs).2.2.2.1 a = aKd a ∧ (gH L xs).2.2.2.2.1 a = aLn a ∧ ∀ k, (gH L xs).2.2.1 a k = aRf a k) 68 gA_68 (st9 (P := fun a => (gH L xs).2.2.2.1 a = aKd a ∧ (gH L xs).2.2.2.2.1 a = aLn a ∧ ∀ k, (gH L xs).2.2.1 a k = aRf a k) 69 gA_69 (st9 (P := fun a => (gH L xs).2.2.2.1 a = aKd a ∧ (gH L xs).2.2.2.2.1 a = aLn a ∧ ∀ k, (gH L xs).2.2.1 a k = aRf a k) 70 gA_70 (st9 (P := fun a => (gH L xs).2.2.2.1 a = aKd a ∧ (gH L xs).2.2.2.2.1 a = aLn a ∧ ∀ k, (gH L xs).2.2.1 a k = aRf a k) 71 gA_71 (st9 (P := fun a => (gH L xs).2.2.2.1 a = aKd a ∧ (gH L xs).2.2.2.2.1 a = aLn a ∧ ∀ k, (gH L xs).2.2.1 a k = aRf a k) 72 gA_72 (st9 (P := fun a => (gH L xs).2.2.2.1 a = aKd a ∧ (gH L xs).2.2.2.2.1 a = aLn a ∧ ∀ k, (gH L xs).2.2.1 a k = aRf a k) 73 gA_73 (st9 (P := fun a => (gH L xs).2.2.2.1 a = aKd a ∧ (gH L xs).2.2.2.2.1 a = aLn a ∧ ∀ k, (gH L xs).2.2.1 a k = aRf a k) 74 gA_74 (st9 (P := fun a => (gH L xs).2.2.2.1 a = aKd a ∧ (gH L xs).2.2.2.2.1 a = aLn a ∧ ∀ k, (gH L xs).2.2.1 a k = aRf a k) 75 gA_75 (st9 (P := fun a => (gH L xs).2.2.2.1 a = aKd a ∧ (gH L xs).2.2.2.2.1 a = aLn a ∧ ∀ k, (gH L xs).2.2.1 a k = aRf a k) 76 gA_76 (st9 (P := fun a => (gH L xs).2.2.2.1 a = aKd a ∧ (gH L xs).2.2.2.2.1 a = aLn a ∧ ∀ k, (gH L xs).2.2.1 a k = aRf a k) 77 gA_77 (st9 (P := fun a => (gH L xs).2.2.2.1 a = aKd a ∧ (gH L xs).2.2.2.2.1 a = aLn a ∧ ∀ k, (gH L xs).2.2.1 a k = aRf a k) 78 gA_78 (st9 (P := fun a => (gH L xs).2.2.2.1 a = aKd a ∧ (gH L xs).2.2.2.2.1 a = aLn a ∧ ∀ k, (gH L xs).2.2.1 a k = aRf a k) 79 gA_79 (st9 (P := fun a => (gH L xs).2.2.2.1 a = aKd a ∧ (gH L xs).2.2.2.2.1 a = aLn a ∧ ∀ k, (gH L xs).2.2.1 a k = aRf a k) 80 gA_80 (st9 (P := fun a => (gH L xs).2.2.2.1 a = aKd a ∧ (gH L xs).2.2.2.2.1 a = aLn a ∧ ∀ k, (gH L xs).2.2.1 a k = aRf a k) 81 gA_81 (st9 (P := fun a => (gH L xs).2.2.2.1 a = aKd a ∧ (gH L xs).2.2.2.2.1 a = aLn a ∧ ∀ k, (gH L xs).2.2.1 a k = aRf a k) 82 gA_82 (st9 (P := fun a => (gH L xs).2.2.2.1 a = aKd a ∧ (gH L xs).2.2.2.2.1 a = aLn a ∧ ∀ k, (gH L xs).2.2.1 a k = aRf a k) 83 gA_83 (st9 (P := fun a => (gH L xs).2.2.2.1 a = aKd a ∧ (gH L xs).2.2.2.2.1 a = aLn a ∧ ∀ k, (gH L xs).2.2.1 a k = aRf a k) 84 gA_84 (st9 (P := fun a => (gH L xs).2.2.2.1 a = aKd a ∧ (gH L xs).2.2.2.2.1 a = aLn a ∧ ∀ k, (gH L xs).2.2.1 a k = aRf a k) 85 gA_85 (st9 (P := fun a => (gH L xs).2.2.2.1 a = aKd a ∧ (gH L xs).2.2.2.2.1 a = aLn a ∧ ∀ k, (gH L xs).2.2.1 a k = aRf a k) 86 gA_86 (st9 (P := fun a => (gH L xs).2.2.2.1 a = aKd a ∧ (gH L xs).2.2.2.2.1 a = aLn a ∧ ∀ k, (gH L xs).2.2.1 a k = aRf a k) 87 gA_87 (st9 (P := fun a => (gH L xs).2.2.2.1 a = aKd a ∧ (gH L xs).2.2.2.2.1 a = aLn a ∧ ∀ k, (gH L xs).2.2.1 a k = aRf a k) 88 gA_88 (st9 (P := fun a => (gH L xs).2.2.2.1 a = aKd a ∧ (gH L xs).2.2.2.2.1 a = aLn a ∧ ∀ k, (gH L xs).2.2.1 a k = aRf a k) 89 gA_89 (st9 (P := fun a => (gH L xs).2.2.2.1 a = aKd a ∧ (gH L xs).2.2.2.2.1 a = aLn a ∧ ∀ k, (gH L xs).2.2.1 a k = aRf a k) 90 gA_90 (st9 (P := fun a => (gH L xs).2.2.2.1 a = aKd a ∧ (gH L xs).2.2.2.2.1 a = aLn a ∧ ∀ k, (gH L xs).2.2.1 a k = aRf a k) 91 gA_91 (st9 (P := fun a => (gH L xs).2.2.2.1 a = aKd a ∧ (gH L xs).2.2.2.2.1 a = aLn a ∧ ∀ k, (gH L xs).2.2.1 a k = aRf a k) 92 gA_92 (st9 (P := fun a => (gH L xs).2.2.2.1 a = aKd a ∧ (gH L xs).2.2.2.2.1 a = aLn a ∧ ∀ k, (gH L xs).2.2.1 a k = aRf a k) 93 gA_93 (st9 (P := fun a => (gH L xs).2.2.2.1 a = aKd a ∧ (gH L xs).2.2.2.2.1 a = aLn a ∧ ∀ k, (gH L xs).2.2.1 a k = aRf a k) 94 gA_94 (st9 (P := fun a => (gH L xs).2.2.2.1 a = aKd a ∧ (gH L xs).2.2.2.2.1 a = aLn a ∧ ∀ k, (gH L xs).2.2.1 a k = aRf a k) 95 gA_95 (st9 (P := fun a => (gH L xs).2.2.2.1 a = aKd a ∧ (gH L xs).2.2.2.2.1 a = aLn a ∧ ∀ k, (gH L xs).2.2.1 a k = aRf a k) 96 gA_96 (st9 (P := fun a => (gH L xs).2.2.2.1 a = aKd a ∧ (gH L xs).2.2.2.2.1 a = aLn a ∧ ∀ k, (gH L xs).2.2.1 a k = aRf a k) 97 gA_97 (st9 (P := fun a => (gH L xs).2.2.2.1 a = aKd a ∧ (gH L xs).2.2.2.2.1 a = aLn a ∧ ∀ k, (gH L xs).2.2.1 a k = aRf a k) 98 gA_98 (st9 (P := fun a => (gH L xs).2.2.2.1 a = aKd a ∧ (gH L xs).2.2.2.2.1 a = aLn a ∧ ∀ k, (gH L xs).2.2.1 a k = aRf a k) 99 gA_99 (st9 (P := fun a => (gH L xs).2.2.2.1 a = aKd a ∧ (gH L xs).2.2.2.2.1 a = aLn a ∧ ∀ k, (gH L xs).2.2.1 a k = aRf a k) 100 gA_100 (st9 (P := fun a => (gH L xs).2.2.2.1 a = aKd a ∧ (gH L xs).2.2.2.2.1 a = aLn a ∧ ∀ k, (gH L xs).2.2.1 a k = aRf a k) 101 gA_101 (st9 (P := fun a => (gH L xs).2.2.2.1 a = aKd a ∧ (gH L xs).2.2.2.2.1 a = aLn a ∧ ∀ k, (gH L xs).2.2.1 a k = aRf a k) 102 gA_102 (st9 (P := fun a => (gH L xs).2.2.2.1 a = aKd a ∧ (gH L xs).2.2.2.2.1 a = aLn a ∧ ∀ k, (gH L xs).2.2.1 a k = aRf a k) 103 gA_103 (st9 (P := fun a => (gH L xs).2.2.2.1 a = aKd a ∧ (gH L xs).2.2.2.2.1 a = aLn a ∧ ∀ k, (gH L xs).2.2.1 a k = aRf a k) 104 gA_104 (st9 (P := fun a => (gH L xs).2.2.2.1 a = aKd a ∧ (gH L xs).2.2.2.2.1 a = aLn a ∧ ∀ k, (gH L xs).2.2.1 a k = aRf a k) 105 gA_105 (st9 (P := fun a => (gH L xs).2.2.2.1 a = aKd a ∧ (gH L xs).2.2.2.2.1 a = aLn a ∧ ∀ k, (gH L xs).2.2.1 a k = aRf a k) 106 gA_106 (st9 (P := fun a => (gH L xs).2.2.2.1 a = aKd a ∧ (gH L xs).2.2.2.2.1 a = aLn a ∧ ∀ k, (gH L xs).2.2.1 a k = aRf a k) 107 gA_107 (st9 (P := fun a => (gH L xs).2.2.2.1 a = aKd a ∧ (gH L xs).2.2.2.2.1 a = aLn a ∧ ∀ k, (gH L xs).2.2.1 a k = aRf a k) 108 gA_108 (st9 (P := fun a => (gH L xs).2.2.2.1 a = aKd a ∧ (gH L xs).2.2.2.2.1 a = aLn a ∧ ∀ k, (gH L xs).2.2.1 a k = aRf a k) 109 gA_109 (st9 (P := fun a => (gH L xs).2.2.2.1 a = aKd a ∧ (gH L xs).2.2.2.2.1 a = aLn a ∧ ∀ k, (gH L xs).2.2.1 a k = aRf a k) 110 gA_110 (st9 (P := fun a => (gH L xs).2.2.2.1 a = aKd a ∧ (gH L xs).2.2.2.2.1 a = aLn a ∧ ∀ k, (gH L xs).2.2.1 a k = aRf a k) 111 gA_111 (st9 (P := fun a => (gH L xs).2.2.2.1 a = aKd a ∧ (gH L xs).2.2.2.2.1 a = aLn a ∧ ∀ k, (gH L xs).2.2.1 a k = aRf a k) 112 gA_112 (st9 (P := fun a => (gH L xs).2.2.2.1 a = aKd a ∧ (gH L xs).2.2.2.2.1 a = aLn a ∧ ∀ k, (gH L xs).2.2.1 a k = aRf a k) 113 gA_113 (st9 (P := fun a => (gH L xs).2.2.2.1 a = aKd a ∧ (gH L xs).2.2.2.2.1 a = aLn a ∧ ∀ k, (gH L xs).2.2.1 a k = aRf a k) 114 gA_114 (st9 (P := fun a => (gH L xs).2.2.2.1 a = aKd a ∧ (gH L xs).2.2.2.2.1 a = aLn a ∧ ∀ k, (gH L xs).2.2.1 a k = aRf a k) 115 gA_115 (st9 (P := fun a => (gH L xs).2.2.2.1 a = aKd a ∧ (gH L xs).2.2.2.2.1 a = aLn a ∧ ∀ k, (gH L xs).2.2.1 a k = aRf a k) 116 gA_116 (st9 (P := fun a => (gH L xs).2.2.2.1 a = aKd a ∧ (gH L xs).2.2.2.2.1 a = aLn a ∧ ∀ k, (gH L xs).2.2.1 a k = aRf a k) 117 gA_117 (st9 (P := fun a => (gH L xs).2.2.2.1 a = aKd a ∧ (gH L xs).2.2.2.2.1 a = aLn a ∧ ∀ k, (gH L xs).2.2.1 a k = aRf a k) 118 gA_118 (st9 (P := fun a => (gH L xs).2.2.2.1 a = aKd a ∧ (gH L xs).2.2.2.2.1 a = aLn a ∧ ∀ k, (gH L xs).2.2.1 a k = aRf a k) 119 gA_119 (st9 (P := fun a => (gH L xs).2.2.2.1 a = aKd a ∧ (gH L xs).2.2.2.2.1 a = aLn a ∧ ∀ k, (gH L xs).2.2.1 a k = aRf a k) 120 gA_120 (st9 (P := fun a => (gH L xs).2.2.2.1 a = aKd a ∧ (gH L xs).2.2.2.2.1 a = aLn a ∧ ∀ k, (gH L xs).2.2.1 a k = aRf a k) 121 gA_121 (st9 (P := fun a => (gH L xs).2.2.2.1 a = aKd a ∧ (gH L xs).2.2.2.2.1 a = aLn a ∧ ∀ k, (gH L xs).2.2.1 a k = aRf a k) 122 gA_122 (fun a ha => absurd ha (by omega))))))))))))))))))))))))))))))))))))))))))))))))))))))))))))
theorem g_fb {L : Nat} {xs : Nat → Int32} : fb (lm_h0 L xs) (gH L xs) := fb_hx50 (fb_n (by decide) fb_rfl)
def T00 : lm_T := fun _ _ => 0
def R00 : Nat → Int32 := fun k => if k = 13 then 1 else 0
def V00 : ab_V := fun _ => (-1, 0, 0, fun _ => 0)
def F00 : Nat → Int32 := fun _ => 0
theorem g_hi {L : Nat} {xs : Nat → Int32} : isT (gH L xs).1 65 T00 0 ∧ isR (gH L xs).1 65 R00 := by
  refine ⟨⟨fun k hk a ha => ?_, fun a ha => rfl, rfl, by decide⟩, rfl, rfl, rfl, rfl, rfl, rfl, rfl, rfl⟩
  match k, hk with
  | 0, _ => rfl
  | 1, _ => rfl
  | 2, _ => rfl
  | 3, _ => rfl
  | 4, _ => rfl
  | 5, _ => rfl
  | 6, _ => rfl
  | k + 7, hk => exact absurd hk (by omega)
theorem g_V {L : Nat} {xs : Nat → Int32} : cV (gH L xs).1 (gH L xs).2.1 V00 := fun j hj => by
  match j, hj with
  | 0, _ => exact ⟨rfl, rfl, rfl, fun _ _ => rfl⟩
  | 1, _ => exact ⟨rfl, rfl, rfl, fun _ _ => rfl⟩
  | 2, _ => exact ⟨rfl, rfl, rfl, fun _ _ => rfl⟩
  | 3, _ => exact ⟨rfl, rfl, rfl, fun _ _ => rfl⟩
  | 4, _ => exact ⟨rfl, rfl, rfl, fun _ _ => rfl⟩
  | 5, _ => exact ⟨rfl, rfl, rfl, fun _ _ => rfl⟩
  | 6, _ => exact ⟨rfl, rfl, rfl, fun _ _ => rfl⟩
  | 7, _ => exact ⟨rfl, rfl, rfl, fun _ _ => rfl⟩
  | j + 8, hj => exact absurd hj (by omega)
theorem g_ol {L : Nat} {xs : Nat → Int32} : olP (gH L xs).1 (gH L xs).2.2 := by
  have f := g_fb (L := L) (xs := xs)
  refine ⟨⟨(f 60 (by decide)).2.2.2.1, (f 60 (by decide)).2.2.2.2, fun j hj => ?_⟩, fun i hi => ?_⟩
  · rw [(f 60 (by decide)).1]; rfl
  · obtain ⟨a1, a2, a3, a4, a5⟩ := f (1 + i) (by omega)
    obtain ⟨b1, b2, b3, b4, b5⟩ := f (31 + i) (by omega)
    refine ⟨?_, ?_, ?_, ?_, ?_, fun j hj => ?_⟩
    · rw [a3]
      show (if 1 ≤ 1 + i ∧ 1 + i < 23 ∧ 0 = 0 then some (1 + i + 30) else none) = _
      rw [if_pos (by omega)]; congr 1; omega
    · rw [a4]
      show (if 1 + i = 0 then 1 else if 1 ≤ 1 + i ∧ 1 + i < 23 then 40 else if 31 ≤ 1 + i ∧ 1 + i < 53 then 8 else if 1 + i = 60 then 1 else 0) = _
      rw [if_neg (by omega), if_pos (by omega)]
    · rw [b4]
      show (if 31 + i = 0 then 1 else if 1 ≤ 31 + i ∧ 31 + i < 23 then 40 else if 31 ≤ 31 + i ∧ 31 + i < 53 then 8 else if 31 + i = 60 then 1 else 0) = _
      rw [if_neg (by omega), if_neg (by omega), if_pos (by omega)]
    · rw [b5]
      show (if 31 + i = 0 then L else if 31 ≤ 31 + i ∧ 31 + i < 53 then (lm_so (31 + i - 31)).2.2.2.length else if 31 + i = 60 then 7 else 0) = _
      rw [if_neg (by omega), if_pos (by omega), Nat.add_sub_cancel_left]
    · rw [a1]
      show (if 1 + i = 0 then xs 1 else if 31 ≤ 1 + i ∧ 1 + i < 53 then (lm_so (1 + i - 31)).2.2.2.getD 1 0 else if 1 + i = 60 then lm_ra.getD 1 0 else 0) = _
      rw [if_neg (by omega), if_neg (by omega), if_neg (by omega)]
    · rw [b1]
      show (if 31 + i = 0 then xs j else if 31 ≤ 31 + i ∧ 31 + i < 53 then (lm_so (31 + i - 31)).2.2.2.getD j 0 else if 31 + i = 60 then lm_ra.getD j 0 else 0) = _
      rw [if_neg (by omega), if_pos (by omega), Nat.add_sub_cancel_left]
theorem g_cP {L : Nat} {xs : Nat → Int32} : cP (gH L xs).1 (gH L xs).2.1 (gH L xs).1 (gH L xs).2.1 (gH L xs).2.2 0 T00 0 R00 none V00 0 F00 F00 :=
  ⟨gA, g_ol, g_hi.1, g_hi.2, ⟨0, 0, rfl, rfl, by decide, by decide, by decide, fun _ p hp hq => Or.inl rfl⟩, g_V, ⟨rfl, fun i hi => absurd hi (by omega)⟩, fun k hk => rfl, rfl, fr_rfl, frl_rfl⟩
theorem g_free {L : Nat} {xs : Nat → Int32} {a : Nat} (ha : 123 ≤ a) : (gH L xs).2.2.2.1 a = 0 := by
  rw [(g_fb a (Or.inr ha)).2.2.2.1]
  show (if a = 0 then 1 else if 1 ≤ a ∧ a < 23 then 40 else if 31 ≤ a ∧ a < 53 then 8 else if a = 60 then 1 else 0) = 0
  rw [if_neg (by omega), if_neg (by omega), if_neg (by omega), if_neg (by omega)]
theorem g_scr {L : Nat} {xs : Nat → Int32} : (gH L xs).2.2.2.1 0 = 1 ∧ (gH L xs).2.2.2.2.1 0 = L ∧ (gH L xs).1 0 = xs :=
  ⟨(g_fb 0 (by decide)).2.2.2.1, (g_fb 0 (by decide)).2.2.2.2, (g_fb 0 (by decide)).1⟩
section
variable {hi0 hi hi' : Nat → Nat → Int32} {hl0 hl hl' : Nat → Nat → Int64} {X0 X X' : lm_X} {C n ts : Nat} {T : lm_T} {R : Nat → Int32} {KO : ab_K} {V : ab_V} {tl F : Nat → Int32}
theorem sh_A_G (f : xG X X') (S : sh_A X) : sh_A X' := fun a ha => by
  obtain ⟨q1, q2, q3⟩ := f a (by omega)
  obtain ⟨s1, s2, s3⟩ := S a ha
  exact ⟨q1.trans s1, q2.trans s2, fun k => (q3 k).trans (s3 k)⟩
theorem cP_keep {up : Nat} (P : cP hi0 hl0 hi hl X C T n R KO V ts tl F) (f : fr 123 up hi hi') (fl : frl 123 up hl hl') (fx : xG X X') : cP hi' hl' hi' hl' X' C T n R KO V ts tl F := by
  obtain ⟨S, O, H, HR, FO, HV, HT, HF, HK, E, EL⟩ := P
  refine ⟨sh_A_G fx S, olP_X fx (olP_fr f (by decide) O), isT_fr f (Or.inl (by decide)) H, isR_fr f (Or.inl (by decide)) HR, fok_fr f (Or.inr (Or.inl (by decide))) FO, fun j hj => ?_, ⟨by rw [f 95 (by omega)]; exact HT.1, fun i hj => by rw [f 96 (by omega)]; exact HT.2 i hj⟩, fun k hk => by rw [f 106 (by omega)]; exact HF k hk, cK_fr f (Or.inr (by decide)) HK, fr_rfl, frl_rfl⟩
  rw [f (107 + 2 * j) (by omega), fl (107 + 2 * j + 1) (by omega)]; exact HV j hj
theorem mP_keep (P : mP hi0 hl0 X0 hi hl X T n R KO V ts tl F) (f : fr 64 123 hi hi') (fl : frl 64 123 hl hl') : mP hi' hl' X hi' hl' X T n R KO V ts tl F := by
  obtain ⟨S, O, H, HR, HV, HT, HF, HK, E, EL, EX⟩ := P
  refine ⟨S, olP_fr f (by decide) O, rT_fr f (Or.inr (by decide)) H, rR_fr f (Or.inr (Or.inl (by decide))) HR, fun j hj => ?_, ⟨by rw [f 123 (by omega)]; exact HT.1, fun i hj => by rw [f 139 (by omega)]; exact HT.2 i hj⟩, fun k hk => by rw [f 140 (by omega)]; exact HF k hk, mK_fr f (Or.inl (by decide)) HK, fr_rfl, frl_rfl, xG_rfl⟩
  rw [f 124 (by omega), f 125 (by omega), f 126 (by omega), f 137 (by omega), f 138 (by omega), fl (123 + (5 + j)) (by omega)]; exact HV j hj
end
theorem g_Z : okZ 0 0 T00 0 R00 none V00 0 F00 := by
  refine ⟨⟨fun a ha => absurd ha (by omega), fun j hj => show -99 ≤ (0 : Int32).toInt ∧ (0 : Int32).toInt ≤ 99 from by decide⟩, ⟨show (0 : Int32).toBitVec.toNat < 536870912 from by decide, ⟨0, by decide, rfl⟩, rfl, by decide, Or.inl rfl, fun z => absurd z (by decide)⟩, fun j hj => ⟨Or.inl rfl, Nat.zero_le _, Nat.zero_le _⟩, by decide, fun i hi => absurd hi (by omega), by decide, by decide, fun q hq => by cases hq⟩
/-- both stand -/
theorem g_both {L : Nat} {xs : Nat → Int32} {hi : Nat → Nat → Int32} {hl : Nat → Nat → Int64} {X : lm_X} (CC : CN (gH L xs) (hi, hl, X) 123 49 1) : cP hi hl hi hl X 0 T00 0 R00 none V00 0 F00 F00 ∧ mP hi hl X hi hl X T00 0 R00 none V00 0 F00 F00 ∧ X.2.1 0 = 1 ∧ X.2.2.1 0 = L ∧ hi 0 = xs := by
  have S := cn_sh (by decide) CC
  obtain ⟨c1, c2, c3, c4, c5, c6, c7, c8, c9, c10, c11, c12, c13, c14⟩ := CC
  have f : fr 123 172 (gH L xs).1 hi := fun a ha => (c1 a (by omega)).1
  have fl : frl 123 172 (gH L xs).2.1 hl := fun a ha => (c1 a (by omega)).2.1
  have fx : xG (gH L xs).2.2 X := fun a ha => ⟨(c1 a (by omega)).2.2.2.1, (c1 a (by omega)).2.2.2.2, fun k => congrFun (c1 a (by omega)).2.2.1 k⟩
  have P := cP_keep g_cP f fl fx
  have e : ∀ o, 0 < o → o < 49 → ∀ j, hi (123 + o) j = 0 := fun o h1 h2 j => (c3 o ⟨h1, h2⟩).2.2.1 j
  have el : ∀ o, 0 < o → o < 49 → ∀ j, hl (123 + o) j = 0 := fun o h1 h2 j => (c3 o ⟨h1, h2⟩).2.2.2 j
  have eb : ∀ j, j ≠ 21 → hi 123 j = 0 := c10
  refine ⟨P, ⟨⟨S, Or.inl ⟨c4 23, fun o ho => ?_⟩, Or.inl ⟨c4 22, fun o ho => ?_⟩, ?_, ?_⟩, P.2.1, ⟨fun k hk a ha => absurd ha (by omega), fun h hh w hw => ?_, eb 10 (by decide), by decide⟩, ⟨⟨eb 12 (by decide), fun c hc => ?_⟩, eb 15 (by decide), eb 14 (by decide), c11, fun z => absurd z (by decide), eb 18 (by decide), e 33 (by decide) (by decide) 0, e 33 (by decide) (by decide) 1⟩, fun j hj => ?_, ⟨eb 8 (by decide), fun i hi => absurd hi (by omega)⟩, fun k hk => e 17 (by decide) (by decide) _, c4 22, fr_rfl, frl_rfl, xG_rfl⟩, ?_, ?_, ?_⟩
  · exact (c1 (700 + o) (by omega)).2.2.2.1.trans (g_free (by omega))
  · exact (c1 (1000 + o) (by omega)).2.2.2.1.trans (g_free (by omega))
  · have : X.2.2.2.2.1 = 59 + 49 := c13
    rw [this]; split <;> split <;> decide
  · have : X.2.2.2.2.2 = (gH L xs).2.2.2.2.2.2.2 + (36 + (mLns.take 49).sum) := c14
    have e5 : (gH L xs).2.2.2.2.2.2.2 ≤ 10000 := by
      show (_ : Nat) ≤ _
      exact Nat.le_of_ble_eq_true rfl
    have e6 : 36 + (mLns.take 49).sum ≤ 2000 := by decide
    omega
  · exact e (31 + h) (by omega) (by omega) w
  · refine (e 29 (by decide) (by decide) c).trans ?_
    have : ∀ c, c < 4 → (0 : Int32) = s_count (R00 10) (nI c) := by decide
    exact this c hc
  · refine ⟨e 1 (by decide) (by decide) j, fun z => absurd (show wi (-1) 0 4 = true from z) (by decide), e 3 (by decide) (by decide) j, fun z => absurd (show (10 : Int32) < -1 from z) (by decide), e 15 (by decide) (by decide) j, fun i hi => el (5 + j) (by omega) (by omega) i⟩
  · exact (c1 0 (by decide)).2.2.2.1.trans g_scr.1
  · exact (c1 0 (by decide)).2.2.2.2.trans g_scr.2.1
  · exact (c1 0 (by decide)).1.trans g_scr.2.2
