/-! ===== a method of the class does not look at the law's arrays: made by wip/p46/gen2/mk57.py ===== -/
def yK (y : Nat) : Bool := Nat.beq y 42 || Nat.beq y 43 || Nat.beq y 44 || Nat.beq y 48 || Nat.beq y 52 || Nat.beq y 59 || Nat.beq y 61 || Nat.beq y 62 || Nat.beq y 73 || Nat.beq y 75 || Nat.beq y 77
def yC (y : Nat) : Bool := (Nat.ble 42 y && Nat.blt y 170 && !yK y) || Nat.beq y 282
/-- a row of the class: no field of the reference's, calls of the class alone -/
def iOk (e : mE) : Bool := match e.1 with
  | .getfield _ => !Nat.beq e.2.2.1 12
  | .putfield _ => !Nat.beq e.2.2.1 12
  | .invokespecial _ => nMk e.2.2.1 || Nat.beq e.2.2.1 1000 || yC e.2.2.1
  | .invokestatic _ => Nat.ble 1000 e.2.2.1 || yC e.2.2.1
  | .invokevirtual _ => nLst e.2.2.1 || Nat.ble 1000 e.2.2.1 || yC e.2.2.1
  | _ => true
def iAll (y : Nat) : Prop := ∀ pc e, mF y pc = some e → iOk e = true
def iChk (y B : Nat) : Bool := (List.range B).all fun p => match mF y p with
  | some e => iOk e
  | none => true
theorem iCut {α : Type} {p B : Nat} {x : Option α} (h : B ≤ p) : cond (Nat.blt p B) x none = none := by
  have : Nat.blt p B = false := by
    cases hb : Nat.blt p B with
    | false => rfl
    | true => have := blt_iff.mp hb; omega
  rw [this]
  rfl
theorem iJ {y B : Nat} (h1 : iChk y B = true) (h2 : ∀ p, B ≤ p → mF y p = none) : iAll y := by
  intro pc e he
  by_cases hp : pc < B
  · have := List.all_eq_true.mp h1 pc (List.mem_range.mpr hp)
    rw [he] at this
    exact this
  · rw [h2 pc (by omega)] at he
    cases he
theorem iA_45 : iAll 45 := iJ (B := 25) (by decide +kernel) fun p h => show mT_45 p = none from iCut h
theorem iA_46 : iAll 46 := iJ (B := 33) (by decide +kernel) fun p h => show mT_46 p = none from iCut h
theorem iA_47 : iAll 47 := iJ (B := 34) (by decide +kernel) fun p h => show mT_47 p = none from iCut h
theorem iA_49 : iAll 49 := iJ (B := 53) (by decide +kernel) fun p h => show mT_49 p = none from iCut h
theorem iA_50 : iAll 50 := iJ (B := 15) (by decide +kernel) fun p h => show mT_50 p = none from iCut h
theorem iA_51 : iAll 51 := iJ (B := 33) (by decide +kernel) fun p h => show mT_51 p = none from iCut h
theorem iA_53 : iAll 53 := iJ (B := 24) (by decide +kernel) fun p h => show mT_53 p = none from iCut h
theorem iA_54 : iAll 54 := iJ (B := 24) (by decide +kernel) fun p h => show mT_54 p = none from iCut h
theorem iA_55 : iAll 55 := iJ (B := 29) (by decide +kernel) fun p h => show mT_55 p = none from iCut h
theorem iA_56 : iAll 56 := iJ (B := 29) (by decide +kernel) fun p h => show mT_56 p = none from iCut h
theorem iA_57 : iAll 57 := iJ (B := 161) (by decide +kernel) fun p h => show mT_57 p = none from iCut h
theorem iA_58 : iAll 58 := iJ (B := 83) (by decide +kernel) fun p h => show mT_58 p = none from iCut h
theorem iA_60 : iAll 60 := iJ (B := 11) (by decide +kernel) fun p h => show mT_60 p = none from iCut h
theorem iA_63 : iAll 63 := iJ (B := 19) (by decide +kernel) fun p h => show mT_63 p = none from iCut h
theorem iA_64 : iAll 64 := iJ (B := 8) (by decide +kernel) fun p h => show mT_64 p = none from iCut h
theorem iA_65 : iAll 65 := iJ (B := 30) (by decide +kernel) fun p h => show mT_65 p = none from iCut h
theorem iA_66 : iAll 66 := iJ (B := 35) (by decide +kernel) fun p h => show mT_66 p = none from iCut h
theorem iA_67 : iAll 67 := iJ (B := 28) (by decide +kernel) fun p h => show mT_67 p = none from iCut h
theorem iA_68 : iAll 68 := iJ (B := 28) (by decide +kernel) fun p h => show mT_68 p = none from iCut h
theorem iA_69 : iAll 69 := iJ (B := 63) (by decide +kernel) fun p h => show mT_69 p = none from iCut h
theorem iA_70 : iAll 70 := iJ (B := 45) (by decide +kernel) fun p h => show mT_70 p = none from iCut h
theorem iA_71 : iAll 71 := iJ (B := 11) (by decide +kernel) fun p h => show mT_71 p = none from iCut h
theorem iA_72 : iAll 72 := iJ (B := 34) (by decide +kernel) fun p h => show mT_72 p = none from iCut h
theorem iA_74 : iAll 74 := iJ (B := 47) (by decide +kernel) fun p h => show mT_74 p = none from iCut h
theorem iA_76 : iAll 76 := iJ (B := 96) (by decide +kernel) fun p h => show mT_76 p = none from iCut h
theorem iA_78 : iAll 78 := iJ (B := 28) (by decide +kernel) fun p h => show mT_78 p = none from iCut h
theorem iA_79 : iAll 79 := iJ (B := 16) (by decide +kernel) fun p h => show mT_79 p = none from iCut h
theorem iA_80 : iAll 80 := iJ (B := 13) (by decide +kernel) fun p h => show mT_80 p = none from iCut h
theorem iA_81 : iAll 81 := iJ (B := 30) (by decide +kernel) fun p h => show mT_81 p = none from iCut h
theorem iA_82 : iAll 82 := iJ (B := 71) (by decide +kernel) fun p h => show mT_82 p = none from iCut h
theorem iA_83 : iAll 83 := iJ (B := 58) (by decide +kernel) fun p h => show mT_83 p = none from iCut h
theorem iA_84 : iAll 84 := iJ (B := 13) (by decide +kernel) fun p h => show mT_84 p = none from iCut h
theorem iA_85 : iAll 85 := iJ (B := 96) (by decide +kernel) fun p h => show mT_85 p = none from iCut h
theorem iA_86 : iAll 86 := iJ (B := 35) (by decide +kernel) fun p h => show mT_86 p = none from iCut h
theorem iA_87 : iAll 87 := iJ (B := 128) (by decide +kernel) fun p h => show mT_87 p = none from iCut h
theorem iA_88 : iAll 88 := iJ (B := 114) (by decide +kernel) fun p h => show mT_88 p = none from iCut h
theorem iA_89 : iAll 89 := iJ (B := 63) (by decide +kernel) fun p h => show mT_89 p = none from iCut h
theorem iA_90 : iAll 90 := iJ (B := 35) (by decide +kernel) fun p h => show mT_90 p = none from iCut h
theorem iA_91 : iAll 91 := iJ (B := 54) (by decide +kernel) fun p h => show mT_91 p = none from iCut h
theorem iA_92 : iAll 92 := iJ (B := 28) (by decide +kernel) fun p h => show mT_92 p = none from iCut h
theorem iA_93 : iAll 93 := iJ (B := 54) (by decide +kernel) fun p h => show mT_93 p = none from iCut h
theorem iA_94 : iAll 94 := iJ (B := 19) (by decide +kernel) fun p h => show mT_94 p = none from iCut h
theorem iA_95 : iAll 95 := iJ (B := 122) (by decide +kernel) fun p h => show mT_95 p = none from iCut h
theorem iA_96 : iAll 96 := iJ (B := 161) (by decide +kernel) fun p h => show mT_96 p = none from iCut h
theorem iA_97 : iAll 97 := iJ (B := 35) (by decide +kernel) fun p h => show mT_97 p = none from iCut h
theorem iA_98 : iAll 98 := iJ (B := 72) (by decide +kernel) fun p h => show mT_98 p = none from iCut h
theorem iA_99 : iAll 99 := iJ (B := 87) (by decide +kernel) fun p h => show mT_99 p = none from iCut h
theorem iA_100 : iAll 100 := iJ (B := 60) (by decide +kernel) fun p h => show mT_100 p = none from iCut h
theorem iA_101 : iAll 101 := iJ (B := 91) (by decide +kernel) fun p h => show mT_101 p = none from iCut h
theorem iA_102 : iAll 102 := iJ (B := 100) (by decide +kernel) fun p h => show mT_102 p = none from iCut h
theorem iA_103 : iAll 103 := iJ (B := 33) (by decide +kernel) fun p h => show mT_103 p = none from iCut h
theorem iA_104 : iAll 104 := iJ (B := 25) (by decide +kernel) fun p h => show mT_104 p = none from iCut h
theorem iA_105 : iAll 105 := iJ (B := 41) (by decide +kernel) fun p h => show mT_105 p = none from iCut h
theorem iA_106 : iAll 106 := iJ (B := 103) (by decide +kernel) fun p h => show mT_106 p = none from iCut h
theorem iA_107 : iAll 107 := iJ (B := 36) (by decide +kernel) fun p h => show mT_107 p = none from iCut h
theorem iA_108 : iAll 108 := iJ (B := 78) (by decide +kernel) fun p h => show mT_108 p = none from iCut h
theorem iA_109 : iAll 109 := iJ (B := 46) (by decide +kernel) fun p h => show mT_109 p = none from iCut h
theorem iA_110 : iAll 110 := iJ (B := 20) (by decide +kernel) fun p h => show mT_110 p = none from iCut h
theorem iA_111 : iAll 111 := iJ (B := 15) (by decide +kernel) fun p h => show mT_111 p = none from iCut h
theorem iA_112 : iAll 112 := iJ (B := 16) (by decide +kernel) fun p h => show mT_112 p = none from iCut h
theorem iA_113 : iAll 113 := iJ (B := 108) (by decide +kernel) fun p h => show mT_113 p = none from iCut h
theorem iA_114 : iAll 114 := iJ (B := 93) (by decide +kernel) fun p h => show mT_114 p = none from iCut h
theorem iA_115 : iAll 115 := iJ (B := 76) (by decide +kernel) fun p h => show mT_115 p = none from iCut h
theorem iA_116 : iAll 116 := iJ (B := 88) (by decide +kernel) fun p h => show mT_116 p = none from iCut h
theorem iA_117 : iAll 117 := iJ (B := 43) (by decide +kernel) fun p h => show mT_117 p = none from iCut h
theorem iA_118 : iAll 118 := iJ (B := 139) (by decide +kernel) fun p h => show mT_118 p = none from iCut h
theorem iA_119 : iAll 119 := iJ (B := 56) (by decide +kernel) fun p h => show mT_119 p = none from iCut h
theorem iA_120 : iAll 120 := iJ (B := 131) (by decide +kernel) fun p h => show mT_120 p = none from iCut h
theorem iA_121 : iAll 121 := iJ (B := 95) (by decide +kernel) fun p h => show mT_121 p = none from iCut h
theorem iA_122 : iAll 122 := iJ (B := 100) (by decide +kernel) fun p h => show mT_122 p = none from iCut h
theorem iA_123 : iAll 123 := iJ (B := 101) (by decide +kernel) fun p h => show mT_123 p = none from iCut h
theorem iA_124 : iAll 124 := iJ (B := 90) (by decide +kernel) fun p h => show mT_124 p = none from iCut h
theorem iA_125 : iAll 125 := iJ (B := 69) (by decide +kernel) fun p h => show mT_125 p = none from iCut h
theorem iA_126 : iAll 126 := iJ (B := 94) (by decide +kernel) fun p h => show mT_126 p = none from iCut h
theorem iA_127 : iAll 127 := iJ (B := 19) (by decide +kernel) fun p h => show mT_127 p = none from iCut h
theorem iA_128 : iAll 128 := iJ (B := 72) (by decide +kernel) fun p h => show mT_128 p = none from iCut h
theorem iA_129 : iAll 129 := iJ (B := 78) (by decide +kernel) fun p h => show mT_129 p = none from iCut h
theorem iA_130 : iAll 130 := iJ (B := 39) (by decide +kernel) fun p h => show mT_130 p = none from iCut h
theorem iA_131 : iAll 131 := iJ (B := 44) (by decide +kernel) fun p h => show mT_131 p = none from iCut h
theorem iA_132 : iAll 132 := iJ (B := 46) (by decide +kernel) fun p h => show mT_132 p = none from iCut h
theorem iA_133 : iAll 133 := iJ (B := 55) (by decide +kernel) fun p h => show mT_133 p = none from iCut h
theorem iA_134 : iAll 134 := iJ (B := 66) (by decide +kernel) fun p h => show mT_134 p = none from iCut h
theorem iA_135 : iAll 135 := iJ (B := 35) (by decide +kernel) fun p h => show mT_135 p = none from iCut h
theorem iA_136 : iAll 136 := iJ (B := 61) (by decide +kernel) fun p h => show mT_136 p = none from iCut h
theorem iA_137 : iAll 137 := iJ (B := 51) (by decide +kernel) fun p h => show mT_137 p = none from iCut h
theorem iA_138 : iAll 138 := iJ (B := 108) (by decide +kernel) fun p h => show mT_138 p = none from iCut h
theorem iA_139 : iAll 139 := iJ (B := 58) (by decide +kernel) fun p h => show mT_139 p = none from iCut h
theorem iA_140 : iAll 140 := iJ (B := 115) (by decide +kernel) fun p h => show mT_140 p = none from iCut h
theorem iA_141 : iAll 141 := iJ (B := 39) (by decide +kernel) fun p h => show mT_141 p = none from iCut h
theorem iA_142 : iAll 142 := iJ (B := 143) (by decide +kernel) fun p h => show mT_142 p = none from iCut h
theorem iA_143 : iAll 143 := iJ (B := 5) (by decide +kernel) fun p h => show mT_143 p = none from iCut h
theorem iA_144 : iAll 144 := iJ (B := 12) (by decide +kernel) fun p h => show mT_144 p = none from iCut h
theorem iA_145 : iAll 145 := iJ (B := 12) (by decide +kernel) fun p h => show mT_145 p = none from iCut h
theorem iA_146 : iAll 146 := iJ (B := 120) (by decide +kernel) fun p h => show mT_146 p = none from iCut h
theorem iA_147 : iAll 147 := iJ (B := 62) (by decide +kernel) fun p h => show mT_147 p = none from iCut h
theorem iA_148 : iAll 148 := iJ (B := 61) (by decide +kernel) fun p h => show mT_148 p = none from iCut h
theorem iA_149 : iAll 149 := iJ (B := 28) (by decide +kernel) fun p h => show mT_149 p = none from iCut h
theorem iA_150 : iAll 150 := iJ (B := 12) (by decide +kernel) fun p h => show mT_150 p = none from iCut h
theorem iA_151 : iAll 151 := iJ (B := 35) (by decide +kernel) fun p h => show mT_151 p = none from iCut h
theorem iA_152 : iAll 152 := iJ (B := 61) (by decide +kernel) fun p h => show mT_152 p = none from iCut h
theorem iA_153 : iAll 153 := iJ (B := 21) (by decide +kernel) fun p h => show mT_153 p = none from iCut h
theorem iA_154 : iAll 154 := iJ (B := 9) (by decide +kernel) fun p h => show mT_154 p = none from iCut h
theorem iA_155 : iAll 155 := iJ (B := 69) (by decide +kernel) fun p h => show mT_155 p = none from iCut h
theorem iA_156 : iAll 156 := iJ (B := 8) (by decide +kernel) fun p h => show mT_156 p = none from iCut h
theorem iA_157 : iAll 157 := iJ (B := 13) (by decide +kernel) fun p h => show mT_157 p = none from iCut h
theorem iA_158 : iAll 158 := iJ (B := 87) (by decide +kernel) fun p h => show mT_158 p = none from iCut h
theorem iA_159 : iAll 159 := iJ (B := 90) (by decide +kernel) fun p h => show mT_159 p = none from iCut h
theorem iA_160 : iAll 160 := iJ (B := 77) (by decide +kernel) fun p h => show mT_160 p = none from iCut h
theorem iA_161 : iAll 161 := iJ (B := 117) (by decide +kernel) fun p h => show mT_161 p = none from iCut h
theorem iA_162 : iAll 162 := iJ (B := 61) (by decide +kernel) fun p h => show mT_162 p = none from iCut h
theorem iA_163 : iAll 163 := iJ (B := 78) (by decide +kernel) fun p h => show mT_163 p = none from iCut h
theorem iA_164 : iAll 164 := iJ (B := 81) (by decide +kernel) fun p h => show mT_164 p = none from iCut h
theorem iA_165 : iAll 165 := iJ (B := 115) (by decide +kernel) fun p h => show mT_165 p = none from iCut h
theorem iA_166 : iAll 166 := iJ (B := 31) (by decide +kernel) fun p h => show mT_166 p = none from iCut h
theorem iA_167 : iAll 167 := iJ (B := 32) (by decide +kernel) fun p h => show mT_167 p = none from iCut h
theorem iA_168 : iAll 168 := iJ (B := 26) (by decide +kernel) fun p h => show mT_168 p = none from iCut h
theorem iA_169 : iAll 169 := iJ (B := 126) (by decide +kernel) fun p h => show mT_169 p = none from iCut h
theorem iA_282 : iAll 282 := iJ (B := 20) (by decide +kernel) fun p h => show mT_282 p = none from iCut h
theorem iC_0 {y : Nat} (h1 : 42 ≤ y) (h2 : y < 58) (hk : yK y = false) : iAll y := by
  obtain rfl | rfl | rfl | rfl | rfl | rfl | rfl | rfl | rfl | rfl | rfl | rfl | rfl | rfl | rfl | rfl : y = 42 ∨ y = 43 ∨ y = 44 ∨ y = 45 ∨ y = 46 ∨ y = 47 ∨ y = 48 ∨ y = 49 ∨ y = 50 ∨ y = 51 ∨ y = 52 ∨ y = 53 ∨ y = 54 ∨ y = 55 ∨ y = 56 ∨ y = 57 := by omega
  · cases hk
  · cases hk
  · cases hk
  · exact iA_45
  · exact iA_46
  · exact iA_47
  · cases hk
  · exact iA_49
  · exact iA_50
  · exact iA_51
  · cases hk
  · exact iA_53
  · exact iA_54
  · exact iA_55
  · exact iA_56
  · exact iA_57
theorem iC_1 {y : Nat} (h1 : 58 ≤ y) (h2 : y < 74) (hk : yK y = false) : iAll y := by
  obtain rfl | rfl | rfl | rfl | rfl | rfl | rfl | rfl | rfl | rfl | rfl | rfl | rfl | rfl | rfl | rfl : y = 58 ∨ y = 59 ∨ y = 60 ∨ y = 61 ∨ y = 62 ∨ y = 63 ∨ y = 64 ∨ y = 65 ∨ y = 66 ∨ y = 67 ∨ y = 68 ∨ y = 69 ∨ y = 70 ∨ y = 71 ∨ y = 72 ∨ y = 73 := by omega
  · exact iA_58
  · cases hk
  · exact iA_60
  · cases hk
  · cases hk
  · exact iA_63
  · exact iA_64
  · exact iA_65
  · exact iA_66
  · exact iA_67
  · exact iA_68
  · exact iA_69
  · exact iA_70
  · exact iA_71
  · exact iA_72
  · cases hk
theorem iC_2 {y : Nat} (h1 : 74 ≤ y) (h2 : y < 90) (hk : yK y = false) : iAll y := by
  obtain rfl | rfl | rfl | rfl | rfl | rfl | rfl | rfl | rfl | rfl | rfl | rfl | rfl | rfl | rfl | rfl : y = 74 ∨ y = 75 ∨ y = 76 ∨ y = 77 ∨ y = 78 ∨ y = 79 ∨ y = 80 ∨ y = 81 ∨ y = 82 ∨ y = 83 ∨ y = 84 ∨ y = 85 ∨ y = 86 ∨ y = 87 ∨ y = 88 ∨ y = 89 := by omega
  · exact iA_74
  · cases hk
  · exact iA_76
  · cases hk
  · exact iA_78
  · exact iA_79
  · exact iA_80
  · exact iA_81
  · exact iA_82
  · exact iA_83
  · exact iA_84
  · exact iA_85
  · exact iA_86
  · exact iA_87
  · exact iA_88
  · exact iA_89
theorem iC_3 {y : Nat} (h1 : 90 ≤ y) (h2 : y < 106) (hk : yK y = false) : iAll y := by
  obtain rfl | rfl | rfl | rfl | rfl | rfl | rfl | rfl | rfl | rfl | rfl | rfl | rfl | rfl | rfl | rfl : y = 90 ∨ y = 91 ∨ y = 92 ∨ y = 93 ∨ y = 94 ∨ y = 95 ∨ y = 96 ∨ y = 97 ∨ y = 98 ∨ y = 99 ∨ y = 100 ∨ y = 101 ∨ y = 102 ∨ y = 103 ∨ y = 104 ∨ y = 105 := by omega
  · exact iA_90
  · exact iA_91
  · exact iA_92
  · exact iA_93
  · exact iA_94
  · exact iA_95
  · exact iA_96
  · exact iA_97
  · exact iA_98
  · exact iA_99
  · exact iA_100
  · exact iA_101
  · exact iA_102
  · exact iA_103
  · exact iA_104
  · exact iA_105
theorem iC_4 {y : Nat} (h1 : 106 ≤ y) (h2 : y < 122) (hk : yK y = false) : iAll y := by
  obtain rfl | rfl | rfl | rfl | rfl | rfl | rfl | rfl | rfl | rfl | rfl | rfl | rfl | rfl | rfl | rfl : y = 106 ∨ y = 107 ∨ y = 108 ∨ y = 109 ∨ y = 110 ∨ y = 111 ∨ y = 112 ∨ y = 113 ∨ y = 114 ∨ y = 115 ∨ y = 116 ∨ y = 117 ∨ y = 118 ∨ y = 119 ∨ y = 120 ∨ y = 121 := by omega
  · exact iA_106
  · exact iA_107
  · exact iA_108
  · exact iA_109
  · exact iA_110
  · exact iA_111
  · exact iA_112
  · exact iA_113
  · exact iA_114
  · exact iA_115
  · exact iA_116
  · exact iA_117
  · exact iA_118
  · exact iA_119
  · exact iA_120
  · exact iA_121
theorem iC_5 {y : Nat} (h1 : 122 ≤ y) (h2 : y < 138) (hk : yK y = false) : iAll y := by
  obtain rfl | rfl | rfl | rfl | rfl | rfl | rfl | rfl | rfl | rfl | rfl | rfl | rfl | rfl | rfl | rfl : y = 122 ∨ y = 123 ∨ y = 124 ∨ y = 125 ∨ y = 126 ∨ y = 127 ∨ y = 128 ∨ y = 129 ∨ y = 130 ∨ y = 131 ∨ y = 132 ∨ y = 133 ∨ y = 134 ∨ y = 135 ∨ y = 136 ∨ y = 137 := by omega
  · exact iA_122
  · exact iA_123
  · exact iA_124
  · exact iA_125
  · exact iA_126
  · exact iA_127
  · exact iA_128
  · exact iA_129
  · exact iA_130
  · exact iA_131
  · exact iA_132
  · exact iA_133
  · exact iA_134
  · exact iA_135
  · exact iA_136
  · exact iA_137
theorem iC_6 {y : Nat} (h1 : 138 ≤ y) (h2 : y < 154) (hk : yK y = false) : iAll y := by
  obtain rfl | rfl | rfl | rfl | rfl | rfl | rfl | rfl | rfl | rfl | rfl | rfl | rfl | rfl | rfl | rfl : y = 138 ∨ y = 139 ∨ y = 140 ∨ y = 141 ∨ y = 142 ∨ y = 143 ∨ y = 144 ∨ y = 145 ∨ y = 146 ∨ y = 147 ∨ y = 148 ∨ y = 149 ∨ y = 150 ∨ y = 151 ∨ y = 152 ∨ y = 153 := by omega
  · exact iA_138
  · exact iA_139
  · exact iA_140
  · exact iA_141
  · exact iA_142
  · exact iA_143
  · exact iA_144
  · exact iA_145
  · exact iA_146
  · exact iA_147
  · exact iA_148
  · exact iA_149
  · exact iA_150
  · exact iA_151
  · exact iA_152
  · exact iA_153
theorem iC_7 {y : Nat} (h1 : 154 ≤ y) (h2 : y < 170) (hk : yK y = false) : iAll y := by
  obtain rfl | rfl | rfl | rfl | rfl | rfl | rfl | rfl | rfl | rfl | rfl | rfl | rfl | rfl | rfl | rfl : y = 154 ∨ y = 155 ∨ y = 156 ∨ y = 157 ∨ y = 158 ∨ y = 159 ∨ y = 160 ∨ y = 161 ∨ y = 162 ∨ y = 163 ∨ y = 164 ∨ y = 165 ∨ y = 166 ∨ y = 167 ∨ y = 168 ∨ y = 169 := by omega
  · exact iA_154
  · exact iA_155
  · exact iA_156
  · exact iA_157
  · exact iA_158
  · exact iA_159
  · exact iA_160
  · exact iA_161
  · exact iA_162
  · exact iA_163
  · exact iA_164
  · exact iA_165
  · exact iA_166
  · exact iA_167
  · exact iA_168
  · exact iA_169
theorem yC_iff {y : Nat} : yC y = true ↔ (42 ≤ y ∧ y < 170 ∧ yK y = false) ∨ y = 282 := by
  unfold yC
  simp only [Bool.or_eq_true, Bool.and_eq_true, blt_iff, beq_iff, Bool.not_eq_true']
  constructor
  · rintro (⟨⟨h1, h2⟩, h3⟩ | h)
    · exact Or.inl ⟨Nat.le_of_ble_eq_true h1, h2, h3⟩
    · exact Or.inr h
  · rintro (⟨h1, h2, h3⟩ | h)
    · exact Or.inl ⟨⟨Nat.ble_eq.mpr h1, h2⟩, h3⟩
    · exact Or.inr h
theorem iAll_c {y : Nat} (h : yC y = true) : iAll y := by
  rcases yC_iff.mp h with ⟨h1, h2, hk⟩ | h
  · by_cases h0 : y < 58
    · exact iC_0 (by omega) h0 hk
    by_cases h1 : y < 74
    · exact iC_1 (by omega) h1 hk
    by_cases h2 : y < 90
    · exact iC_2 (by omega) h2 hk
    by_cases h3 : y < 106
    · exact iC_3 (by omega) h3 hk
    by_cases h4 : y < 122
    · exact iC_4 (by omega) h4 hk
    by_cases h5 : y < 138
    · exact iC_5 (by omega) h5 hk
    by_cases h6 : y < 154
    · exact iC_6 (by omega) h6 hk
    exact iC_7 (by omega) (by omega) hk
  · subst h
    exact iA_282
theorem nYo_c {y : Nat} (h : yC y = true) (h2 : y ≠ 282) : nYo y = false := by
  rcases yC_iff.mp h with ⟨h1, h3, -⟩ | h
  · unfold nYo
    have e1 : Nat.blt y 42 = false := by
      cases hb : Nat.blt y 42 with
      | false => rfl
      | true => have := blt_iff.mp hb; omega
    have e2 : Nat.ble 170 y = false := by
      cases hb : Nat.ble 170 y with
      | false => rfl
      | true => have := Nat.le_of_ble_eq_true hb; omega
    rw [e1, e2]
    rfl
  · exact absurd h h2
def sw (a : nM) (s : nS) : nS := (s.1, a, s.2.2)
section IND
variable {β : Type} {xs : Nat → Int32} {nx : Nat} {go : Nat → nLs → List nV → nS → Option β} {call : Nat → List nV → Nat → List nV → nS → Option β} {fin : nRes → nS → Option β} {a : nM} {s : nS}
theorem nKdh_1 {j : Nat} (h : 128 ≤ j) : nKd_1 j = (9, 0) := by
  have h1 : ∀ k, k ≤ 128 → ¬ j < k := fun k hk => by omega
  have h2 : ∀ k, k < 128 → ¬ j = k := fun k hk => by omega
  unfold nKd_1
  simp (disch := decide) only [cond_ite, blt_iff, beq_iff, h1, h2, if_false]
theorem nKdh_2 {j : Nat} (h : 128 ≤ j) : nKd_2 j = (9, 0) := by
  have h1 : ∀ k, k ≤ 128 → ¬ j < k := fun k hk => by omega
  have h2 : ∀ k, k < 128 → ¬ j = k := fun k hk => by omega
  unfold nKd_2
  simp (disch := decide) only [cond_ite, blt_iff, beq_iff, h1, h2, if_false]
theorem nKdh_3 {j : Nat} (h : 128 ≤ j) : nKd_3 j = (9, 0) := by
  have h1 : ∀ k, k ≤ 128 → ¬ j < k := fun k hk => by omega
  have h2 : ∀ k, k < 128 → ¬ j = k := fun k hk => by omega
  unfold nKd_3
  simp (disch := decide) only [cond_ite, blt_iff, beq_iff, h1, h2, if_false]
theorem nKdh_4 {j : Nat} (h : 128 ≤ j) : nKd_4 j = (9, 0) := by
  have h1 : ∀ k, k ≤ 128 → ¬ j < k := fun k hk => by omega
  have h2 : ∀ k, k < 128 → ¬ j = k := fun k hk => by omega
  unfold nKd_4
  simp (disch := decide) only [cond_ite, blt_iff, beq_iff, h1, h2, if_false]
theorem nKdh_5 {j : Nat} (h : 128 ≤ j) : nKd_5 j = (9, 0) := by
  have h1 : ∀ k, k ≤ 128 → ¬ j < k := fun k hk => by omega
  have h2 : ∀ k, k < 128 → ¬ j = k := fun k hk => by omega
  unfold nKd_5
  simp (disch := decide) only [cond_ite, blt_iff, beq_iff, h1, h2, if_false]
theorem nKdh_6 {j : Nat} (h : 128 ≤ j) : nKd_6 j = (9, 0) := by
  have h1 : ∀ k, k ≤ 128 → ¬ j < k := fun k hk => by omega
  have h2 : ∀ k, k < 128 → ¬ j = k := fun k hk => by omega
  unfold nKd_6
  simp (disch := decide) only [cond_ite, blt_iff, beq_iff, h1, h2, if_false]
theorem nKdh_7 {j : Nat} (h : 128 ≤ j) : nKd_7 j = (9, 0) := by
  have h1 : ∀ k, k ≤ 128 → ¬ j < k := fun k hk => by omega
  have h2 : ∀ k, k < 128 → ¬ j = k := fun k hk => by omega
  unfold nKd_7
  simp (disch := decide) only [cond_ite, blt_iff, beq_iff, h1, h2, if_false]
theorem nKdh_8 {j : Nat} (h : 128 ≤ j) : nKd_8 j = (9, 0) := by
  have h1 : ∀ k, k ≤ 128 → ¬ j < k := fun k hk => by omega
  have h2 : ∀ k, k < 128 → ¬ j = k := fun k hk => by omega
  unfold nKd_8
  simp (disch := decide) only [cond_ite, blt_iff, beq_iff, h1, h2, if_false]
theorem nKdh_9 {j : Nat} (h : 128 ≤ j) : nKd_9 j = (9, 0) := by
  have h1 : ∀ k, k ≤ 128 → ¬ j < k := fun k hk => by omega
  have h2 : ∀ k, k < 128 → ¬ j = k := fun k hk => by omega
  unfold nKd_9
  simp (disch := decide) only [cond_ite, blt_iff, beq_iff, h1, h2, if_false]
theorem nKdh_10 {j : Nat} (h : 128 ≤ j) : nKd_10 j = (9, 0) := by
  have h1 : ∀ k, k ≤ 128 → ¬ j < k := fun k hk => by omega
  have h2 : ∀ k, k < 128 → ¬ j = k := fun k hk => by omega
  unfold nKd_10
  simp (disch := decide) only [cond_ite, blt_iff, beq_iff, h1, h2, if_false]
theorem nKdh_11 {j : Nat} (h : 128 ≤ j) : nKd_11 j = (9, 0) := by
  have h1 : ∀ k, k ≤ 128 → ¬ j < k := fun k hk => by omega
  have h2 : ∀ k, k < 128 → ¬ j = k := fun k hk => by omega
  unfold nKd_11
  simp (disch := decide) only [cond_ite, blt_iff, beq_iff, h1, h2, if_false]
theorem nKdc {c j : Nat} (h : 13 ≤ c) : nKd c j = (9, 0) := by
  have h1 : ∀ k, k ≤ 13 → ¬ c < k := fun k hk => by omega
  have h2 : ∀ k, k < 13 → ¬ c = k := fun k hk => by omega
  unfold nKd
  simp (disch := decide) only [cond_ite, blt_iff, beq_iff, h1, h2, if_false]
theorem nKd7 {c j : Nat} (h : c ≠ 12) : (nKd c j).1 ≠ 7 := by
  intro z
  by_cases hc : c < 13
  · by_cases hj : j < 128
    · exact h (nTab6 c hc j hj z)
    · have hj : 128 ≤ j := by omega
      obtain rfl | rfl | rfl | rfl | rfl | rfl | rfl | rfl | rfl | rfl | rfl | rfl : c = 0 ∨ c = 1 ∨ c = 2 ∨ c = 3 ∨ c = 4 ∨ c = 5 ∨ c = 6 ∨ c = 7 ∨ c = 8 ∨ c = 9 ∨ c = 10 ∨ c = 11 := by omega
      · cases z
      · rw [show nKd 1 j = nKd_1 j from rfl, nKdh_1 hj] at z; cases z
      · rw [show nKd 2 j = nKd_2 j from rfl, nKdh_2 hj] at z; cases z
      · rw [show nKd 3 j = nKd_3 j from rfl, nKdh_3 hj] at z; cases z
      · rw [show nKd 4 j = nKd_4 j from rfl, nKdh_4 hj] at z; cases z
      · rw [show nKd 5 j = nKd_5 j from rfl, nKdh_5 hj] at z; cases z
      · rw [show nKd 6 j = nKd_6 j from rfl, nKdh_6 hj] at z; cases z
      · rw [show nKd 7 j = nKd_7 j from rfl, nKdh_7 hj] at z; cases z
      · rw [show nKd 8 j = nKd_8 j from rfl, nKdh_8 hj] at z; cases z
      · rw [show nKd 9 j = nKd_9 j from rfl, nKdh_9 hj] at z; cases z
      · rw [show nKd 10 j = nKd_10 j from rfl, nKdh_10 hj] at z; cases z
      · rw [show nKd 11 j = nKd_11 j from rfl, nKdh_11 hj] at z; cases z
  · rw [nKdc (by omega)] at z
    cases z
theorem nGet_sw {c j k : Nat} (h : (nKd c j).1 ≠ 7) : nGet c j k (sw a s) = nGet c j k s := by
  unfold nGet
  split <;> first | rfl | (rename_i hq; exact absurd (by rw [hq]) h)
theorem nPut_sw {c j k : Nat} {v : nV} {g : nS → Option β} (h : (nKd c j).1 ≠ 7) : nPut c j k v (sw a s) g = nPut c j k v s fun s => g (sw a s) := by
  unfold nPut
  generalize nKd c j = q at h
  split <;> first | rfl | exact absurd rfl h
theorem nCtor_sw {y q : Nat} {L : nLs} {S : List nV} {g : Nat → nLs → List nV → nS → Option β} : nCtor y q L S (sw a s) g = nCtor y q L S s fun q L S s => g q L S (sw a s) := by
  unfold nCtor
  split <;> rfl
theorem nLm_sw {y q : Nat} {L : nLs} {S : List nV} {g : Nat → nLs → List nV → nS → Option β} : nLm y q L S (sw a s) g = nLm y q L S s fun q L S s => g q L S (sw a s) := by
  unfold nLm
  split <;> rfl
theorem nCl_sw {kd ci y n ml : Nat} {S : List nV} : nCl kd ci y n ml S (sw a s) call = nCl kd ci y n ml S s fun y A ml S s => call y A ml S (sw a s) := by
  unfold nCl
  congr 1
set_option maxHeartbeats 4000000 in
theorem nK_sw {ins : Instr} {n e1 e2 y pc : Nat} {L : nLs} {S : List nV} (hy : nYo y = false) (hr : iOk (ins, n, e1, e2) = true) : nK xs nx go call fin ins n e1 e2 y pc L S (sw a s) = nK xs nx (fun pc L S s => go pc L S (sw a s)) (fun y A ml S s => call y A ml S (sw a s)) (fun r s => fin r (sw a s)) ins n e1 e2 y pc L S s := by
  cases ins
  case getfield i =>
    have h7 : ∀ j, (nKd e1 j).1 ≠ 7 := fun j => nKd7 (fun z => by subst z; cases hr)
    simp only [nK]
    split <;> first | rfl | (simp only [nGet_sw (h7 _)])
  case putfield i =>
    have h7 : ∀ j, (nKd e1 j).1 ≠ 7 := fun j => nKd7 (fun z => by subst z; cases hr)
    simp only [nK]
    split <;> first | rfl | (simp only [nPut_sw (h7 _)])
  case invokespecial i => simp only [nK, nCtor_sw, nCl_sw]
  case invokevirtual i => simp only [nK, nLm_sw, nCl_sw]
  case invokestatic i => first | (simp only [nK, nCl_sw]; done) | (simp only [nK, nCl_sw]; congr 1; done) | (simp only [nK, nCl_sw]; congr 1; split <;> rfl)
  case iaload => simp only [nK, hy, Bool.and_false, cond_false]; split <;> rfl
  case iastore => simp only [nK, hy, Bool.and_false, cond_false]; split <;> rfl
  case baload => simp only [nK, hy, Bool.and_false, cond_false]
  case bastore => simp only [nK, hy, Bool.and_false, cond_false]
  case new i => simp only [nK]; rfl
  all_goals first | (simp only [nK]; done) | (simp only [nK]; rfl) | (simp only [nK]; split <;> first | rfl | (split <;> rfl))
end IND
section IND2
variable {xs : Nat → Int32} {nx : Nat}
theorem sw_self (s : nS) : sw s.2.1 s = s := rfl
set_option maxHeartbeats 4000000 in
/-- whom a row of the class calls -/
theorem nCallee {e : mE} {y pc : Nat} {L : nLs} {S : List nV} {s : nS} (hr : iOk e = true) {y' ml : Nat} {A S' : List nV} {s' : nS} (h : nStep xs nx e y pc L S s = some (.inr (.inl (y', A, ml, S', s')))) : yC y' = true := by
  obtain ⟨ins, n, e1, e2⟩ := e
  have h1 : nK xs nx (fun _ _ _ _ => some true) (fun y' _ _ _ _ => some (yC y')) (fun _ _ => some true) ins n e1 e2 y pc L S s = some (yC y') := by
    rw [nK_int, h]
    rfl
  have h2 : nK xs nx (fun _ _ _ _ => some true) (fun y' _ _ _ _ => some (yC y')) (fun _ _ => some true) ins n e1 e2 y pc L S s = nK xs nx (fun _ _ _ _ => some true) (fun _ _ _ _ _ => some true) (fun _ _ => some true) ins n e1 e2 y pc L S s := by
    cases ins
    case invokespecial i =>
      simp only [nK]
      cases hm : nMk e1 with
      | true => rfl
      | false =>
        cases hk : Nat.beq e1 1000 with
        | true => rfl
        | false =>
          have : yC e1 = true := by simpa [iOk, hm, hk] using hr
          simp only [nCl, this]
    case invokevirtual i =>
      simp only [nK]
      cases hm : nLst e1 with
      | true => rfl
      | false =>
        cases hk : Nat.ble 1000 e1 with
        | true => rfl
        | false =>
          have : yC e1 = true := by simpa [iOk, hm, hk] using hr
          simp only [nCl, this]
    case invokestatic i =>
      simp only [nK]
      cases hk : Nat.ble 1000 e1 with
      | true => rfl
      | false =>
        have : yC e1 = true := by simpa [iOk, hk] using hr
        simp only [nCl, this]
    all_goals rfl
  have h3 : ∀ b, nK xs nx (fun _ _ _ _ => some true) (fun _ _ _ _ _ => some true) (fun _ _ => some true) ins n e1 e2 y pc L S s = some b → b = true := by
    intro b hb
    rw [nK_int] at hb
    cases hs : nStep xs nx (ins, n, e1, e2) y pc L S s with
    | none => rw [hs] at hb; cases hb
    | some act =>
      rw [hs] at hb
      rcases act with ⟨_, _, _, _⟩ | ⟨_, _, _, _, _⟩ | ⟨_, _⟩ <;> (cases hb; rfl)
  exact h3 _ (h2.symm.trans h1)
theorem nHx_c {y pc E : Nat} {L : nLs} {g : Nat → nLs → List nV → nS → Option nOut} {s : nS} (h : yC y = true) : nHx y pc L g E s = some (.inr E, s) := by
  have hh : mHs y = [] := by
    unfold mHs
    have : Nat.ble y 2 = false := by
      cases hb : Nat.ble y 2 with
      | false => rfl
      | true => have := Nat.le_of_ble_eq_true hb; rcases yC_iff.mp h with ⟨h1, -, -⟩ | h1 <;> omega
    rw [this, Bool.and_false]
    rfl
  unfold nHx
  rw [hh]
  rfl
theorem nYo_r {y pc : Nat} {e : mE} (hy : yC y = true) (he : mF y pc = some e) {β : Type} {go : Nat → nLs → List nV → nS → Option β} {call : Nat → List nV → Nat → List nV → nS → Option β} {fin : nRes → nS → Option β} {a : nM} {s : nS} {L : nLs} {S : List nV} : nK xs nx go call fin e.1 e.2.1 e.2.2.1 e.2.2.2 y pc L S (sw a s) = nInt (fun pc L S s => go pc L S (sw a s)) (fun y A ml S s => call y A ml S (sw a s)) (fun r s => fin r (sw a s)) (nStep xs nx e y pc L S s) := by
  have hr := iAll_c hy pc e he
  by_cases h2 : y = 282
  · subst h2
    have hq : (match e.1 with | .iaload => false | .iastore => false | .baload => false | .bastore => false | _ => true) = true := by
      have hA : (List.range 60).all (fun p => match mF 282 p with | some e => (match e.1 with | .iaload => false | .iastore => false | .baload => false | .bastore => false | _ => true) | none => true) = true := by decide +kernel
      by_cases hp : pc < 60
      · have := List.all_eq_true.mp hA pc (List.mem_range.mpr hp)
        rw [he] at this
        exact this
      · exfalso
        have : mF 282 pc = none := by show mT_282 pc = none; exact iCut (by omega)
        rw [this] at he
        cases he
    have : nK xs nx go call fin e.1 e.2.1 e.2.2.1 e.2.2.2 282 pc L S (sw a s) = nK xs nx (fun pc L S s => go pc L S (sw a s)) (fun y A ml S s => call y A ml S (sw a s)) (fun r s => fin r (sw a s)) e.1 e.2.1 e.2.2.1 e.2.2.2 282 pc L S s := by
      obtain ⟨ins, n, e1, e2⟩ := e
      cases ins
      case iaload => cases hq
      case iastore => cases hq
      case baload => cases hq
      case bastore => cases hq
      case getfield i =>
        have h7 : ∀ j, (nKd e1 j).1 ≠ 7 := fun j => nKd7 (fun z => by subst z; cases hr)
        simp only [nK]
        split <;> first | rfl | (simp only [nGet_sw (h7 _)])
      case putfield i =>
        have h7 : ∀ j, (nKd e1 j).1 ≠ 7 := fun j => nKd7 (fun z => by subst z; cases hr)
        simp only [nK]
        split <;> first | rfl | (simp only [nPut_sw (h7 _)])
      case invokespecial i => simp only [nK, nCtor_sw, nCl_sw]
      case invokevirtual i => simp only [nK, nLm_sw, nCl_sw]
      case invokestatic i => first | (simp only [nK, nCl_sw]; done) | (simp only [nK, nCl_sw]; congr 1; done) | (simp only [nK, nCl_sw]; congr 1; split <;> rfl)
      case new i => simp only [nK]; rfl
      all_goals first | (simp only [nK]; done) | (simp only [nK]; rfl) | (simp only [nK]; split <;> first | rfl | (split <;> rfl))
    rw [this, nK_int]
  · rw [nK_sw (nYo_c hy h2) hr, nK_int]
theorem nMem {y pc : Nat} {e : mE} (hy : yC y = true) (he : mF y pc = some e) {s : nS} {L : nLs} {S : List nV} {act : nAct} (h : nStep xs nx e y pc L S s = some act) : (match act with | .inl (_, _, _, s') => s' | .inr (.inl (_, _, _, _, s')) => s' | .inr (.inr (_, s')) => s').2.1 = s.2.1 := by
  have h1 := nYo_r (xs := xs) (nx := nx) hy he (go := fun pc L S s => some ((.inl (pc, L, S, s)) : nAct)) (call := fun y A ml S s => some (.inr (.inl (y, A, ml, S, s)))) (fin := fun r s => some (.inr (.inr (r, s)))) (a := s.2.1) (s := s) (L := L) (S := S)
  rw [sw_self] at h1
  have h2 : nStep xs nx e y pc L S s = _ := h1
  rw [h] at h2
  rcases act with ⟨q, L', S', s'⟩ | ⟨y', A, ml, S', s'⟩ | ⟨r, s'⟩ <;> injection h2 with h2
  · injection h2 with h2
    injection h2 with _ h2
    injection h2 with _ h2
    injection h2 with _ h2
    have h3 := congrArg (fun s : nS => s.2.1) h2
    exact h3
  · injection h2 with h2
    injection h2 with h2
    injection h2 with _ h2
    injection h2 with _ h2
    injection h2 with _ h2
    injection h2 with _ h2
    have h3 := congrArg (fun s : nS => s.2.1) h2
    exact h3
  · injection h2 with h2
    injection h2 with h2
    injection h2 with _ h2
    have h3 := congrArg (fun s : nS => s.2.1) h2
    exact h3
theorem nX_sw : ∀ (n y pc : Nat) (L : nLs) (S : List nV) (s : nS) (r : nOut), yC y = true → nX xs nx n y pc L S s = some r → r.2.2.1 = s.2.1 ∧ ∀ a, nX xs nx n y pc L S (sw a s) = some (r.1, sw a r.2) := by
  intro n
  induction n with
  | zero => intro y pc L S s r _ h; cases h
  | succ n ih =>
    intro y pc L S s r hy h
    unfold nX at h
    split at h
    · cases h
    · rename_i e he
      have hX : ∀ a, nX xs nx (n + 1) y pc L S (sw a s) = nK xs nx (nX xs nx n y) (nCall y pc L (nX xs nx n y) (nX xs nx n)) nFin e.1 e.2.1 e.2.2.1 e.2.2.2 y pc L S (sw a s) := by
        intro a
        show (match mF y pc with | none => none | some e => _) = _
        rw [he]
      have hX2 := fun a => (hX a).trans (nYo_r (xs := xs) (nx := nx) hy he)
      rw [nK_int] at h
      cases hs : nStep xs nx e y pc L S s with
      | none => rw [show (e.1, e.2.1, e.2.2.1, e.2.2.2) = e from rfl, hs] at h; cases h
      | some act =>
        have hm := nMem (xs := xs) (nx := nx) hy he hs
        rw [show (e.1, e.2.1, e.2.2.1, e.2.2.2) = e from rfl, hs] at h
        simp only [hs] at hX2
        rcases act with ⟨q, L', S', s'⟩ | ⟨y', A, ml, S', s'⟩ | ⟨r', s'⟩
        · have hm : s'.2.1 = s.2.1 := hm
          have h : nX xs nx n y q L' S' s' = some r := h
          obtain ⟨h1, h2⟩ := ih y q L' S' s' r hy h
          exact ⟨h1.trans hm, fun a => (hX2 a).trans (h2 a)⟩
        · have hm : s'.2.1 = s.2.1 := hm
          have hy' := nCallee (xs := xs) (nx := nx) (iAll_c hy pc e he) hs
          have h : nCall y pc L (nX xs nx n y) (nX xs nx n) y' A ml S' s' = some r := h
          have goal : r.2.2.1 = s'.2.1 ∧ ∀ a, nCall y pc L (nX xs nx n y) (nX xs nx n) y' A ml S' (sw a s') = some (r.1, sw a r.2) := by
            unfold nCall at h ⊢
            cases hq : nX xs nx n y' 0 (nL0 A ml) [] s' with
            | none => rw [hq] at h; cases nRt y' |>.beq 0 <;> cases nRt y' |>.beq 1 <;> simp [bV, bI, bR] at h
            | some q =>
              obtain ⟨h1, h2⟩ := ih y' 0 _ _ s' q hy' hq
              obtain ⟨r1, s1⟩ := q
              have h1 : s1.2.1 = s'.2.1 := h1
              have h2 : ∀ a, nX xs nx n y' 0 (nL0 A ml) [] (sw a s') = some (r1, sw a s1) := h2
              rw [hq] at h
              simp only [h2]
              have hx : ∀ E r, nHx y pc L (nX xs nx n y) E s1 = some r → r.2.2.1 = s'.2.1 ∧ ∀ a, nHx y pc L (nX xs nx n y) E (sw a s1) = some (r.1, sw a r.2) := by
                intro E r hr
                rw [nHx_c hy] at hr
                cases hr
                exact ⟨h1, fun a => nHx_c hy⟩
              have hg : ∀ L S r, nX xs nx n y (pc + 3) L S s1 = some r → r.2.2.1 = s'.2.1 ∧ ∀ a, nX xs nx n y (pc + 3) L S (sw a s1) = some (r.1, sw a r.2) := by
                intro L S r hr
                obtain ⟨k1, k2⟩ := ih y (pc + 3) L S s1 r hy hr
                exact ⟨k1.trans h1, k2⟩
              cases h0 : (nRt y').beq 0 with
              | true =>
                rw [h0] at h
                simp only [cond_true] at h ⊢
                rcases r1 with (_ | v) | E
                · exact hg _ _ _ h
                · cases h
                · exact hx _ _ h
              | false =>
                rw [h0] at h
                simp only [cond_false] at h ⊢
                cases h01 : (nRt y').beq 1 with
                | true =>
                  rw [h01] at h
                  simp only [cond_true] at h ⊢
                  rcases r1 with (_ | v) | E
                  · cases h
                  · rcases v with x | v
                    · exact hg _ _ _ h
                    · cases h
                  · exact hx _ _ h
                | false =>
                  rw [h01] at h
                  simp only [cond_false] at h ⊢
                  rcases r1 with (_ | v) | E
                  · cases h
                  · rcases v with x | x | ⟨t, o⟩ | v
                    · cases h
                    · cases h
                    · simp only [bR] at h ⊢
                      unfold ntg at h ⊢
                      cases hb : Nat.beq t (nRt y' - 100) with
                      | true => rw [hb] at h; exact hg _ _ _ h
                      | false => rw [hb] at h; cases h
                    · cases h
                  · exact hx _ _ h
          exact ⟨goal.1.trans hm, fun a => (hX2 a).trans (goal.2 a)⟩
        · have hm : s'.2.1 = s.2.1 := hm
          cases h
          exact ⟨hm, fun a => hX2 a⟩
/-- a run of a method of the class, whatever the law's arrays hold -/
theorem R1_sw {y pc : Nat} {L : nLs} {S : List nV} {c c' : nC} {m m' a : nM} {z z' : Nat × (Nat → Int64)} {r : nRes} (hy : yC y = true) (h : R1 xs nx y pc L S (c, m, z) = some (r, (c', m', z'))) : R1 xs nx y pc L S (c, a, z) = some (r, (c', a, z')) := by
  obtain ⟨n, hn⟩ := R1_iff.mp h
  exact R1_iff.mpr ⟨n, (nX_sw n y pc L S _ _ hy hn).2 a⟩
end IND2
