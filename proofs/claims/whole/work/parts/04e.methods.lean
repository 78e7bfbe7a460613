/-! calls, a method's entry, statics, Math, arraycopy -/
def xwd (i : Nat) (w : Cond) : Bool := decide (lw_tbl[i]? = some w) && goodWord w
def xwn (i : Nat) (w : Cond) : Bool := decide (lw_tbl[i]? = some w) && xnest w
theorem xwd_mem {i : Nat} {w : Cond} (h : xwd i w = true) : w ∈ xT := by
  unfold xwd at h
  rw [Bool.and_eq_true, decide_eq_true_eq] at h
  exact List.mem_filter.mpr ⟨List.mem_of_getElem? h.1, h.2⟩
theorem xwn_mem {i : Nat} {w : Cond} (h : xwn i w = true) : w ∈ xN := by
  unfold xwn at h
  rw [Bool.and_eq_true, decide_eq_true_eq] at h
  exact List.mem_filter.mpr ⟨List.mem_of_getElem? h.1, h.2⟩
abbrev xst (mi : Nat) : Bool := (mt mi).2.2.2.2.2.1
def xmB (mi : Nat) : Bool :=
  xwd (mt mi).2.2.2.2.2.2.2.1 (bif xst mi then .static (mt mi).1 else .instanceMethod (mt mi).1) && (xst mi || xwd (mt mi).2.2.2.2.2.2.2.2.1 (.selects (mt mi).1.cls (mt mi).1 (mt mi).1)) && xwd (mt mi).2.2.2.2.2.2.2.2.2.1 (.initialized (mt mi).1.cls) && plainName (mt mi).1.cls && decide ((mt mi).1.cls ≠ "java/lang/invoke/MethodHandle") && decide ((mt mi).1.cls ≠ "java/lang/invoke/VarHandle") && Nat.ble (xml mi) 21
def xmok (mi : Nat) : Prop := lw_tbl[(mt mi).2.2.2.2.2.2.1]? = some (.code (mt mi).1 (xby mi) (xml mi) (xrt mi)) ∧ xmB mi = true
set_option maxRecDepth 40000 in
theorem xmk_0 : xmok 0 := ⟨rfl, by decide +kernel⟩
set_option maxRecDepth 40000 in
theorem xmk_1 : xmok 1 := ⟨rfl, by decide +kernel⟩
set_option maxRecDepth 40000 in
theorem xmk_2 : xmok 2 := ⟨rfl, by decide +kernel⟩
set_option maxRecDepth 40000 in
theorem xmk_3 : xmok 3 := ⟨rfl, by decide +kernel⟩
set_option maxRecDepth 40000 in
theorem xmk_4 : xmok 4 := ⟨rfl, by decide +kernel⟩
set_option maxRecDepth 40000 in
theorem xmk_5 : xmok 5 := ⟨rfl, by decide +kernel⟩
set_option maxRecDepth 40000 in
theorem xmk_6 : xmok 6 := ⟨rfl, by decide +kernel⟩
set_option maxRecDepth 40000 in
theorem xmk_7 : xmok 7 := ⟨rfl, by decide +kernel⟩
set_option maxRecDepth 40000 in
theorem xmk_8 : xmok 8 := ⟨rfl, by decide +kernel⟩
set_option maxRecDepth 40000 in
theorem xmk_9 : xmok 9 := ⟨rfl, by decide +kernel⟩
set_option maxRecDepth 40000 in
theorem xmk_10 : xmok 10 := ⟨rfl, by decide +kernel⟩
set_option maxRecDepth 40000 in
theorem xmk_11 : xmok 11 := ⟨rfl, by decide +kernel⟩
set_option maxRecDepth 40000 in
theorem xmk_12 : xmok 12 := ⟨rfl, by decide +kernel⟩
set_option maxRecDepth 40000 in
theorem xmk_13 : xmok 13 := ⟨rfl, by decide +kernel⟩
set_option maxRecDepth 40000 in
theorem xmk_14 : xmok 14 := ⟨rfl, by decide +kernel⟩
set_option maxRecDepth 40000 in
theorem xmk_15 : xmok 15 := ⟨rfl, by decide +kernel⟩
set_option maxRecDepth 40000 in
theorem xmk_16 : xmok 16 := ⟨rfl, by decide +kernel⟩
set_option maxRecDepth 40000 in
theorem xmk_17 : xmok 17 := ⟨rfl, by decide +kernel⟩
set_option maxRecDepth 40000 in
theorem xmk_18 : xmok 18 := ⟨rfl, by decide +kernel⟩
set_option maxRecDepth 40000 in
theorem xmk_19 : xmok 19 := ⟨rfl, by decide +kernel⟩
set_option maxRecDepth 40000 in
theorem xmk_20 : xmok 20 := ⟨rfl, by decide +kernel⟩
set_option maxRecDepth 40000 in
theorem xmk_21 : xmok 21 := ⟨rfl, by decide +kernel⟩
set_option maxRecDepth 40000 in
theorem xmk_22 : xmok 22 := ⟨rfl, by decide +kernel⟩
set_option maxRecDepth 40000 in
theorem xmk_23 : xmok 23 := ⟨rfl, by decide +kernel⟩
set_option maxRecDepth 40000 in
theorem xmk_24 : xmok 24 := ⟨rfl, by decide +kernel⟩
set_option maxRecDepth 40000 in
theorem xmk_25 : xmok 25 := ⟨rfl, by decide +kernel⟩
set_option maxRecDepth 40000 in
theorem xmk_26 : xmok 26 := ⟨rfl, by decide +kernel⟩
set_option maxRecDepth 40000 in
theorem xmk_27 : xmok 27 := ⟨rfl, by decide +kernel⟩
set_option maxRecDepth 40000 in
theorem xmk_28 : xmok 28 := ⟨rfl, by decide +kernel⟩
set_option maxRecDepth 40000 in
theorem xmk_29 : xmok 29 := ⟨rfl, by decide +kernel⟩
set_option maxRecDepth 40000 in
theorem xmk_30 : xmok 30 := ⟨rfl, by decide +kernel⟩
set_option maxRecDepth 40000 in
theorem xmk_31 : xmok 31 := ⟨rfl, by decide +kernel⟩
set_option maxRecDepth 40000 in
theorem xmk_32 : xmok 32 := ⟨rfl, by decide +kernel⟩
set_option maxRecDepth 40000 in
theorem xmk_33 : xmok 33 := ⟨rfl, by decide +kernel⟩
set_option maxRecDepth 40000 in
theorem xmk_34 : xmok 34 := ⟨rfl, by decide +kernel⟩
set_option maxRecDepth 40000 in
theorem xmk_35 : xmok 35 := ⟨rfl, by decide +kernel⟩
set_option maxRecDepth 40000 in
theorem xmk_36 : xmok 36 := ⟨rfl, by decide +kernel⟩
set_option maxRecDepth 40000 in
theorem xmk_37 : xmok 37 := ⟨rfl, by decide +kernel⟩
set_option maxRecDepth 40000 in
theorem xmk_38 : xmok 38 := ⟨rfl, by decide +kernel⟩
set_option maxRecDepth 40000 in
theorem xmk_39 : xmok 39 := ⟨rfl, by decide +kernel⟩
set_option maxRecDepth 40000 in
theorem xmk_40 : xmok 40 := ⟨rfl, by decide +kernel⟩
set_option maxRecDepth 40000 in
theorem xmk_41 : xmok 41 := ⟨rfl, by decide +kernel⟩
set_option maxRecDepth 40000 in
theorem xmk_42 : xmok 42 := ⟨rfl, by decide +kernel⟩
set_option maxRecDepth 40000 in
theorem xmk_43 : xmok 43 := ⟨rfl, by decide +kernel⟩
set_option maxRecDepth 40000 in
theorem xmk_44 : xmok 44 := ⟨rfl, by decide +kernel⟩
set_option maxRecDepth 40000 in
theorem xmk_45 : xmok 45 := ⟨rfl, by decide +kernel⟩
set_option maxRecDepth 40000 in
theorem xmk_46 : xmok 46 := ⟨rfl, by decide +kernel⟩
set_option maxRecDepth 40000 in
theorem xmk_47 : xmok 47 := ⟨rfl, by decide +kernel⟩
set_option maxRecDepth 40000 in
theorem xmk_48 : xmok 48 := ⟨rfl, by decide +kernel⟩
set_option maxRecDepth 40000 in
theorem xmk_49 : xmok 49 := ⟨rfl, by decide +kernel⟩
set_option maxRecDepth 40000 in
theorem xmk_50 : xmok 50 := ⟨rfl, by decide +kernel⟩
set_option maxRecDepth 40000 in
theorem xmk_51 : xmok 51 := ⟨rfl, by decide +kernel⟩
set_option maxRecDepth 40000 in
theorem xmk_52 : xmok 52 := ⟨rfl, by decide +kernel⟩
set_option maxRecDepth 40000 in
theorem xmk_53 : xmok 53 := ⟨rfl, by decide +kernel⟩
set_option maxRecDepth 40000 in
theorem xmk_54 : xmok 54 := ⟨rfl, by decide +kernel⟩
set_option maxRecDepth 40000 in
theorem xmk_55 : xmok 55 := ⟨rfl, by decide +kernel⟩
set_option maxRecDepth 40000 in
theorem xmk_56 : xmok 56 := ⟨rfl, by decide +kernel⟩
set_option maxRecDepth 40000 in
theorem xmk_57 : xmok 57 := ⟨rfl, by decide +kernel⟩
set_option maxRecDepth 40000 in
theorem xmk_58 : xmok 58 := ⟨rfl, by decide +kernel⟩
set_option maxRecDepth 40000 in
theorem xmk_59 : xmok 59 := ⟨rfl, by decide +kernel⟩
set_option maxRecDepth 40000 in
theorem xmk_60 : xmok 60 := ⟨rfl, by decide +kernel⟩
set_option maxRecDepth 40000 in
theorem xmk_61 : xmok 61 := ⟨rfl, by decide +kernel⟩
set_option maxRecDepth 40000 in
theorem xmk_62 : xmok 62 := ⟨rfl, by decide +kernel⟩
set_option maxRecDepth 40000 in
theorem xmk_63 : xmok 63 := ⟨rfl, by decide +kernel⟩
set_option maxRecDepth 40000 in
theorem xmk_64 : xmok 64 := ⟨rfl, by decide +kernel⟩
set_option maxRecDepth 40000 in
theorem xmk_65 : xmok 65 := ⟨rfl, by decide +kernel⟩
set_option maxRecDepth 40000 in
theorem xmk_66 : xmok 66 := ⟨rfl, by decide +kernel⟩
set_option maxRecDepth 40000 in
theorem xmk_67 : xmok 67 := ⟨rfl, by decide +kernel⟩
set_option maxRecDepth 40000 in
theorem xmk_68 : xmok 68 := ⟨rfl, by decide +kernel⟩
set_option maxRecDepth 40000 in
theorem xmk_69 : xmok 69 := ⟨rfl, by decide +kernel⟩
set_option maxRecDepth 40000 in
theorem xmk_70 : xmok 70 := ⟨rfl, by decide +kernel⟩
set_option maxRecDepth 40000 in
theorem xmk_71 : xmok 71 := ⟨rfl, by decide +kernel⟩
set_option maxRecDepth 40000 in
theorem xmk_72 : xmok 72 := ⟨rfl, by decide +kernel⟩
set_option maxRecDepth 40000 in
theorem xmk_73 : xmok 73 := ⟨rfl, by decide +kernel⟩
set_option maxRecDepth 40000 in
theorem xmk_74 : xmok 74 := ⟨rfl, by decide +kernel⟩
set_option maxRecDepth 40000 in
theorem xmk_75 : xmok 75 := ⟨rfl, by decide +kernel⟩
set_option maxRecDepth 40000 in
theorem xmk_76 : xmok 76 := ⟨rfl, by decide +kernel⟩
set_option maxRecDepth 40000 in
theorem xmk_77 : xmok 77 := ⟨rfl, by decide +kernel⟩
set_option maxRecDepth 40000 in
theorem xmk_78 : xmok 78 := ⟨rfl, by decide +kernel⟩
set_option maxRecDepth 40000 in
theorem xmk_79 : xmok 79 := ⟨rfl, by decide +kernel⟩
set_option maxRecDepth 40000 in
theorem xmk_80 : xmok 80 := ⟨rfl, by decide +kernel⟩
set_option maxRecDepth 40000 in
theorem xmk_81 : xmok 81 := ⟨rfl, by decide +kernel⟩
set_option maxRecDepth 40000 in
theorem xmk_82 : xmok 82 := ⟨rfl, by decide +kernel⟩
set_option maxRecDepth 40000 in
theorem xmk_83 : xmok 83 := ⟨rfl, by decide +kernel⟩
set_option maxRecDepth 40000 in
theorem xmk_84 : xmok 84 := ⟨rfl, by decide +kernel⟩
set_option maxRecDepth 40000 in
theorem xmk_85 : xmok 85 := ⟨rfl, by decide +kernel⟩
set_option maxRecDepth 40000 in
theorem xmk_86 : xmok 86 := ⟨rfl, by decide +kernel⟩
set_option maxRecDepth 40000 in
theorem xmk_87 : xmok 87 := ⟨rfl, by decide +kernel⟩
set_option maxRecDepth 40000 in
theorem xmk_88 : xmok 88 := ⟨rfl, by decide +kernel⟩
set_option maxRecDepth 40000 in
theorem xmk_89 : xmok 89 := ⟨rfl, by decide +kernel⟩
set_option maxRecDepth 40000 in
theorem xmk_90 : xmok 90 := ⟨rfl, by decide +kernel⟩
set_option maxRecDepth 40000 in
theorem xmk_91 : xmok 91 := ⟨rfl, by decide +kernel⟩
set_option maxRecDepth 40000 in
theorem xmk_92 : xmok 92 := ⟨rfl, by decide +kernel⟩
set_option maxRecDepth 40000 in
theorem xmk_93 : xmok 93 := ⟨rfl, by decide +kernel⟩
set_option maxRecDepth 40000 in
theorem xmk_94 : xmok 94 := ⟨rfl, by decide +kernel⟩
set_option maxRecDepth 40000 in
theorem xmk_95 : xmok 95 := ⟨rfl, by decide +kernel⟩
set_option maxRecDepth 40000 in
theorem xmk_96 : xmok 96 := ⟨rfl, by decide +kernel⟩
set_option maxRecDepth 40000 in
theorem xmk_97 : xmok 97 := ⟨rfl, by decide +kernel⟩
set_option maxRecDepth 40000 in
theorem xmk_98 : xmok 98 := ⟨rfl, by decide +kernel⟩
set_option maxRecDepth 40000 in
theorem xmk_99 : xmok 99 := ⟨rfl, by decide +kernel⟩
set_option maxRecDepth 40000 in
theorem xmk_100 : xmok 100 := ⟨rfl, by decide +kernel⟩
set_option maxRecDepth 40000 in
theorem xmk_101 : xmok 101 := ⟨rfl, by decide +kernel⟩
set_option maxRecDepth 40000 in
theorem xmk_102 : xmok 102 := ⟨rfl, by decide +kernel⟩
set_option maxRecDepth 40000 in
theorem xmk_103 : xmok 103 := ⟨rfl, by decide +kernel⟩
set_option maxRecDepth 40000 in
theorem xmk_104 : xmok 104 := ⟨rfl, by decide +kernel⟩
set_option maxRecDepth 40000 in
theorem xmk_105 : xmok 105 := ⟨rfl, by decide +kernel⟩
set_option maxRecDepth 40000 in
theorem xmk_106 : xmok 106 := ⟨rfl, by decide +kernel⟩
set_option maxRecDepth 40000 in
theorem xmk_107 : xmok 107 := ⟨rfl, by decide +kernel⟩
set_option maxRecDepth 40000 in
theorem xmk_108 : xmok 108 := ⟨rfl, by decide +kernel⟩
set_option maxRecDepth 40000 in
theorem xmk_109 : xmok 109 := ⟨rfl, by decide +kernel⟩
set_option maxRecDepth 40000 in
theorem xmk_110 : xmok 110 := ⟨rfl, by decide +kernel⟩
set_option maxRecDepth 40000 in
theorem xmk_111 : xmok 111 := ⟨rfl, by decide +kernel⟩
set_option maxRecDepth 40000 in
theorem xmk_112 : xmok 112 := ⟨rfl, by decide +kernel⟩
set_option maxRecDepth 40000 in
theorem xmk_113 : xmok 113 := ⟨rfl, by decide +kernel⟩
set_option maxRecDepth 40000 in
theorem xmk_114 : xmok 114 := ⟨rfl, by decide +kernel⟩
set_option maxRecDepth 40000 in
theorem xmk_115 : xmok 115 := ⟨rfl, by decide +kernel⟩
set_option maxRecDepth 40000 in
theorem xmk_116 : xmok 116 := ⟨rfl, by decide +kernel⟩
set_option maxRecDepth 40000 in
theorem xmk_117 : xmok 117 := ⟨rfl, by decide +kernel⟩
set_option maxRecDepth 40000 in
theorem xmk_118 : xmok 118 := ⟨rfl, by decide +kernel⟩
set_option maxRecDepth 40000 in
theorem xmk_119 : xmok 119 := ⟨rfl, by decide +kernel⟩
set_option maxRecDepth 40000 in
theorem xmk_120 : xmok 120 := ⟨rfl, by decide +kernel⟩
set_option maxRecDepth 40000 in
theorem xmk_121 : xmok 121 := ⟨rfl, by decide +kernel⟩
set_option maxRecDepth 40000 in
theorem xmk_122 : xmok 122 := ⟨rfl, by decide +kernel⟩
set_option maxRecDepth 40000 in
theorem xmk_123 : xmok 123 := ⟨rfl, by decide +kernel⟩
set_option maxRecDepth 40000 in
theorem xmk_124 : xmok 124 := ⟨rfl, by decide +kernel⟩
set_option maxRecDepth 40000 in
theorem xmk_125 : xmok 125 := ⟨rfl, by decide +kernel⟩
set_option maxRecDepth 40000 in
theorem xmk_126 : xmok 126 := ⟨rfl, by decide +kernel⟩
set_option maxRecDepth 40000 in
theorem xmk_127 : xmok 127 := ⟨rfl, by decide +kernel⟩
set_option maxRecDepth 40000 in
theorem xmk_128 : xmok 128 := ⟨rfl, by decide +kernel⟩
set_option maxRecDepth 40000 in
theorem xmk_129 : xmok 129 := ⟨rfl, by decide +kernel⟩
set_option maxRecDepth 40000 in
theorem xmk_130 : xmok 130 := ⟨rfl, by decide +kernel⟩
set_option maxRecDepth 40000 in
theorem xmk_131 : xmok 131 := ⟨rfl, by decide +kernel⟩
set_option maxRecDepth 40000 in
theorem xmk_132 : xmok 132 := ⟨rfl, by decide +kernel⟩
set_option maxRecDepth 40000 in
theorem xmk_133 : xmok 133 := ⟨rfl, by decide +kernel⟩
set_option maxRecDepth 40000 in
theorem xmk_134 : xmok 134 := ⟨rfl, by decide +kernel⟩
set_option maxRecDepth 40000 in
theorem xmk_135 : xmok 135 := ⟨rfl, by decide +kernel⟩
set_option maxRecDepth 40000 in
theorem xmk_136 : xmok 136 := ⟨rfl, by decide +kernel⟩
set_option maxRecDepth 40000 in
theorem xmk_137 : xmok 137 := ⟨rfl, by decide +kernel⟩
set_option maxRecDepth 40000 in
theorem xmk_138 : xmok 138 := ⟨rfl, by decide +kernel⟩
set_option maxRecDepth 40000 in
theorem xmk_139 : xmok 139 := ⟨rfl, by decide +kernel⟩
set_option maxRecDepth 40000 in
theorem xmk_140 : xmok 140 := ⟨rfl, by decide +kernel⟩
set_option maxRecDepth 40000 in
theorem xmk_141 : xmok 141 := ⟨rfl, by decide +kernel⟩
set_option maxRecDepth 40000 in
theorem xmk_142 : xmok 142 := ⟨rfl, by decide +kernel⟩
set_option maxRecDepth 40000 in
theorem xmk_143 : xmok 143 := ⟨rfl, by decide +kernel⟩
set_option maxRecDepth 40000 in
theorem xmk_144 : xmok 144 := ⟨rfl, by decide +kernel⟩
set_option maxRecDepth 40000 in
theorem xmk_145 : xmok 145 := ⟨rfl, by decide +kernel⟩
set_option maxRecDepth 40000 in
theorem xmk_146 : xmok 146 := ⟨rfl, by decide +kernel⟩
set_option maxRecDepth 40000 in
theorem xmk_147 : xmok 147 := ⟨rfl, by decide +kernel⟩
set_option maxRecDepth 40000 in
theorem xmk_148 : xmok 148 := ⟨rfl, by decide +kernel⟩
set_option maxRecDepth 40000 in
theorem xmk_149 : xmok 149 := ⟨rfl, by decide +kernel⟩
set_option maxRecDepth 40000 in
theorem xmk_150 : xmok 150 := ⟨rfl, by decide +kernel⟩
set_option maxRecDepth 40000 in
theorem xmk_151 : xmok 151 := ⟨rfl, by decide +kernel⟩
set_option maxRecDepth 40000 in
theorem xmk_152 : xmok 152 := ⟨rfl, by decide +kernel⟩
set_option maxRecDepth 40000 in
theorem xmk_153 : xmok 153 := ⟨rfl, by decide +kernel⟩
set_option maxRecDepth 40000 in
theorem xmk_154 : xmok 154 := ⟨rfl, by decide +kernel⟩
set_option maxRecDepth 40000 in
theorem xmk_155 : xmok 155 := ⟨rfl, by decide +kernel⟩
set_option maxRecDepth 40000 in
theorem xmk_156 : xmok 156 := ⟨rfl, by decide +kernel⟩
set_option maxRecDepth 40000 in
theorem xmk_157 : xmok 157 := ⟨rfl, by decide +kernel⟩
set_option maxRecDepth 40000 in
theorem xmk_158 : xmok 158 := ⟨rfl, by decide +kernel⟩
set_option maxRecDepth 40000 in
theorem xmk_159 : xmok 159 := ⟨rfl, by decide +kernel⟩
set_option maxRecDepth 40000 in
theorem xmk_160 : xmok 160 := ⟨rfl, by decide +kernel⟩
set_option maxRecDepth 40000 in
theorem xmk_161 : xmok 161 := ⟨rfl, by decide +kernel⟩
set_option maxRecDepth 40000 in
theorem xmk_162 : xmok 162 := ⟨rfl, by decide +kernel⟩
set_option maxRecDepth 40000 in
theorem xmk_163 : xmok 163 := ⟨rfl, by decide +kernel⟩
set_option maxRecDepth 40000 in
theorem xmk_164 : xmok 164 := ⟨rfl, by decide +kernel⟩
set_option maxRecDepth 40000 in
theorem xmk_165 : xmok 165 := ⟨rfl, by decide +kernel⟩
set_option maxRecDepth 40000 in
theorem xmk_166 : xmok 166 := ⟨rfl, by decide +kernel⟩
set_option maxRecDepth 40000 in
theorem xmk_167 : xmok 167 := ⟨rfl, by decide +kernel⟩
set_option maxRecDepth 40000 in
theorem xmk_168 : xmok 168 := ⟨rfl, by decide +kernel⟩
set_option maxRecDepth 40000 in
theorem xmk_169 : xmok 169 := ⟨rfl, by decide +kernel⟩
set_option maxRecDepth 40000 in
theorem xmk_170 : xmok 170 := ⟨rfl, by decide +kernel⟩
set_option maxRecDepth 40000 in
theorem xmk_171 : xmok 171 := ⟨rfl, by decide +kernel⟩
set_option maxRecDepth 40000 in
theorem xmk_172 : xmok 172 := ⟨rfl, by decide +kernel⟩
set_option maxRecDepth 40000 in
theorem xmk_173 : xmok 173 := ⟨rfl, by decide +kernel⟩
set_option maxRecDepth 40000 in
theorem xmk_174 : xmok 174 := ⟨rfl, by decide +kernel⟩
set_option maxRecDepth 40000 in
theorem xmk_175 : xmok 175 := ⟨rfl, by decide +kernel⟩
set_option maxRecDepth 40000 in
theorem xmk_176 : xmok 176 := ⟨rfl, by decide +kernel⟩
set_option maxRecDepth 40000 in
theorem xmk_177 : xmok 177 := ⟨rfl, by decide +kernel⟩
set_option maxRecDepth 40000 in
theorem xmk_178 : xmok 178 := ⟨rfl, by decide +kernel⟩
set_option maxRecDepth 40000 in
theorem xmk_179 : xmok 179 := ⟨rfl, by decide +kernel⟩
set_option maxRecDepth 40000 in
theorem xmk_180 : xmok 180 := ⟨rfl, by decide +kernel⟩
set_option maxRecDepth 40000 in
theorem xmk_181 : xmok 181 := ⟨rfl, by decide +kernel⟩
set_option maxRecDepth 40000 in
theorem xmk_182 : xmok 182 := ⟨rfl, by decide +kernel⟩
set_option maxRecDepth 40000 in
theorem xmk_183 : xmok 183 := ⟨rfl, by decide +kernel⟩
set_option maxRecDepth 40000 in
theorem xmk_184 : xmok 184 := ⟨rfl, by decide +kernel⟩
set_option maxRecDepth 40000 in
theorem xmk_185 : xmok 185 := ⟨rfl, by decide +kernel⟩
set_option maxRecDepth 40000 in
theorem xmk_186 : xmok 186 := ⟨rfl, by decide +kernel⟩
set_option maxRecDepth 40000 in
theorem xmk_187 : xmok 187 := ⟨rfl, by decide +kernel⟩
set_option maxRecDepth 40000 in
theorem xmk_188 : xmok 188 := ⟨rfl, by decide +kernel⟩
set_option maxRecDepth 40000 in
theorem xmk_189 : xmok 189 := ⟨rfl, by decide +kernel⟩
set_option maxRecDepth 40000 in
theorem xmk_190 : xmok 190 := ⟨rfl, by decide +kernel⟩
set_option maxRecDepth 40000 in
theorem xmk_191 : xmok 191 := ⟨rfl, by decide +kernel⟩
set_option maxRecDepth 40000 in
theorem xmk_192 : xmok 192 := ⟨rfl, by decide +kernel⟩
set_option maxRecDepth 40000 in
theorem xmk_193 : xmok 193 := ⟨rfl, by decide +kernel⟩
set_option maxRecDepth 40000 in
theorem xmk_194 : xmok 194 := ⟨rfl, by decide +kernel⟩
set_option maxRecDepth 40000 in
theorem xmk_195 : xmok 195 := ⟨rfl, by decide +kernel⟩
set_option maxRecDepth 40000 in
theorem xmk_196 : xmok 196 := ⟨rfl, by decide +kernel⟩
set_option maxRecDepth 40000 in
theorem xmk_197 : xmok 197 := ⟨rfl, by decide +kernel⟩
set_option maxRecDepth 40000 in
theorem xmk_198 : xmok 198 := ⟨rfl, by decide +kernel⟩
set_option maxRecDepth 40000 in
theorem xmk_199 : xmok 199 := ⟨rfl, by decide +kernel⟩
set_option maxRecDepth 40000 in
theorem xmk_200 : xmok 200 := ⟨rfl, by decide +kernel⟩
theorem xmok_all {mi : Nat} (h : mi < 201) : xmok mi := by
  rcases Nat.lt_or_ge mi 100 with h1 | h1
  · rcases Nat.lt_or_ge mi 50 with h2 | h2
    · rcases Nat.lt_or_ge mi 25 with h3 | h3
      · rcases Nat.lt_or_ge mi 12 with h4 | h4
        · rcases Nat.lt_or_ge mi 6 with h5 | h5
          · rcases Nat.lt_or_ge mi 3 with h6 | h6
            · rcases Nat.lt_or_ge mi 1 with h7 | h7
              · obtain rfl : mi = 0 := by omega
                exact xmk_0
              · rcases Nat.lt_or_ge mi 2 with h8 | h8
                · obtain rfl : mi = 1 := by omega
                  exact xmk_1
                · obtain rfl : mi = 2 := by omega
                  exact xmk_2
            · rcases Nat.lt_or_ge mi 4 with h7 | h7
              · obtain rfl : mi = 3 := by omega
                exact xmk_3
              · rcases Nat.lt_or_ge mi 5 with h8 | h8
                · obtain rfl : mi = 4 := by omega
                  exact xmk_4
                · obtain rfl : mi = 5 := by omega
                  exact xmk_5
          · rcases Nat.lt_or_ge mi 9 with h6 | h6
            · rcases Nat.lt_or_ge mi 7 with h7 | h7
              · obtain rfl : mi = 6 := by omega
                exact xmk_6
              · rcases Nat.lt_or_ge mi 8 with h8 | h8
                · obtain rfl : mi = 7 := by omega
                  exact xmk_7
                · obtain rfl : mi = 8 := by omega
                  exact xmk_8
            · rcases Nat.lt_or_ge mi 10 with h7 | h7
              · obtain rfl : mi = 9 := by omega
                exact xmk_9
              · rcases Nat.lt_or_ge mi 11 with h8 | h8
                · obtain rfl : mi = 10 := by omega
                  exact xmk_10
                · obtain rfl : mi = 11 := by omega
                  exact xmk_11
        · rcases Nat.lt_or_ge mi 18 with h5 | h5
          · rcases Nat.lt_or_ge mi 15 with h6 | h6
            · rcases Nat.lt_or_ge mi 13 with h7 | h7
              · obtain rfl : mi = 12 := by omega
                exact xmk_12
              · rcases Nat.lt_or_ge mi 14 with h8 | h8
                · obtain rfl : mi = 13 := by omega
                  exact xmk_13
                · obtain rfl : mi = 14 := by omega
                  exact xmk_14
            · rcases Nat.lt_or_ge mi 16 with h7 | h7
              · obtain rfl : mi = 15 := by omega
                exact xmk_15
              · rcases Nat.lt_or_ge mi 17 with h8 | h8
                · obtain rfl : mi = 16 := by omega
                  exact xmk_16
                · obtain rfl : mi = 17 := by omega
                  exact xmk_17
          · rcases Nat.lt_or_ge mi 21 with h6 | h6
            · rcases Nat.lt_or_ge mi 19 with h7 | h7
              · obtain rfl : mi = 18 := by omega
                exact xmk_18
              · rcases Nat.lt_or_ge mi 20 with h8 | h8
                · obtain rfl : mi = 19 := by omega
                  exact xmk_19
                · obtain rfl : mi = 20 := by omega
                  exact xmk_20
            · rcases Nat.lt_or_ge mi 23 with h7 | h7
              · rcases Nat.lt_or_ge mi 22 with h8 | h8
                · obtain rfl : mi = 21 := by omega
                  exact xmk_21
                · obtain rfl : mi = 22 := by omega
                  exact xmk_22
              · rcases Nat.lt_or_ge mi 24 with h8 | h8
                · obtain rfl : mi = 23 := by omega
                  exact xmk_23
                · obtain rfl : mi = 24 := by omega
                  exact xmk_24
      · rcases Nat.lt_or_ge mi 37 with h4 | h4
        · rcases Nat.lt_or_ge mi 31 with h5 | h5
          · rcases Nat.lt_or_ge mi 28 with h6 | h6
            · rcases Nat.lt_or_ge mi 26 with h7 | h7
              · obtain rfl : mi = 25 := by omega
                exact xmk_25
              · rcases Nat.lt_or_ge mi 27 with h8 | h8
                · obtain rfl : mi = 26 := by omega
                  exact xmk_26
                · obtain rfl : mi = 27 := by omega
                  exact xmk_27
            · rcases Nat.lt_or_ge mi 29 with h7 | h7
              · obtain rfl : mi = 28 := by omega
                exact xmk_28
              · rcases Nat.lt_or_ge mi 30 with h8 | h8
                · obtain rfl : mi = 29 := by omega
                  exact xmk_29
                · obtain rfl : mi = 30 := by omega
                  exact xmk_30
          · rcases Nat.lt_or_ge mi 34 with h6 | h6
            · rcases Nat.lt_or_ge mi 32 with h7 | h7
              · obtain rfl : mi = 31 := by omega
                exact xmk_31
              · rcases Nat.lt_or_ge mi 33 with h8 | h8
                · obtain rfl : mi = 32 := by omega
                  exact xmk_32
                · obtain rfl : mi = 33 := by omega
                  exact xmk_33
            · rcases Nat.lt_or_ge mi 35 with h7 | h7
              · obtain rfl : mi = 34 := by omega
                exact xmk_34
              · rcases Nat.lt_or_ge mi 36 with h8 | h8
                · obtain rfl : mi = 35 := by omega
                  exact xmk_35
                · obtain rfl : mi = 36 := by omega
                  exact xmk_36
        · rcases Nat.lt_or_ge mi 43 with h5 | h5
          · rcases Nat.lt_or_ge mi 40 with h6 | h6
            · rcases Nat.lt_or_ge mi 38 with h7 | h7
              · obtain rfl : mi = 37 := by omega
                exact xmk_37
              · rcases Nat.lt_or_ge mi 39 with h8 | h8
                · obtain rfl : mi = 38 := by omega
                  exact xmk_38
                · obtain rfl : mi = 39 := by omega
                  exact xmk_39
            · rcases Nat.lt_or_ge mi 41 with h7 | h7
              · obtain rfl : mi = 40 := by omega
                exact xmk_40
              · rcases Nat.lt_or_ge mi 42 with h8 | h8
                · obtain rfl : mi = 41 := by omega
                  exact xmk_41
                · obtain rfl : mi = 42 := by omega
                  exact xmk_42
          · rcases Nat.lt_or_ge mi 46 with h6 | h6
            · rcases Nat.lt_or_ge mi 44 with h7 | h7
              · obtain rfl : mi = 43 := by omega
                exact xmk_43
              · rcases Nat.lt_or_ge mi 45 with h8 | h8
                · obtain rfl : mi = 44 := by omega
                  exact xmk_44
                · obtain rfl : mi = 45 := by omega
                  exact xmk_45
            · rcases Nat.lt_or_ge mi 48 with h7 | h7
              · rcases Nat.lt_or_ge mi 47 with h8 | h8
                · obtain rfl : mi = 46 := by omega
                  exact xmk_46
                · obtain rfl : mi = 47 := by omega
                  exact xmk_47
              · rcases Nat.lt_or_ge mi 49 with h8 | h8
                · obtain rfl : mi = 48 := by omega
                  exact xmk_48
                · obtain rfl : mi = 49 := by omega
                  exact xmk_49
    · rcases Nat.lt_or_ge mi 75 with h3 | h3
      · rcases Nat.lt_or_ge mi 62 with h4 | h4
        · rcases Nat.lt_or_ge mi 56 with h5 | h5
          · rcases Nat.lt_or_ge mi 53 with h6 | h6
            · rcases Nat.lt_or_ge mi 51 with h7 | h7
              · obtain rfl : mi = 50 := by omega
                exact xmk_50
              · rcases Nat.lt_or_ge mi 52 with h8 | h8
                · obtain rfl : mi = 51 := by omega
                  exact xmk_51
                · obtain rfl : mi = 52 := by omega
                  exact xmk_52
            · rcases Nat.lt_or_ge mi 54 with h7 | h7
              · obtain rfl : mi = 53 := by omega
                exact xmk_53
              · rcases Nat.lt_or_ge mi 55 with h8 | h8
                · obtain rfl : mi = 54 := by omega
                  exact xmk_54
                · obtain rfl : mi = 55 := by omega
                  exact xmk_55
          · rcases Nat.lt_or_ge mi 59 with h6 | h6
            · rcases Nat.lt_or_ge mi 57 with h7 | h7
              · obtain rfl : mi = 56 := by omega
                exact xmk_56
              · rcases Nat.lt_or_ge mi 58 with h8 | h8
                · obtain rfl : mi = 57 := by omega
                  exact xmk_57
                · obtain rfl : mi = 58 := by omega
                  exact xmk_58
            · rcases Nat.lt_or_ge mi 60 with h7 | h7
              · obtain rfl : mi = 59 := by omega
                exact xmk_59
              · rcases Nat.lt_or_ge mi 61 with h8 | h8
                · obtain rfl : mi = 60 := by omega
                  exact xmk_60
                · obtain rfl : mi = 61 := by omega
                  exact xmk_61
        · rcases Nat.lt_or_ge mi 68 with h5 | h5
          · rcases Nat.lt_or_ge mi 65 with h6 | h6
            · rcases Nat.lt_or_ge mi 63 with h7 | h7
              · obtain rfl : mi = 62 := by omega
                exact xmk_62
              · rcases Nat.lt_or_ge mi 64 with h8 | h8
                · obtain rfl : mi = 63 := by omega
                  exact xmk_63
                · obtain rfl : mi = 64 := by omega
                  exact xmk_64
            · rcases Nat.lt_or_ge mi 66 with h7 | h7
              · obtain rfl : mi = 65 := by omega
                exact xmk_65
              · rcases Nat.lt_or_ge mi 67 with h8 | h8
                · obtain rfl : mi = 66 := by omega
                  exact xmk_66
                · obtain rfl : mi = 67 := by omega
                  exact xmk_67
          · rcases Nat.lt_or_ge mi 71 with h6 | h6
            · rcases Nat.lt_or_ge mi 69 with h7 | h7
              · obtain rfl : mi = 68 := by omega
                exact xmk_68
              · rcases Nat.lt_or_ge mi 70 with h8 | h8
                · obtain rfl : mi = 69 := by omega
                  exact xmk_69
                · obtain rfl : mi = 70 := by omega
                  exact xmk_70
            · rcases Nat.lt_or_ge mi 73 with h7 | h7
              · rcases Nat.lt_or_ge mi 72 with h8 | h8
                · obtain rfl : mi = 71 := by omega
                  exact xmk_71
                · obtain rfl : mi = 72 := by omega
                  exact xmk_72
              · rcases Nat.lt_or_ge mi 74 with h8 | h8
                · obtain rfl : mi = 73 := by omega
                  exact xmk_73
                · obtain rfl : mi = 74 := by omega
                  exact xmk_74
      · rcases Nat.lt_or_ge mi 87 with h4 | h4
        · rcases Nat.lt_or_ge mi 81 with h5 | h5
          · rcases Nat.lt_or_ge mi 78 with h6 | h6
            · rcases Nat.lt_or_ge mi 76 with h7 | h7
              · obtain rfl : mi = 75 := by omega
                exact xmk_75
              · rcases Nat.lt_or_ge mi 77 with h8 | h8
                · obtain rfl : mi = 76 := by omega
                  exact xmk_76
                · obtain rfl : mi = 77 := by omega
                  exact xmk_77
            · rcases Nat.lt_or_ge mi 79 with h7 | h7
              · obtain rfl : mi = 78 := by omega
                exact xmk_78
              · rcases Nat.lt_or_ge mi 80 with h8 | h8
                · obtain rfl : mi = 79 := by omega
                  exact xmk_79
                · obtain rfl : mi = 80 := by omega
                  exact xmk_80
          · rcases Nat.lt_or_ge mi 84 with h6 | h6
            · rcases Nat.lt_or_ge mi 82 with h7 | h7
              · obtain rfl : mi = 81 := by omega
                exact xmk_81
              · rcases Nat.lt_or_ge mi 83 with h8 | h8
                · obtain rfl : mi = 82 := by omega
                  exact xmk_82
                · obtain rfl : mi = 83 := by omega
                  exact xmk_83
            · rcases Nat.lt_or_ge mi 85 with h7 | h7
              · obtain rfl : mi = 84 := by omega
                exact xmk_84
              · rcases Nat.lt_or_ge mi 86 with h8 | h8
                · obtain rfl : mi = 85 := by omega
                  exact xmk_85
                · obtain rfl : mi = 86 := by omega
                  exact xmk_86
        · rcases Nat.lt_or_ge mi 93 with h5 | h5
          · rcases Nat.lt_or_ge mi 90 with h6 | h6
            · rcases Nat.lt_or_ge mi 88 with h7 | h7
              · obtain rfl : mi = 87 := by omega
                exact xmk_87
              · rcases Nat.lt_or_ge mi 89 with h8 | h8
                · obtain rfl : mi = 88 := by omega
                  exact xmk_88
                · obtain rfl : mi = 89 := by omega
                  exact xmk_89
            · rcases Nat.lt_or_ge mi 91 with h7 | h7
              · obtain rfl : mi = 90 := by omega
                exact xmk_90
              · rcases Nat.lt_or_ge mi 92 with h8 | h8
                · obtain rfl : mi = 91 := by omega
                  exact xmk_91
                · obtain rfl : mi = 92 := by omega
                  exact xmk_92
          · rcases Nat.lt_or_ge mi 96 with h6 | h6
            · rcases Nat.lt_or_ge mi 94 with h7 | h7
              · obtain rfl : mi = 93 := by omega
                exact xmk_93
              · rcases Nat.lt_or_ge mi 95 with h8 | h8
                · obtain rfl : mi = 94 := by omega
                  exact xmk_94
                · obtain rfl : mi = 95 := by omega
                  exact xmk_95
            · rcases Nat.lt_or_ge mi 98 with h7 | h7
              · rcases Nat.lt_or_ge mi 97 with h8 | h8
                · obtain rfl : mi = 96 := by omega
                  exact xmk_96
                · obtain rfl : mi = 97 := by omega
                  exact xmk_97
              · rcases Nat.lt_or_ge mi 99 with h8 | h8
                · obtain rfl : mi = 98 := by omega
                  exact xmk_98
                · obtain rfl : mi = 99 := by omega
                  exact xmk_99
  · rcases Nat.lt_or_ge mi 150 with h2 | h2
    · rcases Nat.lt_or_ge mi 125 with h3 | h3
      · rcases Nat.lt_or_ge mi 112 with h4 | h4
        · rcases Nat.lt_or_ge mi 106 with h5 | h5
          · rcases Nat.lt_or_ge mi 103 with h6 | h6
            · rcases Nat.lt_or_ge mi 101 with h7 | h7
              · obtain rfl : mi = 100 := by omega
                exact xmk_100
              · rcases Nat.lt_or_ge mi 102 with h8 | h8
                · obtain rfl : mi = 101 := by omega
                  exact xmk_101
                · obtain rfl : mi = 102 := by omega
                  exact xmk_102
            · rcases Nat.lt_or_ge mi 104 with h7 | h7
              · obtain rfl : mi = 103 := by omega
                exact xmk_103
              · rcases Nat.lt_or_ge mi 105 with h8 | h8
                · obtain rfl : mi = 104 := by omega
                  exact xmk_104
                · obtain rfl : mi = 105 := by omega
                  exact xmk_105
          · rcases Nat.lt_or_ge mi 109 with h6 | h6
            · rcases Nat.lt_or_ge mi 107 with h7 | h7
              · obtain rfl : mi = 106 := by omega
                exact xmk_106
              · rcases Nat.lt_or_ge mi 108 with h8 | h8
                · obtain rfl : mi = 107 := by omega
                  exact xmk_107
                · obtain rfl : mi = 108 := by omega
                  exact xmk_108
            · rcases Nat.lt_or_ge mi 110 with h7 | h7
              · obtain rfl : mi = 109 := by omega
                exact xmk_109
              · rcases Nat.lt_or_ge mi 111 with h8 | h8
                · obtain rfl : mi = 110 := by omega
                  exact xmk_110
                · obtain rfl : mi = 111 := by omega
                  exact xmk_111
        · rcases Nat.lt_or_ge mi 118 with h5 | h5
          · rcases Nat.lt_or_ge mi 115 with h6 | h6
            · rcases Nat.lt_or_ge mi 113 with h7 | h7
              · obtain rfl : mi = 112 := by omega
                exact xmk_112
              · rcases Nat.lt_or_ge mi 114 with h8 | h8
                · obtain rfl : mi = 113 := by omega
                  exact xmk_113
                · obtain rfl : mi = 114 := by omega
                  exact xmk_114
            · rcases Nat.lt_or_ge mi 116 with h7 | h7
              · obtain rfl : mi = 115 := by omega
                exact xmk_115
              · rcases Nat.lt_or_ge mi 117 with h8 | h8
                · obtain rfl : mi = 116 := by omega
                  exact xmk_116
                · obtain rfl : mi = 117 := by omega
                  exact xmk_117
          · rcases Nat.lt_or_ge mi 121 with h6 | h6
            · rcases Nat.lt_or_ge mi 119 with h7 | h7
              · obtain rfl : mi = 118 := by omega
                exact xmk_118
              · rcases Nat.lt_or_ge mi 120 with h8 | h8
                · obtain rfl : mi = 119 := by omega
                  exact xmk_119
                · obtain rfl : mi = 120 := by omega
                  exact xmk_120
            · rcases Nat.lt_or_ge mi 123 with h7 | h7
              · rcases Nat.lt_or_ge mi 122 with h8 | h8
                · obtain rfl : mi = 121 := by omega
                  exact xmk_121
                · obtain rfl : mi = 122 := by omega
                  exact xmk_122
              · rcases Nat.lt_or_ge mi 124 with h8 | h8
                · obtain rfl : mi = 123 := by omega
                  exact xmk_123
                · obtain rfl : mi = 124 := by omega
                  exact xmk_124
      · rcases Nat.lt_or_ge mi 137 with h4 | h4
        · rcases Nat.lt_or_ge mi 131 with h5 | h5
          · rcases Nat.lt_or_ge mi 128 with h6 | h6
            · rcases Nat.lt_or_ge mi 126 with h7 | h7
              · obtain rfl : mi = 125 := by omega
                exact xmk_125
              · rcases Nat.lt_or_ge mi 127 with h8 | h8
                · obtain rfl : mi = 126 := by omega
                  exact xmk_126
                · obtain rfl : mi = 127 := by omega
                  exact xmk_127
            · rcases Nat.lt_or_ge mi 129 with h7 | h7
              · obtain rfl : mi = 128 := by omega
                exact xmk_128
              · rcases Nat.lt_or_ge mi 130 with h8 | h8
                · obtain rfl : mi = 129 := by omega
                  exact xmk_129
                · obtain rfl : mi = 130 := by omega
                  exact xmk_130
          · rcases Nat.lt_or_ge mi 134 with h6 | h6
            · rcases Nat.lt_or_ge mi 132 with h7 | h7
              · obtain rfl : mi = 131 := by omega
                exact xmk_131
              · rcases Nat.lt_or_ge mi 133 with h8 | h8
                · obtain rfl : mi = 132 := by omega
                  exact xmk_132
                · obtain rfl : mi = 133 := by omega
                  exact xmk_133
            · rcases Nat.lt_or_ge mi 135 with h7 | h7
              · obtain rfl : mi = 134 := by omega
                exact xmk_134
              · rcases Nat.lt_or_ge mi 136 with h8 | h8
                · obtain rfl : mi = 135 := by omega
                  exact xmk_135
                · obtain rfl : mi = 136 := by omega
                  exact xmk_136
        · rcases Nat.lt_or_ge mi 143 with h5 | h5
          · rcases Nat.lt_or_ge mi 140 with h6 | h6
            · rcases Nat.lt_or_ge mi 138 with h7 | h7
              · obtain rfl : mi = 137 := by omega
                exact xmk_137
              · rcases Nat.lt_or_ge mi 139 with h8 | h8
                · obtain rfl : mi = 138 := by omega
                  exact xmk_138
                · obtain rfl : mi = 139 := by omega
                  exact xmk_139
            · rcases Nat.lt_or_ge mi 141 with h7 | h7
              · obtain rfl : mi = 140 := by omega
                exact xmk_140
              · rcases Nat.lt_or_ge mi 142 with h8 | h8
                · obtain rfl : mi = 141 := by omega
                  exact xmk_141
                · obtain rfl : mi = 142 := by omega
                  exact xmk_142
          · rcases Nat.lt_or_ge mi 146 with h6 | h6
            · rcases Nat.lt_or_ge mi 144 with h7 | h7
              · obtain rfl : mi = 143 := by omega
                exact xmk_143
              · rcases Nat.lt_or_ge mi 145 with h8 | h8
                · obtain rfl : mi = 144 := by omega
                  exact xmk_144
                · obtain rfl : mi = 145 := by omega
                  exact xmk_145
            · rcases Nat.lt_or_ge mi 148 with h7 | h7
              · rcases Nat.lt_or_ge mi 147 with h8 | h8
                · obtain rfl : mi = 146 := by omega
                  exact xmk_146
                · obtain rfl : mi = 147 := by omega
                  exact xmk_147
              · rcases Nat.lt_or_ge mi 149 with h8 | h8
                · obtain rfl : mi = 148 := by omega
                  exact xmk_148
                · obtain rfl : mi = 149 := by omega
                  exact xmk_149
    · rcases Nat.lt_or_ge mi 175 with h3 | h3
      · rcases Nat.lt_or_ge mi 162 with h4 | h4
        · rcases Nat.lt_or_ge mi 156 with h5 | h5
          · rcases Nat.lt_or_ge mi 153 with h6 | h6
            · rcases Nat.lt_or_ge mi 151 with h7 | h7
              · obtain rfl : mi = 150 := by omega
                exact xmk_150
              · rcases Nat.lt_or_ge mi 152 with h8 | h8
                · obtain rfl : mi = 151 := by omega
                  exact xmk_151
                · obtain rfl : mi = 152 := by omega
                  exact xmk_152
            · rcases Nat.lt_or_ge mi 154 with h7 | h7
              · obtain rfl : mi = 153 := by omega
                exact xmk_153
              · rcases Nat.lt_or_ge mi 155 with h8 | h8
                · obtain rfl : mi = 154 := by omega
                  exact xmk_154
                · obtain rfl : mi = 155 := by omega
                  exact xmk_155
          · rcases Nat.lt_or_ge mi 159 with h6 | h6
            · rcases Nat.lt_or_ge mi 157 with h7 | h7
              · obtain rfl : mi = 156 := by omega
                exact xmk_156
              · rcases Nat.lt_or_ge mi 158 with h8 | h8
                · obtain rfl : mi = 157 := by omega
                  exact xmk_157
                · obtain rfl : mi = 158 := by omega
                  exact xmk_158
            · rcases Nat.lt_or_ge mi 160 with h7 | h7
              · obtain rfl : mi = 159 := by omega
                exact xmk_159
              · rcases Nat.lt_or_ge mi 161 with h8 | h8
                · obtain rfl : mi = 160 := by omega
                  exact xmk_160
                · obtain rfl : mi = 161 := by omega
                  exact xmk_161
        · rcases Nat.lt_or_ge mi 168 with h5 | h5
          · rcases Nat.lt_or_ge mi 165 with h6 | h6
            · rcases Nat.lt_or_ge mi 163 with h7 | h7
              · obtain rfl : mi = 162 := by omega
                exact xmk_162
              · rcases Nat.lt_or_ge mi 164 with h8 | h8
                · obtain rfl : mi = 163 := by omega
                  exact xmk_163
                · obtain rfl : mi = 164 := by omega
                  exact xmk_164
            · rcases Nat.lt_or_ge mi 166 with h7 | h7
              · obtain rfl : mi = 165 := by omega
                exact xmk_165
              · rcases Nat.lt_or_ge mi 167 with h8 | h8
                · obtain rfl : mi = 166 := by omega
                  exact xmk_166
                · obtain rfl : mi = 167 := by omega
                  exact xmk_167
          · rcases Nat.lt_or_ge mi 171 with h6 | h6
            · rcases Nat.lt_or_ge mi 169 with h7 | h7
              · obtain rfl : mi = 168 := by omega
                exact xmk_168
              · rcases Nat.lt_or_ge mi 170 with h8 | h8
                · obtain rfl : mi = 169 := by omega
                  exact xmk_169
                · obtain rfl : mi = 170 := by omega
                  exact xmk_170
            · rcases Nat.lt_or_ge mi 173 with h7 | h7
              · rcases Nat.lt_or_ge mi 172 with h8 | h8
                · obtain rfl : mi = 171 := by omega
                  exact xmk_171
                · obtain rfl : mi = 172 := by omega
                  exact xmk_172
              · rcases Nat.lt_or_ge mi 174 with h8 | h8
                · obtain rfl : mi = 173 := by omega
                  exact xmk_173
                · obtain rfl : mi = 174 := by omega
                  exact xmk_174
      · rcases Nat.lt_or_ge mi 188 with h4 | h4
        · rcases Nat.lt_or_ge mi 181 with h5 | h5
          · rcases Nat.lt_or_ge mi 178 with h6 | h6
            · rcases Nat.lt_or_ge mi 176 with h7 | h7
              · obtain rfl : mi = 175 := by omega
                exact xmk_175
              · rcases Nat.lt_or_ge mi 177 with h8 | h8
                · obtain rfl : mi = 176 := by omega
                  exact xmk_176
                · obtain rfl : mi = 177 := by omega
                  exact xmk_177
            · rcases Nat.lt_or_ge mi 179 with h7 | h7
              · obtain rfl : mi = 178 := by omega
                exact xmk_178
              · rcases Nat.lt_or_ge mi 180 with h8 | h8
                · obtain rfl : mi = 179 := by omega
                  exact xmk_179
                · obtain rfl : mi = 180 := by omega
                  exact xmk_180
          · rcases Nat.lt_or_ge mi 184 with h6 | h6
            · rcases Nat.lt_or_ge mi 182 with h7 | h7
              · obtain rfl : mi = 181 := by omega
                exact xmk_181
              · rcases Nat.lt_or_ge mi 183 with h8 | h8
                · obtain rfl : mi = 182 := by omega
                  exact xmk_182
                · obtain rfl : mi = 183 := by omega
                  exact xmk_183
            · rcases Nat.lt_or_ge mi 186 with h7 | h7
              · rcases Nat.lt_or_ge mi 185 with h8 | h8
                · obtain rfl : mi = 184 := by omega
                  exact xmk_184
                · obtain rfl : mi = 185 := by omega
                  exact xmk_185
              · rcases Nat.lt_or_ge mi 187 with h8 | h8
                · obtain rfl : mi = 186 := by omega
                  exact xmk_186
                · obtain rfl : mi = 187 := by omega
                  exact xmk_187
        · rcases Nat.lt_or_ge mi 194 with h5 | h5
          · rcases Nat.lt_or_ge mi 191 with h6 | h6
            · rcases Nat.lt_or_ge mi 189 with h7 | h7
              · obtain rfl : mi = 188 := by omega
                exact xmk_188
              · rcases Nat.lt_or_ge mi 190 with h8 | h8
                · obtain rfl : mi = 189 := by omega
                  exact xmk_189
                · obtain rfl : mi = 190 := by omega
                  exact xmk_190
            · rcases Nat.lt_or_ge mi 192 with h7 | h7
              · obtain rfl : mi = 191 := by omega
                exact xmk_191
              · rcases Nat.lt_or_ge mi 193 with h8 | h8
                · obtain rfl : mi = 192 := by omega
                  exact xmk_192
                · obtain rfl : mi = 193 := by omega
                  exact xmk_193
          · rcases Nat.lt_or_ge mi 197 with h6 | h6
            · rcases Nat.lt_or_ge mi 195 with h7 | h7
              · obtain rfl : mi = 194 := by omega
                exact xmk_194
              · rcases Nat.lt_or_ge mi 196 with h8 | h8
                · obtain rfl : mi = 195 := by omega
                  exact xmk_195
                · obtain rfl : mi = 196 := by omega
                  exact xmk_196
            · rcases Nat.lt_or_ge mi 199 with h7 | h7
              · rcases Nat.lt_or_ge mi 198 with h8 | h8
                · obtain rfl : mi = 197 := by omega
                  exact xmk_197
                · obtain rfl : mi = 198 := by omega
                  exact xmk_198
              · rcases Nat.lt_or_ge mi 200 with h8 | h8
                · obtain rfl : mi = 199 := by omega
                  exact xmk_199
                · obtain rfl : mi = 200 := by omega
                  exact xmk_200
