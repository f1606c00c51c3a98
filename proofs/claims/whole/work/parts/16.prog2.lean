/-! every instruction of the program is looked up in the tables; every callee has its words -/
theorem am_chkF_get {k : Nat} : ∀ (l : List (Option am_I)) (p0 j : Nat) (i : am_I), am_chkF k p0 l = true → l[j]? = some (some i) → am_chk am_M1 k (p0 + j) i = true := by
  intro l
  induction l with
  | nil => intro p0 j i _ h; simp at h
  | cons a t ih =>
    intro p0 j i hc h
    cases j with
    | zero =>
      have e : a = some i := Option.some.inj h
      subst e
      simp only [am_chkF, Bool.and_eq_true] at hc
      exact hc.1
    | succ j =>
      have h2 : t[j]? = some (some i) := h
      have hc2 : am_chkF k (p0 + 1) t = true := by
        cases a with
        | none => exact hc
        | some x => simp only [am_chkF, Bool.and_eq_true] at hc; exact hc.2
      have h3 := ih (p0 + 1) j i hc2 h2
      rw [show p0 + (j + 1) = p0 + 1 + j by omega]
      exact h3
theorem am_chk_law {pc : Nat} {i : am_I} (h : am_q176[pc]? = some (some i)) : am_chk am_M1 176 pc i = true := by
  have hlt : pc < am_q176.length := (List.getElem?_eq_some_iff.mp h).1
  have hlen : am_q176.length = 860 := by decide +kernel
  have key : ∀ a : Nat, am_chkF 176 a ((am_q176.drop a).take 50) = true → a ≤ pc → pc < a + 50 → am_chk am_M1 176 pc i = true := by
    intro a hc h1 h2
    have h3 : ((am_q176.drop a).take 50)[pc - a]? = some (some i) := by
      rw [List.getElem?_take, if_pos (by omega), List.getElem?_drop, show a + (pc - a) = pc by omega]
      exact h
    have h4 := am_chkF_get _ a (pc - a) i hc h3
    rw [show a + (pc - a) = pc by omega] at h4
    exact h4
  by_cases h0 : pc < 50
  · exact key 0 am_ck176_0 (by omega) (by omega)
  by_cases h1 : pc < 100
  · exact key 50 am_ck176_1 (by omega) (by omega)
  by_cases h2 : pc < 150
  · exact key 100 am_ck176_2 (by omega) (by omega)
  by_cases h3 : pc < 200
  · exact key 150 am_ck176_3 (by omega) (by omega)
  by_cases h4 : pc < 250
  · exact key 200 am_ck176_4 (by omega) (by omega)
  by_cases h5 : pc < 300
  · exact key 250 am_ck176_5 (by omega) (by omega)
  by_cases h6 : pc < 350
  · exact key 300 am_ck176_6 (by omega) (by omega)
  by_cases h7 : pc < 400
  · exact key 350 am_ck176_7 (by omega) (by omega)
  by_cases h8 : pc < 450
  · exact key 400 am_ck176_8 (by omega) (by omega)
  by_cases h9 : pc < 500
  · exact key 450 am_ck176_9 (by omega) (by omega)
  by_cases h10 : pc < 550
  · exact key 500 am_ck176_10 (by omega) (by omega)
  by_cases h11 : pc < 600
  · exact key 550 am_ck176_11 (by omega) (by omega)
  by_cases h12 : pc < 650
  · exact key 600 am_ck176_12 (by omega) (by omega)
  by_cases h13 : pc < 700
  · exact key 650 am_ck176_13 (by omega) (by omega)
  by_cases h14 : pc < 750
  · exact key 700 am_ck176_14 (by omega) (by omega)
  by_cases h15 : pc < 800
  · exact key 750 am_ck176_15 (by omega) (by omega)
  by_cases h16 : pc < 850
  · exact key 800 am_ck176_16 (by omega) (by omega)
  by_cases h17 : pc < 900
  · exact key 850 am_ck176_17 (by omega) (by omega)
  omega
theorem am_chkP {k : Nat} {l : List (Option am_I)} (h : am_qs[k]? = some l) {pc : Nat} {i : am_I} (hi : l[pc]? = some (some i)) : am_chk am_M1 k pc i = true := by
  have z : ∀ {k : Nat} {l : List (Option am_I)}, am_chkF k 0 l = true → l[pc]? = some (some i) → am_chk am_M1 k pc i = true := fun hc h9 => by
    have h1 := am_chkF_get _ 0 pc i hc h9
    rwa [Nat.zero_add] at h1
  match k, h with
  | 0, h => cases h; exact z am_ck0 hi
  | 1, h => cases h; exact z am_ck1 hi
  | 2, h => cases h; exact z am_ck2 hi
  | 3, h => cases h; exact z am_ck3 hi
  | 4, h => cases h; exact z am_ck4 hi
  | 5, h => cases h; exact z am_ck5 hi
  | 6, h => cases h; exact z am_ck6 hi
  | 7, h => cases h; exact z am_ck7 hi
  | 8, h => cases h; exact z am_ck8 hi
  | 9, h => cases h; exact z am_ck9 hi
  | 10, h => cases h; exact z am_ck10 hi
  | 11, h => cases h; exact z am_ck11 hi
  | 12, h => cases h; exact z am_ck12 hi
  | 13, h => cases h; exact z am_ck13 hi
  | 14, h => cases h; exact z am_ck14 hi
  | 15, h => cases h; exact z am_ck15 hi
  | 16, h => cases h; exact z am_ck16 hi
  | 17, h => cases h; exact z am_ck17 hi
  | 18, h => cases h; exact z am_ck18 hi
  | 19, h => cases h; exact z am_ck19 hi
  | 20, h => cases h; exact z am_ck20 hi
  | 21, h => cases h; exact z am_ck21 hi
  | 22, h => cases h; exact z am_ck22 hi
  | 23, h => cases h; exact z am_ck23 hi
  | 24, h => cases h; exact z am_ck24 hi
  | 25, h => cases h; exact z am_ck25 hi
  | 26, h => cases h; exact z am_ck26 hi
  | 27, h => cases h; exact z am_ck27 hi
  | 28, h => cases h; exact z am_ck28 hi
  | 29, h => cases h; exact z am_ck29 hi
  | 30, h => cases h; exact z am_ck30 hi
  | 31, h => cases h; exact z am_ck31 hi
  | 32, h => cases h; exact z am_ck32 hi
  | 33, h => cases h; exact z am_ck33 hi
  | 34, h => cases h; exact z am_ck34 hi
  | 35, h => cases h; exact z am_ck35 hi
  | 36, h => cases h; exact z am_ck36 hi
  | 37, h => cases h; exact z am_ck37 hi
  | 38, h => cases h; exact z am_ck38 hi
  | 39, h => cases h; exact z am_ck39 hi
  | 40, h => cases h; exact z am_ck40 hi
  | 41, h => cases h; exact z am_ck41 hi
  | 42, h => cases h; exact z am_ck42 hi
  | 43, h => cases h; exact z am_ck43 hi
  | 44, h => cases h; exact z am_ck44 hi
  | 45, h => cases h; exact z am_ck45 hi
  | 46, h => cases h; exact z am_ck46 hi
  | 47, h => cases h; exact z am_ck47 hi
  | 48, h => cases h; exact z am_ck48 hi
  | 49, h => cases h; exact z am_ck49 hi
  | 50, h => cases h; exact z am_ck50 hi
  | 51, h => cases h; exact z am_ck51 hi
  | 52, h => cases h; exact z am_ck52 hi
  | 53, h => cases h; exact z am_ck53 hi
  | 54, h => cases h; exact z am_ck54 hi
  | 55, h => cases h; exact z am_ck55 hi
  | 56, h => cases h; exact z am_ck56 hi
  | 57, h => cases h; exact z am_ck57 hi
  | 58, h => cases h; exact z am_ck58 hi
  | 59, h => cases h; exact z am_ck59 hi
  | 60, h => cases h; exact z am_ck60 hi
  | 61, h => cases h; exact z am_ck61 hi
  | 62, h => cases h; exact z am_ck62 hi
  | 63, h => cases h; exact z am_ck63 hi
  | 64, h => cases h; exact z am_ck64 hi
  | 65, h => cases h; exact z am_ck65 hi
  | 66, h => cases h; exact z am_ck66 hi
  | 67, h => cases h; exact z am_ck67 hi
  | 68, h => cases h; exact z am_ck68 hi
  | 69, h => cases h; exact z am_ck69 hi
  | 70, h => cases h; exact z am_ck70 hi
  | 71, h => cases h; exact z am_ck71 hi
  | 72, h => cases h; exact z am_ck72 hi
  | 73, h => cases h; exact z am_ck73 hi
  | 74, h => cases h; exact z am_ck74 hi
  | 75, h => cases h; exact z am_ck75 hi
  | 76, h => cases h; exact z am_ck76 hi
  | 77, h => cases h; exact z am_ck77 hi
  | 78, h => cases h; exact z am_ck78 hi
  | 79, h => cases h; exact z am_ck79 hi
  | 80, h => cases h; exact z am_ck80 hi
  | 81, h => cases h; exact z am_ck81 hi
  | 82, h => cases h; exact z am_ck82 hi
  | 83, h => cases h; exact z am_ck83 hi
  | 84, h => cases h; exact z am_ck84 hi
  | 85, h => cases h; exact z am_ck85 hi
  | 86, h => cases h; exact z am_ck86 hi
  | 87, h => cases h; exact z am_ck87 hi
  | 88, h => cases h; exact z am_ck88 hi
  | 89, h => cases h; exact z am_ck89 hi
  | 90, h => cases h; exact z am_ck90 hi
  | 91, h => cases h; exact z am_ck91 hi
  | 92, h => cases h; exact z am_ck92 hi
  | 93, h => cases h; exact z am_ck93 hi
  | 94, h => cases h; exact z am_ck94 hi
  | 95, h => cases h; exact z am_ck95 hi
  | 96, h => cases h; exact z am_ck96 hi
  | 97, h => cases h; exact z am_ck97 hi
  | 98, h => cases h; exact z am_ck98 hi
  | 99, h => cases h; exact z am_ck99 hi
  | 100, h => cases h; exact z am_ck100 hi
  | 101, h => cases h; exact z am_ck101 hi
  | 102, h => cases h; exact z am_ck102 hi
  | 103, h => cases h; exact z am_ck103 hi
  | 104, h => cases h; exact z am_ck104 hi
  | 105, h => cases h; exact z am_ck105 hi
  | 106, h => cases h; exact z am_ck106 hi
  | 107, h => cases h; exact z am_ck107 hi
  | 108, h => cases h; exact z am_ck108 hi
  | 109, h => cases h; exact z am_ck109 hi
  | 110, h => cases h; exact z am_ck110 hi
  | 111, h => cases h; exact z am_ck111 hi
  | 112, h => cases h; exact z am_ck112 hi
  | 113, h => cases h; exact z am_ck113 hi
  | 114, h => cases h; exact z am_ck114 hi
  | 115, h => cases h; exact z am_ck115 hi
  | 116, h => cases h; exact z am_ck116 hi
  | 117, h => cases h; exact z am_ck117 hi
  | 118, h => cases h; exact z am_ck118 hi
  | 119, h => cases h; exact z am_ck119 hi
  | 120, h => cases h; exact z am_ck120 hi
  | 121, h => cases h; exact z am_ck121 hi
  | 122, h => cases h; exact z am_ck122 hi
  | 123, h => cases h; exact z am_ck123 hi
  | 124, h => cases h; exact z am_ck124 hi
  | 125, h => cases h; exact z am_ck125 hi
  | 126, h => cases h; exact z am_ck126 hi
  | 127, h => cases h; exact z am_ck127 hi
  | 128, h => cases h; exact z am_ck128 hi
  | 129, h => cases h; exact z am_ck129 hi
  | 130, h => cases h; exact z am_ck130 hi
  | 131, h => cases h; exact z am_ck131 hi
  | 132, h => cases h; exact z am_ck132 hi
  | 133, h => cases h; exact z am_ck133 hi
  | 134, h => cases h; exact z am_ck134 hi
  | 135, h => cases h; exact z am_ck135 hi
  | 136, h => cases h; exact z am_ck136 hi
  | 137, h => cases h; exact z am_ck137 hi
  | 138, h => cases h; exact z am_ck138 hi
  | 139, h => cases h; exact z am_ck139 hi
  | 140, h => cases h; exact z am_ck140 hi
  | 141, h => cases h; exact z am_ck141 hi
  | 142, h => cases h; exact z am_ck142 hi
  | 143, h => cases h; exact z am_ck143 hi
  | 144, h => cases h; exact z am_ck144 hi
  | 145, h => cases h; exact z am_ck145 hi
  | 146, h => cases h; exact z am_ck146 hi
  | 147, h => cases h; exact z am_ck147 hi
  | 148, h => cases h; exact z am_ck148 hi
  | 149, h => cases h; exact z am_ck149 hi
  | 150, h => cases h; exact z am_ck150 hi
  | 151, h => cases h; exact z am_ck151 hi
  | 152, h => cases h; exact z am_ck152 hi
  | 153, h => cases h; exact z am_ck153 hi
  | 154, h => cases h; exact z am_ck154 hi
  | 155, h => cases h; exact z am_ck155 hi
  | 156, h => cases h; exact z am_ck156 hi
  | 157, h => cases h; exact z am_ck157 hi
  | 158, h => cases h; exact z am_ck158 hi
  | 159, h => cases h; exact z am_ck159 hi
  | 160, h => cases h; exact z am_ck160 hi
  | 161, h => cases h; exact z am_ck161 hi
  | 162, h => cases h; exact z am_ck162 hi
  | 163, h => cases h; exact z am_ck163 hi
  | 164, h => cases h; exact z am_ck164 hi
  | 165, h => cases h; exact z am_ck165 hi
  | 166, h => cases h; exact z am_ck166 hi
  | 167, h => cases h; exact z am_ck167 hi
  | 168, h => cases h; exact z am_ck168 hi
  | 169, h => cases h; exact z am_ck169 hi
  | 170, h => cases h; exact z am_ck170 hi
  | 171, h => cases h; exact z am_ck171 hi
  | 172, h => cases h; exact z am_ck172 hi
  | 173, h => cases h; exact z am_ck173 hi
  | 174, h => cases h; exact z am_ck174 hi
  | 175, h => cases h; exact z am_ck175 hi
  | 176, h => cases h; exact am_chk_law hi
  | k + 177, h => exact absurd ((List.getElem?_eq_some_iff.mp h).1) (by rw [show am_qs.length = 177 by decide +kernel]; omega)
theorem am_mkall {k : Nat} (h : am_kd k < 3) : am_mok am_M1 am_kd k := by
  match k, h with
  | 0, _ => exact am_mchk_ok am_mk0
  | 1, _ => exact am_mchk_ok am_mk1
  | 2, _ => exact am_mchk_ok am_mk2
  | 3, _ => exact am_mchk_ok am_mk3
  | 4, _ => exact am_mchk_ok am_mk4
  | 5, _ => exact am_mchk_ok am_mk5
  | 6, _ => exact am_mchk_ok am_mk6
  | 7, _ => exact am_mchk_ok am_mk7
  | 8, _ => exact am_mchk_ok am_mk8
  | 9, _ => exact am_mchk_ok am_mk9
  | 10, _ => exact am_mchk_ok am_mk10
  | 11, _ => exact am_mchk_ok am_mk11
  | 12, _ => exact am_mchk_ok am_mk12
  | 13, _ => exact am_mchk_ok am_mk13
  | 14, _ => exact am_mchk_ok am_mk14
  | 15, _ => exact am_mchk_ok am_mk15
  | 16, _ => exact am_mchk_ok am_mk16
  | 17, _ => exact am_mchk_ok am_mk17
  | 18, _ => exact am_mchk_ok am_mk18
  | 19, _ => exact am_mchk_ok am_mk19
  | 20, _ => exact am_mchk_ok am_mk20
  | 21, _ => exact am_mchk_ok am_mk21
  | 22, _ => exact am_mchk_ok am_mk22
  | 23, _ => exact am_mchk_ok am_mk23
  | 24, _ => exact am_mchk_ok am_mk24
  | 25, _ => exact am_mchk_ok am_mk25
  | 26, _ => exact am_mchk_ok am_mk26
  | 27, _ => exact am_mchk_ok am_mk27
  | 28, _ => exact am_mchk_ok am_mk28
  | 29, _ => exact am_mchk_ok am_mk29
  | 30, _ => exact am_mchk_ok am_mk30
  | 31, _ => exact am_mchk_ok am_mk31
  | 32, _ => exact am_mchk_ok am_mk32
  | 33, _ => exact am_mchk_ok am_mk33
  | 34, _ => exact am_mchk_ok am_mk34
  | 35, _ => exact am_mchk_ok am_mk35
  | 36, _ => exact am_mchk_ok am_mk36
  | 37, _ => exact am_mchk_ok am_mk37
  | 38, _ => exact am_mchk_ok am_mk38
  | 39, _ => exact am_mchk_ok am_mk39
  | 40, _ => exact am_mchk_ok am_mk40
  | 41, _ => exact am_mchk_ok am_mk41
  | 42, _ => exact am_mchk_ok am_mk42
  | 43, _ => exact am_mchk_ok am_mk43
  | 44, _ => exact am_mchk_ok am_mk44
  | 45, _ => exact am_mchk_ok am_mk45
  | 46, _ => exact am_mchk_ok am_mk46
  | 47, _ => exact am_mchk_ok am_mk47
  | 48, _ => exact am_mchk_ok am_mk48
  | 49, _ => exact am_mchk_ok am_mk49
  | 50, _ => exact am_mchk_ok am_mk50
  | 51, _ => exact am_mchk_ok am_mk51
  | 52, _ => exact am_mchk_ok am_mk52
  | 53, _ => exact am_mchk_ok am_mk53
  | 54, _ => exact am_mchk_ok am_mk54
  | 55, _ => exact am_mchk_ok am_mk55
  | 56, _ => exact am_mchk_ok am_mk56
  | 57, _ => exact am_mchk_ok am_mk57
  | 58, _ => exact am_mchk_ok am_mk58
  | 59, _ => exact am_mchk_ok am_mk59
  | 60, _ => exact am_mchk_ok am_mk60
  | 61, _ => exact am_mchk_ok am_mk61
  | 62, _ => exact am_mchk_ok am_mk62
  | 63, _ => exact am_mchk_ok am_mk63
  | 64, _ => exact am_mchk_ok am_mk64
  | 65, _ => exact am_mchk_ok am_mk65
  | 66, _ => exact am_mchk_ok am_mk66
  | 67, _ => exact am_mchk_ok am_mk67
  | 68, _ => exact am_mchk_ok am_mk68
  | 69, _ => exact am_mchk_ok am_mk69
  | 70, _ => exact am_mchk_ok am_mk70
  | 71, _ => exact am_mchk_ok am_mk71
  | 72, _ => exact am_mchk_ok am_mk72
  | 73, _ => exact am_mchk_ok am_mk73
  | 74, _ => exact am_mchk_ok am_mk74
  | 75, _ => exact am_mchk_ok am_mk75
  | 76, _ => exact am_mchk_ok am_mk76
  | 77, _ => exact am_mchk_ok am_mk77
  | 78, _ => exact am_mchk_ok am_mk78
  | 79, _ => exact am_mchk_ok am_mk79
  | 80, _ => exact am_mchk_ok am_mk80
  | 81, _ => exact am_mchk_ok am_mk81
  | 82, _ => exact am_mchk_ok am_mk82
  | 83, _ => exact am_mchk_ok am_mk83
  | 84, _ => exact am_mchk_ok am_mk84
  | 85, _ => exact am_mchk_ok am_mk85
  | 86, _ => exact am_mchk_ok am_mk86
  | 87, _ => exact am_mchk_ok am_mk87
  | 88, _ => exact am_mchk_ok am_mk88
  | 89, _ => exact am_mchk_ok am_mk89
  | 90, _ => exact am_mchk_ok am_mk90
  | 91, _ => exact am_mchk_ok am_mk91
  | 92, _ => exact am_mchk_ok am_mk92
  | 93, _ => exact am_mchk_ok am_mk93
  | 94, _ => exact am_mchk_ok am_mk94
  | 95, _ => exact am_mchk_ok am_mk95
  | 96, _ => exact am_mchk_ok am_mk96
  | 97, _ => exact am_mchk_ok am_mk97
  | 98, _ => exact am_mchk_ok am_mk98
  | 99, _ => exact am_mchk_ok am_mk99
  | 100, _ => exact am_mchk_ok am_mk100
  | 101, _ => exact am_mchk_ok am_mk101
  | 102, _ => exact am_mchk_ok am_mk102
  | 103, _ => exact am_mchk_ok am_mk103
  | 104, _ => exact am_mchk_ok am_mk104
  | 105, _ => exact am_mchk_ok am_mk105
  | 106, _ => exact am_mchk_ok am_mk106
  | 107, _ => exact am_mchk_ok am_mk107
  | 108, _ => exact am_mchk_ok am_mk108
  | 109, _ => exact am_mchk_ok am_mk109
  | 110, _ => exact am_mchk_ok am_mk110
  | 111, _ => exact am_mchk_ok am_mk111
  | 112, _ => exact am_mchk_ok am_mk112
  | 113, _ => exact am_mchk_ok am_mk113
  | 114, _ => exact am_mchk_ok am_mk114
  | 115, _ => exact am_mchk_ok am_mk115
  | 116, _ => exact am_mchk_ok am_mk116
  | 117, _ => exact am_mchk_ok am_mk117
  | 118, _ => exact am_mchk_ok am_mk118
  | 119, _ => exact am_mchk_ok am_mk119
  | 120, _ => exact am_mchk_ok am_mk120
  | 121, _ => exact am_mchk_ok am_mk121
  | 122, _ => exact am_mchk_ok am_mk122
  | 123, _ => exact am_mchk_ok am_mk123
  | 124, _ => exact am_mchk_ok am_mk124
  | 125, _ => exact am_mchk_ok am_mk125
  | 126, _ => exact am_mchk_ok am_mk126
  | 127, _ => exact am_mchk_ok am_mk127
  | 128, _ => exact am_mchk_ok am_mk128
  | 129, _ => exact am_mchk_ok am_mk129
  | 130, _ => exact am_mchk_ok am_mk130
  | 131, _ => exact am_mchk_ok am_mk131
  | 132, _ => exact am_mchk_ok am_mk132
  | 133, _ => exact am_mchk_ok am_mk133
  | 134, _ => exact am_mchk_ok am_mk134
  | 135, _ => exact am_mchk_ok am_mk135
  | 136, _ => exact am_mchk_ok am_mk136
  | 137, _ => exact am_mchk_ok am_mk137
  | 138, _ => exact am_mchk_ok am_mk138
  | 139, _ => exact am_mchk_ok am_mk139
  | 140, _ => exact am_mchk_ok am_mk140
  | 141, _ => exact am_mchk_ok am_mk141
  | 142, _ => exact am_mchk_ok am_mk142
  | 143, _ => exact am_mchk_ok am_mk143
  | 144, _ => exact am_mchk_ok am_mk144
  | 145, _ => exact am_mchk_ok am_mk145
  | 146, _ => exact am_mchk_ok am_mk146
  | 147, _ => exact am_mchk_ok am_mk147
  | 148, _ => exact am_mchk_ok am_mk148
  | 149, _ => exact am_mchk_ok am_mk149
  | 150, _ => exact am_mchk_ok am_mk150
  | 151, _ => exact am_mchk_ok am_mk151
  | 152, _ => exact am_mchk_ok am_mk152
  | 153, _ => exact am_mchk_ok am_mk153
  | 154, _ => exact am_mchk_ok am_mk154
  | 155, _ => exact am_mchk_ok am_mk155
  | 156, _ => exact am_mchk_ok am_mk156
  | 157, _ => exact am_mchk_ok am_mk157
  | 158, _ => exact am_mchk_ok am_mk158
  | 159, _ => exact am_mchk_ok am_mk159
  | 160, _ => exact am_mchk_ok am_mk160
  | 161, _ => exact am_mchk_ok am_mk161
  | 162, _ => exact am_mchk_ok am_mk162
  | 163, _ => exact am_mchk_ok am_mk163
  | 164, _ => exact am_mchk_ok am_mk164
  | 165, _ => exact am_mchk_ok am_mk165
  | 166, _ => exact am_mchk_ok am_mk166
  | 167, _ => exact am_mchk_ok am_mk167
  | 168, _ => exact am_mchk_ok am_mk168
  | 169, _ => exact am_mchk_ok am_mk169
  | 170, _ => exact am_mchk_ok am_mk170
  | 171, _ => exact am_mchk_ok am_mk171
  | 172, _ => exact am_mchk_ok am_mk172
  | 173, _ => exact am_mchk_ok am_mk173
  | 174, _ => exact am_mchk_ok am_mk174
  | 175, _ => exact am_mchk_ok am_mk175
  | 176, h => exact absurd h (by decide)
  | k + 177, h => exact absurd h (by unfold am_kd; rw [List.getElem?_eq_none (by rw [show am_kds.length = 177 by decide +kernel]; omega)]; decide)
def am_kB (i : am_I) : Bool := match i.1 with
  | .invokevirtual _ => decide (am_kd i.2.2.1 = 0)
  | .invokestatic _ => decide (am_kd i.2.2.1 = 1)
  | .invokespecial _ => decide (i.2.2.1 = 99999) || decide (am_kd i.2.2.1 = 2)
  | _ => true
def am_kBL (l : List (Option am_I)) : Bool := l.all (fun o => match o with
  | some i => am_kB i
  | none => true)
set_option maxRecDepth 100000 in
theorem am_kBall : am_qs.all am_kBL = true := by decide +kernel
theorem am_Pok : ∀ k pc i, am_P k pc = some i → am_chk am_M1 k pc i = true ∧ am_kchk am_kd i ∧ (am_isCall i.1 = true → i.2.2.1 ≠ 99999 → am_mok am_M1 am_kd i.2.2.1) := by
  intro k pc i h
  unfold am_P at h
  split at h
  · rename_i l hl
    split at h
    · rename_i x hx
      subst h
      have hb : am_kB i = true := by
        have h1 := List.all_eq_true.mp am_kBall l (List.mem_of_getElem? hl)
        exact List.all_eq_true.mp h1 (some i) (List.mem_of_getElem? hx)
      have hk : am_kchk am_kd i := by
        refine ⟨fun x e => ?_, fun x e => ?_, fun x e e2 => ?_⟩
        · unfold am_kB at hb; rw [e] at hb; exact of_decide_eq_true hb
        · unfold am_kB at hb; rw [e] at hb; exact of_decide_eq_true hb
        · unfold am_kB at hb; rw [e] at hb
          simp only [Bool.or_eq_true, decide_eq_true_eq] at hb
          exact hb.resolve_left e2
      refine ⟨am_chkP hl hx, hk, fun hc hne => am_mkall ?_⟩
      obtain ⟨op, len, a, b, w, cst⟩ := i
      cases op <;> first | (exact absurd (show false = true from hc) (by decide)) | skip
      case invokevirtual x => rw [show am_kd a = 0 from hk.1 x rfl]; decide
      case invokespecial x => rw [show am_kd a = 2 from hk.2.2 x rfl hne]; decide
      case invokestatic x => rw [show am_kd a = 1 from hk.2.1 x rfl]; decide
    · cases h
  · cases h
