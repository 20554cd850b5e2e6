/-! every method is checked -/
theorem mm_c198 : mm_ckk 198 = true := by
  have h : mm_ops 198 = mm_o198 := by rfl
  unfold mm_ckk
  rw [h]
  unfold mm_o198
  simp only [List.all_append, mm_l0, mm_l1, mm_l2, mm_l3, mm_l4, mm_l5, mm_l6, mm_l7, mm_l8, mm_l9, mm_l10, mm_l11, mm_l12, mm_l13, mm_l14, mm_l15, Bool.and_true, Bool.true_and]
  decide +kernel
theorem mm_cka (k : Nat) (h : k < 199) : mm_ckk k = true := by
  rcases Nat.lt_or_ge k 99 with q | q
  · rcases Nat.lt_or_ge k 49 with q | q
    · rcases Nat.lt_or_ge k 24 with q | q
      · rcases Nat.lt_or_ge k 12 with q | q
        · rcases Nat.lt_or_ge k 6 with q | q
          · rcases Nat.lt_or_ge k 3 with q | q
            · rcases Nat.lt_or_ge k 1 with q | q
              · have e : k = 0 := by omega
                subst e
                exact mm_c0
              · rcases Nat.lt_or_ge k 2 with q | q
                · have e : k = 1 := by omega
                  subst e
                  exact mm_c1
                · have e : k = 2 := by omega
                  subst e
                  exact mm_c2
            · rcases Nat.lt_or_ge k 4 with q | q
              · have e : k = 3 := by omega
                subst e
                exact mm_c3
              · rcases Nat.lt_or_ge k 5 with q | q
                · have e : k = 4 := by omega
                  subst e
                  exact mm_c4
                · have e : k = 5 := by omega
                  subst e
                  exact mm_c5
          · rcases Nat.lt_or_ge k 9 with q | q
            · rcases Nat.lt_or_ge k 7 with q | q
              · have e : k = 6 := by omega
                subst e
                exact mm_c6
              · rcases Nat.lt_or_ge k 8 with q | q
                · have e : k = 7 := by omega
                  subst e
                  exact mm_c7
                · have e : k = 8 := by omega
                  subst e
                  exact mm_c8
            · rcases Nat.lt_or_ge k 10 with q | q
              · have e : k = 9 := by omega
                subst e
                exact mm_c9
              · rcases Nat.lt_or_ge k 11 with q | q
                · have e : k = 10 := by omega
                  subst e
                  exact mm_c10
                · have e : k = 11 := by omega
                  subst e
                  exact mm_c11
        · rcases Nat.lt_or_ge k 18 with q | q
          · rcases Nat.lt_or_ge k 15 with q | q
            · rcases Nat.lt_or_ge k 13 with q | q
              · have e : k = 12 := by omega
                subst e
                exact mm_c12
              · rcases Nat.lt_or_ge k 14 with q | q
                · have e : k = 13 := by omega
                  subst e
                  exact mm_c13
                · have e : k = 14 := by omega
                  subst e
                  exact mm_c14
            · rcases Nat.lt_or_ge k 16 with q | q
              · have e : k = 15 := by omega
                subst e
                exact mm_c15
              · rcases Nat.lt_or_ge k 17 with q | q
                · have e : k = 16 := by omega
                  subst e
                  exact mm_c16
                · have e : k = 17 := by omega
                  subst e
                  exact mm_c17
          · rcases Nat.lt_or_ge k 21 with q | q
            · rcases Nat.lt_or_ge k 19 with q | q
              · have e : k = 18 := by omega
                subst e
                exact mm_c18
              · rcases Nat.lt_or_ge k 20 with q | q
                · have e : k = 19 := by omega
                  subst e
                  exact mm_c19
                · have e : k = 20 := by omega
                  subst e
                  exact mm_c20
            · rcases Nat.lt_or_ge k 22 with q | q
              · have e : k = 21 := by omega
                subst e
                exact mm_c21
              · rcases Nat.lt_or_ge k 23 with q | q
                · have e : k = 22 := by omega
                  subst e
                  exact mm_c22
                · have e : k = 23 := by omega
                  subst e
                  exact mm_c23
      · rcases Nat.lt_or_ge k 36 with q | q
        · rcases Nat.lt_or_ge k 30 with q | q
          · rcases Nat.lt_or_ge k 27 with q | q
            · rcases Nat.lt_or_ge k 25 with q | q
              · have e : k = 24 := by omega
                subst e
                exact mm_c24
              · rcases Nat.lt_or_ge k 26 with q | q
                · have e : k = 25 := by omega
                  subst e
                  exact mm_c25
                · have e : k = 26 := by omega
                  subst e
                  exact mm_c26
            · rcases Nat.lt_or_ge k 28 with q | q
              · have e : k = 27 := by omega
                subst e
                exact mm_c27
              · rcases Nat.lt_or_ge k 29 with q | q
                · have e : k = 28 := by omega
                  subst e
                  exact mm_c28
                · have e : k = 29 := by omega
                  subst e
                  exact mm_c29
          · rcases Nat.lt_or_ge k 33 with q | q
            · rcases Nat.lt_or_ge k 31 with q | q
              · have e : k = 30 := by omega
                subst e
                exact mm_c30
              · rcases Nat.lt_or_ge k 32 with q | q
                · have e : k = 31 := by omega
                  subst e
                  exact mm_c31
                · have e : k = 32 := by omega
                  subst e
                  exact mm_c32
            · rcases Nat.lt_or_ge k 34 with q | q
              · have e : k = 33 := by omega
                subst e
                exact mm_c33
              · rcases Nat.lt_or_ge k 35 with q | q
                · have e : k = 34 := by omega
                  subst e
                  exact mm_c34
                · have e : k = 35 := by omega
                  subst e
                  exact mm_c35
        · rcases Nat.lt_or_ge k 42 with q | q
          · rcases Nat.lt_or_ge k 39 with q | q
            · rcases Nat.lt_or_ge k 37 with q | q
              · have e : k = 36 := by omega
                subst e
                exact mm_c36
              · rcases Nat.lt_or_ge k 38 with q | q
                · have e : k = 37 := by omega
                  subst e
                  exact mm_c37
                · have e : k = 38 := by omega
                  subst e
                  exact mm_c38
            · rcases Nat.lt_or_ge k 40 with q | q
              · have e : k = 39 := by omega
                subst e
                exact mm_c39
              · rcases Nat.lt_or_ge k 41 with q | q
                · have e : k = 40 := by omega
                  subst e
                  exact mm_c40
                · have e : k = 41 := by omega
                  subst e
                  exact mm_c41
          · rcases Nat.lt_or_ge k 45 with q | q
            · rcases Nat.lt_or_ge k 43 with q | q
              · have e : k = 42 := by omega
                subst e
                exact mm_c42
              · rcases Nat.lt_or_ge k 44 with q | q
                · have e : k = 43 := by omega
                  subst e
                  exact mm_c43
                · have e : k = 44 := by omega
                  subst e
                  exact mm_c44
            · rcases Nat.lt_or_ge k 47 with q | q
              · rcases Nat.lt_or_ge k 46 with q | q
                · have e : k = 45 := by omega
                  subst e
                  exact mm_c45
                · have e : k = 46 := by omega
                  subst e
                  exact mm_c46
              · rcases Nat.lt_or_ge k 48 with q | q
                · have e : k = 47 := by omega
                  subst e
                  exact mm_c47
                · have e : k = 48 := by omega
                  subst e
                  exact mm_c48
    · rcases Nat.lt_or_ge k 74 with q | q
      · rcases Nat.lt_or_ge k 61 with q | q
        · rcases Nat.lt_or_ge k 55 with q | q
          · rcases Nat.lt_or_ge k 52 with q | q
            · rcases Nat.lt_or_ge k 50 with q | q
              · have e : k = 49 := by omega
                subst e
                exact mm_c49
              · rcases Nat.lt_or_ge k 51 with q | q
                · have e : k = 50 := by omega
                  subst e
                  exact mm_c50
                · have e : k = 51 := by omega
                  subst e
                  exact mm_c51
            · rcases Nat.lt_or_ge k 53 with q | q
              · have e : k = 52 := by omega
                subst e
                exact mm_c52
              · rcases Nat.lt_or_ge k 54 with q | q
                · have e : k = 53 := by omega
                  subst e
                  exact mm_c53
                · have e : k = 54 := by omega
                  subst e
                  exact mm_c54
          · rcases Nat.lt_or_ge k 58 with q | q
            · rcases Nat.lt_or_ge k 56 with q | q
              · have e : k = 55 := by omega
                subst e
                exact mm_c55
              · rcases Nat.lt_or_ge k 57 with q | q
                · have e : k = 56 := by omega
                  subst e
                  exact mm_c56
                · have e : k = 57 := by omega
                  subst e
                  exact mm_c57
            · rcases Nat.lt_or_ge k 59 with q | q
              · have e : k = 58 := by omega
                subst e
                exact mm_c58
              · rcases Nat.lt_or_ge k 60 with q | q
                · have e : k = 59 := by omega
                  subst e
                  exact mm_c59
                · have e : k = 60 := by omega
                  subst e
                  exact mm_c60
        · rcases Nat.lt_or_ge k 67 with q | q
          · rcases Nat.lt_or_ge k 64 with q | q
            · rcases Nat.lt_or_ge k 62 with q | q
              · have e : k = 61 := by omega
                subst e
                exact mm_c61
              · rcases Nat.lt_or_ge k 63 with q | q
                · have e : k = 62 := by omega
                  subst e
                  exact mm_c62
                · have e : k = 63 := by omega
                  subst e
                  exact mm_c63
            · rcases Nat.lt_or_ge k 65 with q | q
              · have e : k = 64 := by omega
                subst e
                exact mm_c64
              · rcases Nat.lt_or_ge k 66 with q | q
                · have e : k = 65 := by omega
                  subst e
                  exact mm_c65
                · have e : k = 66 := by omega
                  subst e
                  exact mm_c66
          · rcases Nat.lt_or_ge k 70 with q | q
            · rcases Nat.lt_or_ge k 68 with q | q
              · have e : k = 67 := by omega
                subst e
                exact mm_c67
              · rcases Nat.lt_or_ge k 69 with q | q
                · have e : k = 68 := by omega
                  subst e
                  exact mm_c68
                · have e : k = 69 := by omega
                  subst e
                  exact mm_c69
            · rcases Nat.lt_or_ge k 72 with q | q
              · rcases Nat.lt_or_ge k 71 with q | q
                · have e : k = 70 := by omega
                  subst e
                  exact mm_c70
                · have e : k = 71 := by omega
                  subst e
                  exact mm_c71
              · rcases Nat.lt_or_ge k 73 with q | q
                · have e : k = 72 := by omega
                  subst e
                  exact mm_c72
                · have e : k = 73 := by omega
                  subst e
                  exact mm_c73
      · rcases Nat.lt_or_ge k 86 with q | q
        · rcases Nat.lt_or_ge k 80 with q | q
          · rcases Nat.lt_or_ge k 77 with q | q
            · rcases Nat.lt_or_ge k 75 with q | q
              · have e : k = 74 := by omega
                subst e
                exact mm_c74
              · rcases Nat.lt_or_ge k 76 with q | q
                · have e : k = 75 := by omega
                  subst e
                  exact mm_c75
                · have e : k = 76 := by omega
                  subst e
                  exact mm_c76
            · rcases Nat.lt_or_ge k 78 with q | q
              · have e : k = 77 := by omega
                subst e
                exact mm_c77
              · rcases Nat.lt_or_ge k 79 with q | q
                · have e : k = 78 := by omega
                  subst e
                  exact mm_c78
                · have e : k = 79 := by omega
                  subst e
                  exact mm_c79
          · rcases Nat.lt_or_ge k 83 with q | q
            · rcases Nat.lt_or_ge k 81 with q | q
              · have e : k = 80 := by omega
                subst e
                exact mm_c80
              · rcases Nat.lt_or_ge k 82 with q | q
                · have e : k = 81 := by omega
                  subst e
                  exact mm_c81
                · have e : k = 82 := by omega
                  subst e
                  exact mm_c82
            · rcases Nat.lt_or_ge k 84 with q | q
              · have e : k = 83 := by omega
                subst e
                exact mm_c83
              · rcases Nat.lt_or_ge k 85 with q | q
                · have e : k = 84 := by omega
                  subst e
                  exact mm_c84
                · have e : k = 85 := by omega
                  subst e
                  exact mm_c85
        · rcases Nat.lt_or_ge k 92 with q | q
          · rcases Nat.lt_or_ge k 89 with q | q
            · rcases Nat.lt_or_ge k 87 with q | q
              · have e : k = 86 := by omega
                subst e
                exact mm_c86
              · rcases Nat.lt_or_ge k 88 with q | q
                · have e : k = 87 := by omega
                  subst e
                  exact mm_c87
                · have e : k = 88 := by omega
                  subst e
                  exact mm_c88
            · rcases Nat.lt_or_ge k 90 with q | q
              · have e : k = 89 := by omega
                subst e
                exact mm_c89
              · rcases Nat.lt_or_ge k 91 with q | q
                · have e : k = 90 := by omega
                  subst e
                  exact mm_c90
                · have e : k = 91 := by omega
                  subst e
                  exact mm_c91
          · rcases Nat.lt_or_ge k 95 with q | q
            · rcases Nat.lt_or_ge k 93 with q | q
              · have e : k = 92 := by omega
                subst e
                exact mm_c92
              · rcases Nat.lt_or_ge k 94 with q | q
                · have e : k = 93 := by omega
                  subst e
                  exact mm_c93
                · have e : k = 94 := by omega
                  subst e
                  exact mm_c94
            · rcases Nat.lt_or_ge k 97 with q | q
              · rcases Nat.lt_or_ge k 96 with q | q
                · have e : k = 95 := by omega
                  subst e
                  exact mm_c95
                · have e : k = 96 := by omega
                  subst e
                  exact mm_c96
              · rcases Nat.lt_or_ge k 98 with q | q
                · have e : k = 97 := by omega
                  subst e
                  exact mm_c97
                · have e : k = 98 := by omega
                  subst e
                  exact mm_c98
  · rcases Nat.lt_or_ge k 149 with q | q
    · rcases Nat.lt_or_ge k 124 with q | q
      · rcases Nat.lt_or_ge k 111 with q | q
        · rcases Nat.lt_or_ge k 105 with q | q
          · rcases Nat.lt_or_ge k 102 with q | q
            · rcases Nat.lt_or_ge k 100 with q | q
              · have e : k = 99 := by omega
                subst e
                exact mm_c99
              · rcases Nat.lt_or_ge k 101 with q | q
                · have e : k = 100 := by omega
                  subst e
                  exact mm_c100
                · have e : k = 101 := by omega
                  subst e
                  exact mm_c101
            · rcases Nat.lt_or_ge k 103 with q | q
              · have e : k = 102 := by omega
                subst e
                exact mm_c102
              · rcases Nat.lt_or_ge k 104 with q | q
                · have e : k = 103 := by omega
                  subst e
                  exact mm_c103
                · have e : k = 104 := by omega
                  subst e
                  exact mm_c104
          · rcases Nat.lt_or_ge k 108 with q | q
            · rcases Nat.lt_or_ge k 106 with q | q
              · have e : k = 105 := by omega
                subst e
                exact mm_c105
              · rcases Nat.lt_or_ge k 107 with q | q
                · have e : k = 106 := by omega
                  subst e
                  exact mm_c106
                · have e : k = 107 := by omega
                  subst e
                  exact mm_c107
            · rcases Nat.lt_or_ge k 109 with q | q
              · have e : k = 108 := by omega
                subst e
                exact mm_c108
              · rcases Nat.lt_or_ge k 110 with q | q
                · have e : k = 109 := by omega
                  subst e
                  exact mm_c109
                · have e : k = 110 := by omega
                  subst e
                  exact mm_c110
        · rcases Nat.lt_or_ge k 117 with q | q
          · rcases Nat.lt_or_ge k 114 with q | q
            · rcases Nat.lt_or_ge k 112 with q | q
              · have e : k = 111 := by omega
                subst e
                exact mm_c111
              · rcases Nat.lt_or_ge k 113 with q | q
                · have e : k = 112 := by omega
                  subst e
                  exact mm_c112
                · have e : k = 113 := by omega
                  subst e
                  exact mm_c113
            · rcases Nat.lt_or_ge k 115 with q | q
              · have e : k = 114 := by omega
                subst e
                exact mm_c114
              · rcases Nat.lt_or_ge k 116 with q | q
                · have e : k = 115 := by omega
                  subst e
                  exact mm_c115
                · have e : k = 116 := by omega
                  subst e
                  exact mm_c116
          · rcases Nat.lt_or_ge k 120 with q | q
            · rcases Nat.lt_or_ge k 118 with q | q
              · have e : k = 117 := by omega
                subst e
                exact mm_c117
              · rcases Nat.lt_or_ge k 119 with q | q
                · have e : k = 118 := by omega
                  subst e
                  exact mm_c118
                · have e : k = 119 := by omega
                  subst e
                  exact mm_c119
            · rcases Nat.lt_or_ge k 122 with q | q
              · rcases Nat.lt_or_ge k 121 with q | q
                · have e : k = 120 := by omega
                  subst e
                  exact mm_c120
                · have e : k = 121 := by omega
                  subst e
                  exact mm_c121
              · rcases Nat.lt_or_ge k 123 with q | q
                · have e : k = 122 := by omega
                  subst e
                  exact mm_c122
                · have e : k = 123 := by omega
                  subst e
                  exact mm_c123
      · rcases Nat.lt_or_ge k 136 with q | q
        · rcases Nat.lt_or_ge k 130 with q | q
          · rcases Nat.lt_or_ge k 127 with q | q
            · rcases Nat.lt_or_ge k 125 with q | q
              · have e : k = 124 := by omega
                subst e
                exact mm_c124
              · rcases Nat.lt_or_ge k 126 with q | q
                · have e : k = 125 := by omega
                  subst e
                  exact mm_c125
                · have e : k = 126 := by omega
                  subst e
                  exact mm_c126
            · rcases Nat.lt_or_ge k 128 with q | q
              · have e : k = 127 := by omega
                subst e
                exact mm_c127
              · rcases Nat.lt_or_ge k 129 with q | q
                · have e : k = 128 := by omega
                  subst e
                  exact mm_c128
                · have e : k = 129 := by omega
                  subst e
                  exact mm_c129
          · rcases Nat.lt_or_ge k 133 with q | q
            · rcases Nat.lt_or_ge k 131 with q | q
              · have e : k = 130 := by omega
                subst e
                exact mm_c130
              · rcases Nat.lt_or_ge k 132 with q | q
                · have e : k = 131 := by omega
                  subst e
                  exact mm_c131
                · have e : k = 132 := by omega
                  subst e
                  exact mm_c132
            · rcases Nat.lt_or_ge k 134 with q | q
              · have e : k = 133 := by omega
                subst e
                exact mm_c133
              · rcases Nat.lt_or_ge k 135 with q | q
                · have e : k = 134 := by omega
                  subst e
                  exact mm_c134
                · have e : k = 135 := by omega
                  subst e
                  exact mm_c135
        · rcases Nat.lt_or_ge k 142 with q | q
          · rcases Nat.lt_or_ge k 139 with q | q
            · rcases Nat.lt_or_ge k 137 with q | q
              · have e : k = 136 := by omega
                subst e
                exact mm_c136
              · rcases Nat.lt_or_ge k 138 with q | q
                · have e : k = 137 := by omega
                  subst e
                  exact mm_c137
                · have e : k = 138 := by omega
                  subst e
                  exact mm_c138
            · rcases Nat.lt_or_ge k 140 with q | q
              · have e : k = 139 := by omega
                subst e
                exact mm_c139
              · rcases Nat.lt_or_ge k 141 with q | q
                · have e : k = 140 := by omega
                  subst e
                  exact mm_c140
                · have e : k = 141 := by omega
                  subst e
                  exact mm_c141
          · rcases Nat.lt_or_ge k 145 with q | q
            · rcases Nat.lt_or_ge k 143 with q | q
              · have e : k = 142 := by omega
                subst e
                exact mm_c142
              · rcases Nat.lt_or_ge k 144 with q | q
                · have e : k = 143 := by omega
                  subst e
                  exact mm_c143
                · have e : k = 144 := by omega
                  subst e
                  exact mm_c144
            · rcases Nat.lt_or_ge k 147 with q | q
              · rcases Nat.lt_or_ge k 146 with q | q
                · have e : k = 145 := by omega
                  subst e
                  exact mm_c145
                · have e : k = 146 := by omega
                  subst e
                  exact mm_c146
              · rcases Nat.lt_or_ge k 148 with q | q
                · have e : k = 147 := by omega
                  subst e
                  exact mm_c147
                · have e : k = 148 := by omega
                  subst e
                  exact mm_c148
    · rcases Nat.lt_or_ge k 174 with q | q
      · rcases Nat.lt_or_ge k 161 with q | q
        · rcases Nat.lt_or_ge k 155 with q | q
          · rcases Nat.lt_or_ge k 152 with q | q
            · rcases Nat.lt_or_ge k 150 with q | q
              · have e : k = 149 := by omega
                subst e
                exact mm_c149
              · rcases Nat.lt_or_ge k 151 with q | q
                · have e : k = 150 := by omega
                  subst e
                  exact mm_c150
                · have e : k = 151 := by omega
                  subst e
                  exact mm_c151
            · rcases Nat.lt_or_ge k 153 with q | q
              · have e : k = 152 := by omega
                subst e
                exact mm_c152
              · rcases Nat.lt_or_ge k 154 with q | q
                · have e : k = 153 := by omega
                  subst e
                  exact mm_c153
                · have e : k = 154 := by omega
                  subst e
                  exact mm_c154
          · rcases Nat.lt_or_ge k 158 with q | q
            · rcases Nat.lt_or_ge k 156 with q | q
              · have e : k = 155 := by omega
                subst e
                exact mm_c155
              · rcases Nat.lt_or_ge k 157 with q | q
                · have e : k = 156 := by omega
                  subst e
                  exact mm_c156
                · have e : k = 157 := by omega
                  subst e
                  exact mm_c157
            · rcases Nat.lt_or_ge k 159 with q | q
              · have e : k = 158 := by omega
                subst e
                exact mm_c158
              · rcases Nat.lt_or_ge k 160 with q | q
                · have e : k = 159 := by omega
                  subst e
                  exact mm_c159
                · have e : k = 160 := by omega
                  subst e
                  exact mm_c160
        · rcases Nat.lt_or_ge k 167 with q | q
          · rcases Nat.lt_or_ge k 164 with q | q
            · rcases Nat.lt_or_ge k 162 with q | q
              · have e : k = 161 := by omega
                subst e
                exact mm_c161
              · rcases Nat.lt_or_ge k 163 with q | q
                · have e : k = 162 := by omega
                  subst e
                  exact mm_c162
                · have e : k = 163 := by omega
                  subst e
                  exact mm_c163
            · rcases Nat.lt_or_ge k 165 with q | q
              · have e : k = 164 := by omega
                subst e
                exact mm_c164
              · rcases Nat.lt_or_ge k 166 with q | q
                · have e : k = 165 := by omega
                  subst e
                  exact mm_c165
                · have e : k = 166 := by omega
                  subst e
                  exact mm_c166
          · rcases Nat.lt_or_ge k 170 with q | q
            · rcases Nat.lt_or_ge k 168 with q | q
              · have e : k = 167 := by omega
                subst e
                exact mm_c167
              · rcases Nat.lt_or_ge k 169 with q | q
                · have e : k = 168 := by omega
                  subst e
                  exact mm_c168
                · have e : k = 169 := by omega
                  subst e
                  exact mm_c169
            · rcases Nat.lt_or_ge k 172 with q | q
              · rcases Nat.lt_or_ge k 171 with q | q
                · have e : k = 170 := by omega
                  subst e
                  exact mm_c170
                · have e : k = 171 := by omega
                  subst e
                  exact mm_c171
              · rcases Nat.lt_or_ge k 173 with q | q
                · have e : k = 172 := by omega
                  subst e
                  exact mm_c172
                · have e : k = 173 := by omega
                  subst e
                  exact mm_c173
      · rcases Nat.lt_or_ge k 186 with q | q
        · rcases Nat.lt_or_ge k 180 with q | q
          · rcases Nat.lt_or_ge k 177 with q | q
            · rcases Nat.lt_or_ge k 175 with q | q
              · have e : k = 174 := by omega
                subst e
                exact mm_c174
              · rcases Nat.lt_or_ge k 176 with q | q
                · have e : k = 175 := by omega
                  subst e
                  exact mm_c175
                · have e : k = 176 := by omega
                  subst e
                  exact mm_c176
            · rcases Nat.lt_or_ge k 178 with q | q
              · have e : k = 177 := by omega
                subst e
                exact mm_c177
              · rcases Nat.lt_or_ge k 179 with q | q
                · have e : k = 178 := by omega
                  subst e
                  exact mm_c178
                · have e : k = 179 := by omega
                  subst e
                  exact mm_c179
          · rcases Nat.lt_or_ge k 183 with q | q
            · rcases Nat.lt_or_ge k 181 with q | q
              · have e : k = 180 := by omega
                subst e
                exact mm_c180
              · rcases Nat.lt_or_ge k 182 with q | q
                · have e : k = 181 := by omega
                  subst e
                  exact mm_c181
                · have e : k = 182 := by omega
                  subst e
                  exact mm_c182
            · rcases Nat.lt_or_ge k 184 with q | q
              · have e : k = 183 := by omega
                subst e
                exact mm_c183
              · rcases Nat.lt_or_ge k 185 with q | q
                · have e : k = 184 := by omega
                  subst e
                  exact mm_c184
                · have e : k = 185 := by omega
                  subst e
                  exact mm_c185
        · rcases Nat.lt_or_ge k 192 with q | q
          · rcases Nat.lt_or_ge k 189 with q | q
            · rcases Nat.lt_or_ge k 187 with q | q
              · have e : k = 186 := by omega
                subst e
                exact mm_c186
              · rcases Nat.lt_or_ge k 188 with q | q
                · have e : k = 187 := by omega
                  subst e
                  exact mm_c187
                · have e : k = 188 := by omega
                  subst e
                  exact mm_c188
            · rcases Nat.lt_or_ge k 190 with q | q
              · have e : k = 189 := by omega
                subst e
                exact mm_c189
              · rcases Nat.lt_or_ge k 191 with q | q
                · have e : k = 190 := by omega
                  subst e
                  exact mm_c190
                · have e : k = 191 := by omega
                  subst e
                  exact mm_c191
          · rcases Nat.lt_or_ge k 195 with q | q
            · rcases Nat.lt_or_ge k 193 with q | q
              · have e : k = 192 := by omega
                subst e
                exact mm_c192
              · rcases Nat.lt_or_ge k 194 with q | q
                · have e : k = 193 := by omega
                  subst e
                  exact mm_c193
                · have e : k = 194 := by omega
                  subst e
                  exact mm_c194
            · rcases Nat.lt_or_ge k 197 with q | q
              · rcases Nat.lt_or_ge k 196 with q | q
                · have e : k = 195 := by omega
                  subst e
                  exact mm_c195
                · have e : k = 196 := by omega
                  subst e
                  exact mm_c196
              · rcases Nat.lt_or_ge k 198 with q | q
                · have e : k = 197 := by omega
                  subst e
                  exact mm_c197
                · have e : k = 198 := by omega
                  subst e
                  exact mm_c198
