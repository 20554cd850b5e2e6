/-! every method is checked -/
theorem mm_cka (k : Nat) (h : k < 124) : mm_ckk k = true := by
  rcases Nat.lt_or_ge k 62 with q | q
  · rcases Nat.lt_or_ge k 31 with q | q
    · rcases Nat.lt_or_ge k 15 with q | q
      · rcases Nat.lt_or_ge k 7 with q | q
        · rcases Nat.lt_or_ge k 3 with q | q
          · rcases Nat.lt_or_ge k 1 with q | q
            · have e : k = 0 := by omega
              subst e
              exact mm_c0
            · rcases Nat.lt_or_ge k 2 with q | q
              · have e : k = 1 := by omega
                subst e
                exact mm_c1
              · have e : k = 2 := by omega
                subst e
                exact mm_c2
          · rcases Nat.lt_or_ge k 5 with q | q
            · rcases Nat.lt_or_ge k 4 with q | q
              · have e : k = 3 := by omega
                subst e
                exact mm_c3
              · have e : k = 4 := by omega
                subst e
                exact mm_c4
            · rcases Nat.lt_or_ge k 6 with q | q
              · have e : k = 5 := by omega
                subst e
                exact mm_c5
              · have e : k = 6 := by omega
                subst e
                exact mm_c6
        · rcases Nat.lt_or_ge k 11 with q | q
          · rcases Nat.lt_or_ge k 9 with q | q
            · rcases Nat.lt_or_ge k 8 with q | q
              · have e : k = 7 := by omega
                subst e
                exact mm_c7
              · have e : k = 8 := by omega
                subst e
                exact mm_c8
            · rcases Nat.lt_or_ge k 10 with q | q
              · have e : k = 9 := by omega
                subst e
                exact mm_c9
              · have e : k = 10 := by omega
                subst e
                exact mm_c10
          · rcases Nat.lt_or_ge k 13 with q | q
            · rcases Nat.lt_or_ge k 12 with q | q
              · have e : k = 11 := by omega
                subst e
                exact mm_c11
              · have e : k = 12 := by omega
                subst e
                exact mm_c12
            · rcases Nat.lt_or_ge k 14 with q | q
              · have e : k = 13 := by omega
                subst e
                exact mm_c13
              · have e : k = 14 := by omega
                subst e
                exact mm_c14
      · rcases Nat.lt_or_ge k 23 with q | q
        · rcases Nat.lt_or_ge k 19 with q | q
          · rcases Nat.lt_or_ge k 17 with q | q
            · rcases Nat.lt_or_ge k 16 with q | q
              · have e : k = 15 := by omega
                subst e
                exact mm_c15
              · have e : k = 16 := by omega
                subst e
                exact mm_c16
            · rcases Nat.lt_or_ge k 18 with q | q
              · have e : k = 17 := by omega
                subst e
                exact mm_c17
              · have e : k = 18 := by omega
                subst e
                exact mm_c18
          · rcases Nat.lt_or_ge k 21 with q | q
            · rcases Nat.lt_or_ge k 20 with q | q
              · have e : k = 19 := by omega
                subst e
                exact mm_c19
              · have e : k = 20 := by omega
                subst e
                exact mm_c20
            · rcases Nat.lt_or_ge k 22 with q | q
              · have e : k = 21 := by omega
                subst e
                exact mm_c21
              · have e : k = 22 := by omega
                subst e
                exact mm_c22
        · rcases Nat.lt_or_ge k 27 with q | q
          · rcases Nat.lt_or_ge k 25 with q | q
            · rcases Nat.lt_or_ge k 24 with q | q
              · have e : k = 23 := by omega
                subst e
                exact mm_c23
              · have e : k = 24 := by omega
                subst e
                exact mm_c24
            · rcases Nat.lt_or_ge k 26 with q | q
              · have e : k = 25 := by omega
                subst e
                exact mm_c25
              · have e : k = 26 := by omega
                subst e
                exact mm_c26
          · rcases Nat.lt_or_ge k 29 with q | q
            · rcases Nat.lt_or_ge k 28 with q | q
              · have e : k = 27 := by omega
                subst e
                exact mm_c27
              · have e : k = 28 := by omega
                subst e
                exact mm_c28
            · rcases Nat.lt_or_ge k 30 with q | q
              · have e : k = 29 := by omega
                subst e
                exact mm_c29
              · have e : k = 30 := by omega
                subst e
                exact mm_c30
    · rcases Nat.lt_or_ge k 46 with q | q
      · rcases Nat.lt_or_ge k 38 with q | q
        · rcases Nat.lt_or_ge k 34 with q | q
          · rcases Nat.lt_or_ge k 32 with q | q
            · have e : k = 31 := by omega
              subst e
              exact mm_c31
            · rcases Nat.lt_or_ge k 33 with q | q
              · have e : k = 32 := by omega
                subst e
                exact mm_c32
              · have e : k = 33 := by omega
                subst e
                exact mm_c33
          · rcases Nat.lt_or_ge k 36 with q | q
            · rcases Nat.lt_or_ge k 35 with q | q
              · have e : k = 34 := by omega
                subst e
                exact mm_c34
              · have e : k = 35 := by omega
                subst e
                exact mm_c35
            · rcases Nat.lt_or_ge k 37 with q | q
              · have e : k = 36 := by omega
                subst e
                exact mm_c36
              · have e : k = 37 := by omega
                subst e
                exact mm_c37
        · rcases Nat.lt_or_ge k 42 with q | q
          · rcases Nat.lt_or_ge k 40 with q | q
            · rcases Nat.lt_or_ge k 39 with q | q
              · have e : k = 38 := by omega
                subst e
                exact mm_c38
              · have e : k = 39 := by omega
                subst e
                exact mm_c39
            · rcases Nat.lt_or_ge k 41 with q | q
              · have e : k = 40 := by omega
                subst e
                exact mm_c40
              · have e : k = 41 := by omega
                subst e
                exact mm_c41
          · rcases Nat.lt_or_ge k 44 with q | q
            · rcases Nat.lt_or_ge k 43 with q | q
              · have e : k = 42 := by omega
                subst e
                exact mm_c42
              · have e : k = 43 := by omega
                subst e
                exact mm_c43
            · rcases Nat.lt_or_ge k 45 with q | q
              · have e : k = 44 := by omega
                subst e
                exact mm_c44
              · have e : k = 45 := by omega
                subst e
                exact mm_c45
      · rcases Nat.lt_or_ge k 54 with q | q
        · rcases Nat.lt_or_ge k 50 with q | q
          · rcases Nat.lt_or_ge k 48 with q | q
            · rcases Nat.lt_or_ge k 47 with q | q
              · have e : k = 46 := by omega
                subst e
                exact mm_c46
              · have e : k = 47 := by omega
                subst e
                exact mm_c47
            · rcases Nat.lt_or_ge k 49 with q | q
              · have e : k = 48 := by omega
                subst e
                exact mm_c48
              · have e : k = 49 := by omega
                subst e
                exact mm_c49
          · rcases Nat.lt_or_ge k 52 with q | q
            · rcases Nat.lt_or_ge k 51 with q | q
              · have e : k = 50 := by omega
                subst e
                exact mm_c50
              · have e : k = 51 := by omega
                subst e
                exact mm_c51
            · rcases Nat.lt_or_ge k 53 with q | q
              · have e : k = 52 := by omega
                subst e
                exact mm_c52
              · have e : k = 53 := by omega
                subst e
                exact mm_c53
        · rcases Nat.lt_or_ge k 58 with q | q
          · rcases Nat.lt_or_ge k 56 with q | q
            · rcases Nat.lt_or_ge k 55 with q | q
              · have e : k = 54 := by omega
                subst e
                exact mm_c54
              · have e : k = 55 := by omega
                subst e
                exact mm_c55
            · rcases Nat.lt_or_ge k 57 with q | q
              · have e : k = 56 := by omega
                subst e
                exact mm_c56
              · have e : k = 57 := by omega
                subst e
                exact mm_c57
          · rcases Nat.lt_or_ge k 60 with q | q
            · rcases Nat.lt_or_ge k 59 with q | q
              · have e : k = 58 := by omega
                subst e
                exact mm_c58
              · have e : k = 59 := by omega
                subst e
                exact mm_c59
            · rcases Nat.lt_or_ge k 61 with q | q
              · have e : k = 60 := by omega
                subst e
                exact mm_c60
              · have e : k = 61 := by omega
                subst e
                exact mm_c61
  · rcases Nat.lt_or_ge k 93 with q | q
    · rcases Nat.lt_or_ge k 77 with q | q
      · rcases Nat.lt_or_ge k 69 with q | q
        · rcases Nat.lt_or_ge k 65 with q | q
          · rcases Nat.lt_or_ge k 63 with q | q
            · have e : k = 62 := by omega
              subst e
              exact mm_c62
            · rcases Nat.lt_or_ge k 64 with q | q
              · have e : k = 63 := by omega
                subst e
                exact mm_c63
              · have e : k = 64 := by omega
                subst e
                exact mm_c64
          · rcases Nat.lt_or_ge k 67 with q | q
            · rcases Nat.lt_or_ge k 66 with q | q
              · have e : k = 65 := by omega
                subst e
                exact mm_c65
              · have e : k = 66 := by omega
                subst e
                exact mm_c66
            · rcases Nat.lt_or_ge k 68 with q | q
              · have e : k = 67 := by omega
                subst e
                exact mm_c67
              · have e : k = 68 := by omega
                subst e
                exact mm_c68
        · rcases Nat.lt_or_ge k 73 with q | q
          · rcases Nat.lt_or_ge k 71 with q | q
            · rcases Nat.lt_or_ge k 70 with q | q
              · have e : k = 69 := by omega
                subst e
                exact mm_c69
              · have e : k = 70 := by omega
                subst e
                exact mm_c70
            · rcases Nat.lt_or_ge k 72 with q | q
              · have e : k = 71 := by omega
                subst e
                exact mm_c71
              · have e : k = 72 := by omega
                subst e
                exact mm_c72
          · rcases Nat.lt_or_ge k 75 with q | q
            · rcases Nat.lt_or_ge k 74 with q | q
              · have e : k = 73 := by omega
                subst e
                exact mm_c73
              · have e : k = 74 := by omega
                subst e
                exact mm_c74
            · rcases Nat.lt_or_ge k 76 with q | q
              · have e : k = 75 := by omega
                subst e
                exact mm_c75
              · have e : k = 76 := by omega
                subst e
                exact mm_c76
      · rcases Nat.lt_or_ge k 85 with q | q
        · rcases Nat.lt_or_ge k 81 with q | q
          · rcases Nat.lt_or_ge k 79 with q | q
            · rcases Nat.lt_or_ge k 78 with q | q
              · have e : k = 77 := by omega
                subst e
                exact mm_c77
              · have e : k = 78 := by omega
                subst e
                exact mm_c78
            · rcases Nat.lt_or_ge k 80 with q | q
              · have e : k = 79 := by omega
                subst e
                exact mm_c79
              · have e : k = 80 := by omega
                subst e
                exact mm_c80
          · rcases Nat.lt_or_ge k 83 with q | q
            · rcases Nat.lt_or_ge k 82 with q | q
              · have e : k = 81 := by omega
                subst e
                exact mm_c81
              · have e : k = 82 := by omega
                subst e
                exact mm_c82
            · rcases Nat.lt_or_ge k 84 with q | q
              · have e : k = 83 := by omega
                subst e
                exact mm_c83
              · have e : k = 84 := by omega
                subst e
                exact mm_c84
        · rcases Nat.lt_or_ge k 89 with q | q
          · rcases Nat.lt_or_ge k 87 with q | q
            · rcases Nat.lt_or_ge k 86 with q | q
              · have e : k = 85 := by omega
                subst e
                exact mm_c85
              · have e : k = 86 := by omega
                subst e
                exact mm_c86
            · rcases Nat.lt_or_ge k 88 with q | q
              · have e : k = 87 := by omega
                subst e
                exact mm_c87
              · have e : k = 88 := by omega
                subst e
                exact mm_c88
          · rcases Nat.lt_or_ge k 91 with q | q
            · rcases Nat.lt_or_ge k 90 with q | q
              · have e : k = 89 := by omega
                subst e
                exact mm_c89
              · have e : k = 90 := by omega
                subst e
                exact mm_c90
            · rcases Nat.lt_or_ge k 92 with q | q
              · have e : k = 91 := by omega
                subst e
                exact mm_c91
              · have e : k = 92 := by omega
                subst e
                exact mm_c92
    · rcases Nat.lt_or_ge k 108 with q | q
      · rcases Nat.lt_or_ge k 100 with q | q
        · rcases Nat.lt_or_ge k 96 with q | q
          · rcases Nat.lt_or_ge k 94 with q | q
            · have e : k = 93 := by omega
              subst e
              exact mm_c93
            · rcases Nat.lt_or_ge k 95 with q | q
              · have e : k = 94 := by omega
                subst e
                exact mm_c94
              · have e : k = 95 := by omega
                subst e
                exact mm_c95
          · rcases Nat.lt_or_ge k 98 with q | q
            · rcases Nat.lt_or_ge k 97 with q | q
              · have e : k = 96 := by omega
                subst e
                exact mm_c96
              · have e : k = 97 := by omega
                subst e
                exact mm_c97
            · rcases Nat.lt_or_ge k 99 with q | q
              · have e : k = 98 := by omega
                subst e
                exact mm_c98
              · have e : k = 99 := by omega
                subst e
                exact mm_c99
        · rcases Nat.lt_or_ge k 104 with q | q
          · rcases Nat.lt_or_ge k 102 with q | q
            · rcases Nat.lt_or_ge k 101 with q | q
              · have e : k = 100 := by omega
                subst e
                exact mm_c100
              · have e : k = 101 := by omega
                subst e
                exact mm_c101
            · rcases Nat.lt_or_ge k 103 with q | q
              · have e : k = 102 := by omega
                subst e
                exact mm_c102
              · have e : k = 103 := by omega
                subst e
                exact mm_c103
          · rcases Nat.lt_or_ge k 106 with q | q
            · rcases Nat.lt_or_ge k 105 with q | q
              · have e : k = 104 := by omega
                subst e
                exact mm_c104
              · have e : k = 105 := by omega
                subst e
                exact mm_c105
            · rcases Nat.lt_or_ge k 107 with q | q
              · have e : k = 106 := by omega
                subst e
                exact mm_c106
              · have e : k = 107 := by omega
                subst e
                exact mm_c107
      · rcases Nat.lt_or_ge k 116 with q | q
        · rcases Nat.lt_or_ge k 112 with q | q
          · rcases Nat.lt_or_ge k 110 with q | q
            · rcases Nat.lt_or_ge k 109 with q | q
              · have e : k = 108 := by omega
                subst e
                exact mm_c108
              · have e : k = 109 := by omega
                subst e
                exact mm_c109
            · rcases Nat.lt_or_ge k 111 with q | q
              · have e : k = 110 := by omega
                subst e
                exact mm_c110
              · have e : k = 111 := by omega
                subst e
                exact mm_c111
          · rcases Nat.lt_or_ge k 114 with q | q
            · rcases Nat.lt_or_ge k 113 with q | q
              · have e : k = 112 := by omega
                subst e
                exact mm_c112
              · have e : k = 113 := by omega
                subst e
                exact mm_c113
            · rcases Nat.lt_or_ge k 115 with q | q
              · have e : k = 114 := by omega
                subst e
                exact mm_c114
              · have e : k = 115 := by omega
                subst e
                exact mm_c115
        · rcases Nat.lt_or_ge k 120 with q | q
          · rcases Nat.lt_or_ge k 118 with q | q
            · rcases Nat.lt_or_ge k 117 with q | q
              · have e : k = 116 := by omega
                subst e
                exact mm_c116
              · have e : k = 117 := by omega
                subst e
                exact mm_c117
            · rcases Nat.lt_or_ge k 119 with q | q
              · have e : k = 118 := by omega
                subst e
                exact mm_c118
              · have e : k = 119 := by omega
                subst e
                exact mm_c119
          · rcases Nat.lt_or_ge k 122 with q | q
            · rcases Nat.lt_or_ge k 121 with q | q
              · have e : k = 120 := by omega
                subst e
                exact mm_c120
              · have e : k = 121 := by omega
                subst e
                exact mm_c121
            · rcases Nat.lt_or_ge k 123 with q | q
              · have e : k = 122 := by omega
                subst e
                exact mm_c122
              · have e : k = 123 := by omega
                subst e
                exact mm_c123
