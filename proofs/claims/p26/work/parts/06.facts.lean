theorem mp_all : ∀ k, k < 111 → mP k := by
  intro k h
  rcases Nat.lt_or_ge k 55 with q | q
  ·
    rcases Nat.lt_or_ge k 27 with q | q
    ·
      rcases Nat.lt_or_ge k 13 with q | q
      ·
        rcases Nat.lt_or_ge k 6 with q | q
        ·
          rcases Nat.lt_or_ge k 3 with q | q
          ·
            rcases Nat.lt_or_ge k 1 with q | q
            ·
              have e : k = 0 := by omega
              subst e
              exact mp_0
            ·
              rcases Nat.lt_or_ge k 2 with q | q
              ·
                have e : k = 1 := by omega
                subst e
                exact mp_1
              ·
                have e : k = 2 := by omega
                subst e
                exact mp_2
          ·
            rcases Nat.lt_or_ge k 4 with q | q
            ·
              have e : k = 3 := by omega
              subst e
              exact mp_3
            ·
              rcases Nat.lt_or_ge k 5 with q | q
              ·
                have e : k = 4 := by omega
                subst e
                exact mp_4
              ·
                have e : k = 5 := by omega
                subst e
                exact mp_5
        ·
          rcases Nat.lt_or_ge k 9 with q | q
          ·
            rcases Nat.lt_or_ge k 7 with q | q
            ·
              have e : k = 6 := by omega
              subst e
              exact mp_6
            ·
              rcases Nat.lt_or_ge k 8 with q | q
              ·
                have e : k = 7 := by omega
                subst e
                exact mp_7
              ·
                have e : k = 8 := by omega
                subst e
                exact mp_8
          ·
            rcases Nat.lt_or_ge k 11 with q | q
            ·
              rcases Nat.lt_or_ge k 10 with q | q
              ·
                have e : k = 9 := by omega
                subst e
                exact mp_9
              ·
                have e : k = 10 := by omega
                subst e
                exact mp_10
            ·
              rcases Nat.lt_or_ge k 12 with q | q
              ·
                have e : k = 11 := by omega
                subst e
                exact mp_11
              ·
                have e : k = 12 := by omega
                subst e
                exact mp_12
      ·
        rcases Nat.lt_or_ge k 20 with q | q
        ·
          rcases Nat.lt_or_ge k 16 with q | q
          ·
            rcases Nat.lt_or_ge k 14 with q | q
            ·
              have e : k = 13 := by omega
              subst e
              exact mp_13
            ·
              rcases Nat.lt_or_ge k 15 with q | q
              ·
                have e : k = 14 := by omega
                subst e
                exact mp_14
              ·
                have e : k = 15 := by omega
                subst e
                exact mp_15
          ·
            rcases Nat.lt_or_ge k 18 with q | q
            ·
              rcases Nat.lt_or_ge k 17 with q | q
              ·
                have e : k = 16 := by omega
                subst e
                exact mp_16
              ·
                have e : k = 17 := by omega
                subst e
                exact mp_17
            ·
              rcases Nat.lt_or_ge k 19 with q | q
              ·
                have e : k = 18 := by omega
                subst e
                exact mp_18
              ·
                have e : k = 19 := by omega
                subst e
                exact mp_19
        ·
          rcases Nat.lt_or_ge k 23 with q | q
          ·
            rcases Nat.lt_or_ge k 21 with q | q
            ·
              have e : k = 20 := by omega
              subst e
              exact mp_20
            ·
              rcases Nat.lt_or_ge k 22 with q | q
              ·
                have e : k = 21 := by omega
                subst e
                exact mp_21
              ·
                have e : k = 22 := by omega
                subst e
                exact mp_22
          ·
            rcases Nat.lt_or_ge k 25 with q | q
            ·
              rcases Nat.lt_or_ge k 24 with q | q
              ·
                have e : k = 23 := by omega
                subst e
                exact mp_23
              ·
                have e : k = 24 := by omega
                subst e
                exact mp_24
            ·
              rcases Nat.lt_or_ge k 26 with q | q
              ·
                have e : k = 25 := by omega
                subst e
                exact mp_25
              ·
                have e : k = 26 := by omega
                subst e
                exact mp_26
    ·
      rcases Nat.lt_or_ge k 41 with q | q
      ·
        rcases Nat.lt_or_ge k 34 with q | q
        ·
          rcases Nat.lt_or_ge k 30 with q | q
          ·
            rcases Nat.lt_or_ge k 28 with q | q
            ·
              have e : k = 27 := by omega
              subst e
              exact mp_27
            ·
              rcases Nat.lt_or_ge k 29 with q | q
              ·
                have e : k = 28 := by omega
                subst e
                exact mp_28
              ·
                have e : k = 29 := by omega
                subst e
                exact mp_29
          ·
            rcases Nat.lt_or_ge k 32 with q | q
            ·
              rcases Nat.lt_or_ge k 31 with q | q
              ·
                have e : k = 30 := by omega
                subst e
                exact mp_30
              ·
                have e : k = 31 := by omega
                subst e
                exact mp_31
            ·
              rcases Nat.lt_or_ge k 33 with q | q
              ·
                have e : k = 32 := by omega
                subst e
                exact mp_32
              ·
                have e : k = 33 := by omega
                subst e
                exact mp_33
        ·
          rcases Nat.lt_or_ge k 37 with q | q
          ·
            rcases Nat.lt_or_ge k 35 with q | q
            ·
              have e : k = 34 := by omega
              subst e
              exact mp_34
            ·
              rcases Nat.lt_or_ge k 36 with q | q
              ·
                have e : k = 35 := by omega
                subst e
                exact mp_35
              ·
                have e : k = 36 := by omega
                subst e
                exact mp_36
          ·
            rcases Nat.lt_or_ge k 39 with q | q
            ·
              rcases Nat.lt_or_ge k 38 with q | q
              ·
                have e : k = 37 := by omega
                subst e
                exact mp_37
              ·
                have e : k = 38 := by omega
                subst e
                exact mp_38
            ·
              rcases Nat.lt_or_ge k 40 with q | q
              ·
                have e : k = 39 := by omega
                subst e
                exact mp_39
              ·
                have e : k = 40 := by omega
                subst e
                exact mp_40
      ·
        rcases Nat.lt_or_ge k 48 with q | q
        ·
          rcases Nat.lt_or_ge k 44 with q | q
          ·
            rcases Nat.lt_or_ge k 42 with q | q
            ·
              have e : k = 41 := by omega
              subst e
              exact mp_41
            ·
              rcases Nat.lt_or_ge k 43 with q | q
              ·
                have e : k = 42 := by omega
                subst e
                exact mp_42
              ·
                have e : k = 43 := by omega
                subst e
                exact mp_43
          ·
            rcases Nat.lt_or_ge k 46 with q | q
            ·
              rcases Nat.lt_or_ge k 45 with q | q
              ·
                have e : k = 44 := by omega
                subst e
                exact mp_44
              ·
                have e : k = 45 := by omega
                subst e
                exact mp_45
            ·
              rcases Nat.lt_or_ge k 47 with q | q
              ·
                have e : k = 46 := by omega
                subst e
                exact mp_46
              ·
                have e : k = 47 := by omega
                subst e
                exact mp_47
        ·
          rcases Nat.lt_or_ge k 51 with q | q
          ·
            rcases Nat.lt_or_ge k 49 with q | q
            ·
              have e : k = 48 := by omega
              subst e
              exact mp_48
            ·
              rcases Nat.lt_or_ge k 50 with q | q
              ·
                have e : k = 49 := by omega
                subst e
                exact mp_49
              ·
                have e : k = 50 := by omega
                subst e
                exact mp_50
          ·
            rcases Nat.lt_or_ge k 53 with q | q
            ·
              rcases Nat.lt_or_ge k 52 with q | q
              ·
                have e : k = 51 := by omega
                subst e
                exact mp_51
              ·
                have e : k = 52 := by omega
                subst e
                exact mp_52
            ·
              rcases Nat.lt_or_ge k 54 with q | q
              ·
                have e : k = 53 := by omega
                subst e
                exact mp_53
              ·
                have e : k = 54 := by omega
                subst e
                exact mp_54
  ·
    rcases Nat.lt_or_ge k 83 with q | q
    ·
      rcases Nat.lt_or_ge k 69 with q | q
      ·
        rcases Nat.lt_or_ge k 62 with q | q
        ·
          rcases Nat.lt_or_ge k 58 with q | q
          ·
            rcases Nat.lt_or_ge k 56 with q | q
            ·
              have e : k = 55 := by omega
              subst e
              exact mp_55
            ·
              rcases Nat.lt_or_ge k 57 with q | q
              ·
                have e : k = 56 := by omega
                subst e
                exact mp_56
              ·
                have e : k = 57 := by omega
                subst e
                exact mp_57
          ·
            rcases Nat.lt_or_ge k 60 with q | q
            ·
              rcases Nat.lt_or_ge k 59 with q | q
              ·
                have e : k = 58 := by omega
                subst e
                exact mp_58
              ·
                have e : k = 59 := by omega
                subst e
                exact mp_59
            ·
              rcases Nat.lt_or_ge k 61 with q | q
              ·
                have e : k = 60 := by omega
                subst e
                exact mp_60
              ·
                have e : k = 61 := by omega
                subst e
                exact mp_61
        ·
          rcases Nat.lt_or_ge k 65 with q | q
          ·
            rcases Nat.lt_or_ge k 63 with q | q
            ·
              have e : k = 62 := by omega
              subst e
              exact mp_62
            ·
              rcases Nat.lt_or_ge k 64 with q | q
              ·
                have e : k = 63 := by omega
                subst e
                exact mp_63
              ·
                have e : k = 64 := by omega
                subst e
                exact mp_64
          ·
            rcases Nat.lt_or_ge k 67 with q | q
            ·
              rcases Nat.lt_or_ge k 66 with q | q
              ·
                have e : k = 65 := by omega
                subst e
                exact mp_65
              ·
                have e : k = 66 := by omega
                subst e
                exact mp_66
            ·
              rcases Nat.lt_or_ge k 68 with q | q
              ·
                have e : k = 67 := by omega
                subst e
                exact mp_67
              ·
                have e : k = 68 := by omega
                subst e
                exact mp_68
      ·
        rcases Nat.lt_or_ge k 76 with q | q
        ·
          rcases Nat.lt_or_ge k 72 with q | q
          ·
            rcases Nat.lt_or_ge k 70 with q | q
            ·
              have e : k = 69 := by omega
              subst e
              exact mp_69
            ·
              rcases Nat.lt_or_ge k 71 with q | q
              ·
                have e : k = 70 := by omega
                subst e
                exact mp_70
              ·
                have e : k = 71 := by omega
                subst e
                exact mp_71
          ·
            rcases Nat.lt_or_ge k 74 with q | q
            ·
              rcases Nat.lt_or_ge k 73 with q | q
              ·
                have e : k = 72 := by omega
                subst e
                exact mp_72
              ·
                have e : k = 73 := by omega
                subst e
                exact mp_73
            ·
              rcases Nat.lt_or_ge k 75 with q | q
              ·
                have e : k = 74 := by omega
                subst e
                exact mp_74
              ·
                have e : k = 75 := by omega
                subst e
                exact mp_75
        ·
          rcases Nat.lt_or_ge k 79 with q | q
          ·
            rcases Nat.lt_or_ge k 77 with q | q
            ·
              have e : k = 76 := by omega
              subst e
              exact mp_76
            ·
              rcases Nat.lt_or_ge k 78 with q | q
              ·
                have e : k = 77 := by omega
                subst e
                exact mp_77
              ·
                have e : k = 78 := by omega
                subst e
                exact mp_78
          ·
            rcases Nat.lt_or_ge k 81 with q | q
            ·
              rcases Nat.lt_or_ge k 80 with q | q
              ·
                have e : k = 79 := by omega
                subst e
                exact mp_79
              ·
                have e : k = 80 := by omega
                subst e
                exact mp_80
            ·
              rcases Nat.lt_or_ge k 82 with q | q
              ·
                have e : k = 81 := by omega
                subst e
                exact mp_81
              ·
                have e : k = 82 := by omega
                subst e
                exact mp_82
    ·
      rcases Nat.lt_or_ge k 97 with q | q
      ·
        rcases Nat.lt_or_ge k 90 with q | q
        ·
          rcases Nat.lt_or_ge k 86 with q | q
          ·
            rcases Nat.lt_or_ge k 84 with q | q
            ·
              have e : k = 83 := by omega
              subst e
              exact mp_83
            ·
              rcases Nat.lt_or_ge k 85 with q | q
              ·
                have e : k = 84 := by omega
                subst e
                exact mp_84
              ·
                have e : k = 85 := by omega
                subst e
                exact mp_85
          ·
            rcases Nat.lt_or_ge k 88 with q | q
            ·
              rcases Nat.lt_or_ge k 87 with q | q
              ·
                have e : k = 86 := by omega
                subst e
                exact mp_86
              ·
                have e : k = 87 := by omega
                subst e
                exact mp_87
            ·
              rcases Nat.lt_or_ge k 89 with q | q
              ·
                have e : k = 88 := by omega
                subst e
                exact mp_88
              ·
                have e : k = 89 := by omega
                subst e
                exact mp_89
        ·
          rcases Nat.lt_or_ge k 93 with q | q
          ·
            rcases Nat.lt_or_ge k 91 with q | q
            ·
              have e : k = 90 := by omega
              subst e
              exact mp_90
            ·
              rcases Nat.lt_or_ge k 92 with q | q
              ·
                have e : k = 91 := by omega
                subst e
                exact mp_91
              ·
                have e : k = 92 := by omega
                subst e
                exact mp_92
          ·
            rcases Nat.lt_or_ge k 95 with q | q
            ·
              rcases Nat.lt_or_ge k 94 with q | q
              ·
                have e : k = 93 := by omega
                subst e
                exact mp_93
              ·
                have e : k = 94 := by omega
                subst e
                exact mp_94
            ·
              rcases Nat.lt_or_ge k 96 with q | q
              ·
                have e : k = 95 := by omega
                subst e
                exact mp_95
              ·
                have e : k = 96 := by omega
                subst e
                exact mp_96
      ·
        rcases Nat.lt_or_ge k 104 with q | q
        ·
          rcases Nat.lt_or_ge k 100 with q | q
          ·
            rcases Nat.lt_or_ge k 98 with q | q
            ·
              have e : k = 97 := by omega
              subst e
              exact mp_97
            ·
              rcases Nat.lt_or_ge k 99 with q | q
              ·
                have e : k = 98 := by omega
                subst e
                exact mp_98
              ·
                have e : k = 99 := by omega
                subst e
                exact mp_99
          ·
            rcases Nat.lt_or_ge k 102 with q | q
            ·
              rcases Nat.lt_or_ge k 101 with q | q
              ·
                have e : k = 100 := by omega
                subst e
                exact mp_100
              ·
                have e : k = 101 := by omega
                subst e
                exact mp_101
            ·
              rcases Nat.lt_or_ge k 103 with q | q
              ·
                have e : k = 102 := by omega
                subst e
                exact mp_102
              ·
                have e : k = 103 := by omega
                subst e
                exact mp_103
        ·
          rcases Nat.lt_or_ge k 107 with q | q
          ·
            rcases Nat.lt_or_ge k 105 with q | q
            ·
              have e : k = 104 := by omega
              subst e
              exact mp_104
            ·
              rcases Nat.lt_or_ge k 106 with q | q
              ·
                have e : k = 105 := by omega
                subst e
                exact mp_105
              ·
                have e : k = 106 := by omega
                subst e
                exact mp_106
          ·
            rcases Nat.lt_or_ge k 109 with q | q
            ·
              rcases Nat.lt_or_ge k 108 with q | q
              ·
                have e : k = 107 := by omega
                subst e
                exact mp_107
              ·
                have e : k = 108 := by omega
                subst e
                exact mp_108
            ·
              rcases Nat.lt_or_ge k 110 with q | q
              ·
                have e : k = 109 := by omega
                subst e
                exact mp_109
              ·
                have e : k = 110 := by omega
                subst e
                exact mp_110
