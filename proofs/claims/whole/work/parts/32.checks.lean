/-! ===== every method is checked ===== -/
theorem snA0 : snAll 0 = true := snAllF_ok (ci := 0) (own := "RunForItLaw") (by decide +kernel) snTF0 snTM0 (by decide +kernel)
theorem snA1 : snAll 1 = true := snAllF_ok (ci := 1) (own := "RunForIt$Best") (by decide +kernel) snTF1 snTM1 (by decide +kernel)
theorem snA2 : snAll 2 = true := snAllF_ok (ci := 1) (own := "RunForIt$Best") (by decide +kernel) snTF1 snTM1 (by decide +kernel)
theorem snA3 : snAll 3 = true := snAllF_ok (ci := 1) (own := "RunForIt$Best") (by decide +kernel) snTF1 snTM1 (by decide +kernel)
theorem snA4 : snAll 4 = true := snAllF_ok (ci := 1) (own := "RunForIt$Best") (by decide +kernel) snTF1 snTM1 (by decide +kernel)
theorem snA5 : snAll 5 = true := snAllF_ok (ci := 1) (own := "RunForIt$Best") (by decide +kernel) snTF1 snTM1 (by decide +kernel)
theorem snA6 : snAll 6 = true := snAllF_ok (ci := 1) (own := "RunForIt$Best") (by decide +kernel) snTF1 snTM1 (by decide +kernel)
theorem snA7 : snAll 7 = true := snAllF_ok (ci := 1) (own := "RunForIt$Best") (by decide +kernel) snTF1 snTM1 (by decide +kernel)
theorem snA8 : snAll 8 = true := snAllF_ok (ci := 2) (own := "RunForIt$Course") (by decide +kernel) snTF2 snTM2 (by decide +kernel)
theorem snA9 : snAll 9 = true := snAllF_ok (ci := 2) (own := "RunForIt$Course") (by decide +kernel) snTF2 snTM2 (by decide +kernel)
theorem snA10 : snAll 10 = true := snAllF_ok (ci := 2) (own := "RunForIt$Course") (by decide +kernel) snTF2 snTM2 (by decide +kernel)
theorem snA11 : snAll 11 = true := snAllF_ok (ci := 2) (own := "RunForIt$Course") (by decide +kernel) snTF2 snTM2 (by decide +kernel)
theorem snA12 : snAll 12 = true := snAllF_ok (ci := 2) (own := "RunForIt$Course") (by decide +kernel) snTF2 snTM2 (by decide +kernel)
theorem snA13 : snAll 13 = true := snAllF_ok (ci := 2) (own := "RunForIt$Course") (by decide +kernel) snTF2 snTM2 (by decide +kernel)
theorem snA14 : snAll 14 = true := snAllF_ok (ci := 2) (own := "RunForIt$Course") (by decide +kernel) snTF2 snTM2 (by decide +kernel)
theorem snA15 : snAll 15 = true := snAllF_ok (ci := 2) (own := "RunForIt$Course") (by decide +kernel) snTF2 snTM2 (by decide +kernel)
theorem snA16 : snAll 16 = true := snAllF_ok (ci := 2) (own := "RunForIt$Course") (by decide +kernel) snTF2 snTM2 (by decide +kernel)
theorem snA17 : snAll 17 = true := snAllF_ok (ci := 2) (own := "RunForIt$Course") (by decide +kernel) snTF2 snTM2 (by decide +kernel)
theorem snA18 : snAll 18 = true := snAllF_ok (ci := 2) (own := "RunForIt$Course") (by decide +kernel) snTF2 snTM2 (by decide +kernel)
theorem snA19 : snAll 19 = true := snAllF_ok (ci := 2) (own := "RunForIt$Course") (by decide +kernel) snTF2 snTM2 (by decide +kernel)
theorem snA20 : snAll 20 = true := snAllF_ok (ci := 3) (own := "RunForIt$Log") (by decide +kernel) snTF3 snTM3 (by decide +kernel)
theorem snA21 : snAll 21 = true := snAllF_ok (ci := 3) (own := "RunForIt$Log") (by decide +kernel) snTF3 snTM3 (by decide +kernel)
theorem snA22 : snAll 22 = true := snAllF_ok (ci := 3) (own := "RunForIt$Log") (by decide +kernel) snTF3 snTM3 (by decide +kernel)
theorem snA23 : snAll 23 = true := snAllF_ok (ci := 3) (own := "RunForIt$Log") (by decide +kernel) snTF3 snTM3 (by decide +kernel)
theorem snA24 : snAll 24 = true := snAllF_ok (ci := 3) (own := "RunForIt$Log") (by decide +kernel) snTF3 snTM3 (by decide +kernel)
theorem snA25 : snAll 25 = true := snAllF_ok (ci := 3) (own := "RunForIt$Log") (by decide +kernel) snTF3 snTM3 (by decide +kernel)
theorem snA26 : snAll 26 = true := snAllF_ok (ci := 3) (own := "RunForIt$Log") (by decide +kernel) snTF3 snTM3 (by decide +kernel)
theorem snA27 : snAll 27 = true := snAllF_ok (ci := 4) (own := "RunForIt$Odds") (by decide +kernel) snTF4 snTM4 (by decide +kernel)
theorem snA28 : snAll 28 = true := snAllF_ok (ci := 4) (own := "RunForIt$Odds") (by decide +kernel) snTF4 snTM4 (by decide +kernel)
theorem snA29 : snAll 29 = true := snAllF_ok (ci := 4) (own := "RunForIt$Odds") (by decide +kernel) snTF4 snTM4 (by decide +kernel)
theorem snA30 : snAll 30 = true := snAllF_ok (ci := 4) (own := "RunForIt$Odds") (by decide +kernel) snTF4 snTM4 (by decide +kernel)
theorem snA31 : snAll 31 = true := snAllF_ok (ci := 4) (own := "RunForIt$Odds") (by decide +kernel) snTF4 snTM4 (by decide +kernel)
theorem snA32 : snAll 32 = true := snAllF_ok (ci := 4) (own := "RunForIt$Odds") (by decide +kernel) snTF4 snTM4 (by decide +kernel)
theorem snA33 : snAll 33 = true := snAllF_ok (ci := 4) (own := "RunForIt$Odds") (by decide +kernel) snTF4 snTM4 (by decide +kernel)
theorem snA34 : snAll 34 = true := snAllF_ok (ci := 5) (own := "RunForIt$Parser") (by decide +kernel) snTF5 snTM5 (by decide +kernel)
theorem snA35 : snAll 35 = true := snAllF_ok (ci := 5) (own := "RunForIt$Parser") (by decide +kernel) snTF5 snTM5 (by decide +kernel)
theorem snA36 : snAll 36 = true := snAllF_ok (ci := 5) (own := "RunForIt$Parser") (by decide +kernel) snTF5 snTM5 (by decide +kernel)
theorem snA37 : snAll 37 = true := snAllF_ok (ci := 5) (own := "RunForIt$Parser") (by decide +kernel) snTF5 snTM5 (by decide +kernel)
theorem snA38 : snAll 38 = true := snAllF_ok (ci := 5) (own := "RunForIt$Parser") (by decide +kernel) snTF5 snTM5 (by decide +kernel)
theorem snA39 : snAll 39 = true := snAllF_ok (ci := 5) (own := "RunForIt$Parser") (by decide +kernel) snTF5 snTM5 (by decide +kernel)
theorem snA40 : snAll 40 = true := snAllF_ok (ci := 5) (own := "RunForIt$Parser") (by decide +kernel) snTF5 snTM5 (by decide +kernel)
theorem snA41 : snAll 41 = true := snAllF_ok (ci := 5) (own := "RunForIt$Parser") (by decide +kernel) snTF5 snTM5 (by decide +kernel)
theorem snA42 : snAll 42 = true := snAllF_ok (ci := 5) (own := "RunForIt$Parser") (by decide +kernel) snTF5 snTM5 (by decide +kernel)
theorem snA43 : snAll 43 = true := snAllF_ok (ci := 5) (own := "RunForIt$Parser") (by decide +kernel) snTF5 snTM5 (by decide +kernel)
theorem snA44 : snAll 44 = true := snAllF_ok (ci := 5) (own := "RunForIt$Parser") (by decide +kernel) snTF5 snTM5 (by decide +kernel)
theorem snA45 : snAll 45 = true := snAllF_ok (ci := 5) (own := "RunForIt$Parser") (by decide +kernel) snTF5 snTM5 (by decide +kernel)
theorem snA46 : snAll 46 = true := snAllF_ok (ci := 5) (own := "RunForIt$Parser") (by decide +kernel) snTF5 snTM5 (by decide +kernel)
theorem snA47 : snAll 47 = true := snAllF_ok (ci := 5) (own := "RunForIt$Parser") (by decide +kernel) snTF5 snTM5 (by decide +kernel)
theorem snA48 : snAll 48 = true := snAllF_ok (ci := 6) (own := "RunForIt$Product") (by decide +kernel) snTF6 snTM6 (by decide +kernel)
theorem snA49 : snAll 49 = true := snAllF_ok (ci := 6) (own := "RunForIt$Product") (by decide +kernel) snTF6 snTM6 (by decide +kernel)
theorem snA50 : snAll 50 = true := snAllF_ok (ci := 6) (own := "RunForIt$Product") (by decide +kernel) snTF6 snTM6 (by decide +kernel)
theorem snA51 : snAll 51 = true := snAllF_ok (ci := 6) (own := "RunForIt$Product") (by decide +kernel) snTF6 snTM6 (by decide +kernel)
theorem snA52 : snAll 52 = true := snAllF_ok (ci := 7) (own := "RunForIt$Queue") (by decide +kernel) snTF7 snTM7 (by decide +kernel)
theorem snA53 : snAll 53 = true := snAllF_ok (ci := 7) (own := "RunForIt$Queue") (by decide +kernel) snTF7 snTM7 (by decide +kernel)
theorem snA54 : snAll 54 = true := snAllF_ok (ci := 7) (own := "RunForIt$Queue") (by decide +kernel) snTF7 snTM7 (by decide +kernel)
theorem snA55 : snAll 55 = true := snAllF_ok (ci := 7) (own := "RunForIt$Queue") (by decide +kernel) snTF7 snTM7 (by decide +kernel)
theorem snA56 : snAll 56 = true := snAllF_ok (ci := 8) (own := "RunForIt$Ride") (by decide +kernel) snTF8 snTM8 (by decide +kernel)
theorem snA57 : snAll 57 = true := snAllF_ok (ci := 8) (own := "RunForIt$Ride") (by decide +kernel) snTF8 snTM8 (by decide +kernel)
theorem snA58 : snAll 58 = true := snAllF_ok (ci := 8) (own := "RunForIt$Ride") (by decide +kernel) snTF8 snTM8 (by decide +kernel)
theorem snA59 : snAll 59 = true := snAllF_ok (ci := 8) (own := "RunForIt$Ride") (by decide +kernel) snTF8 snTM8 (by decide +kernel)
theorem snA60 : snAll 60 = true := snAllF_ok (ci := 8) (own := "RunForIt$Ride") (by decide +kernel) snTF8 snTM8 (by decide +kernel)
theorem snA61 : snAll 61 = true := snAllF_ok (ci := 8) (own := "RunForIt$Ride") (by decide +kernel) snTF8 snTM8 (by decide +kernel)
theorem snA62 : snAll 62 = true := snAllF_ok (ci := 8) (own := "RunForIt$Ride") (by decide +kernel) snTF8 snTM8 (by decide +kernel)
theorem snA63 : snAll 63 = true := snAllF_ok (ci := 8) (own := "RunForIt$Ride") (by decide +kernel) snTF8 snTM8 (by decide +kernel)
theorem snA64 : snAll 64 = true := snAllF_ok (ci := 8) (own := "RunForIt$Ride") (by decide +kernel) snTF8 snTM8 (by decide +kernel)
theorem snA65 : snAll 65 = true := snAllF_ok (ci := 8) (own := "RunForIt$Ride") (by decide +kernel) snTF8 snTM8 (by decide +kernel)
theorem snA66 : snAll 66 = true := snAllF_ok (ci := 9) (own := "RunForIt$Store") (by decide +kernel) snTF9 snTM9 (by decide +kernel)
theorem snA67 : snAll 67 = true := snAllF_ok (ci := 9) (own := "RunForIt$Store") (by decide +kernel) snTF9 snTM9 (by decide +kernel)
theorem snA68 : snAll 68 = true := snAllF_ok (ci := 9) (own := "RunForIt$Store") (by decide +kernel) snTF9 snTM9 (by decide +kernel)
theorem snA69 : snAll 69 = true := snAllF_ok (ci := 9) (own := "RunForIt$Store") (by decide +kernel) snTF9 snTM9 (by decide +kernel)
theorem snA70 : snAll 70 = true := snAllF_ok (ci := 9) (own := "RunForIt$Store") (by decide +kernel) snTF9 snTM9 (by decide +kernel)
theorem snA71 : snAll 71 = true := snAllF_ok (ci := 9) (own := "RunForIt$Store") (by decide +kernel) snTF9 snTM9 (by decide +kernel)
theorem snA72 : snAll 72 = true := snAllF_ok (ci := 9) (own := "RunForIt$Store") (by decide +kernel) snTF9 snTM9 (by decide +kernel)
theorem snA73 : snAll 73 = true := snAllF_ok (ci := 9) (own := "RunForIt$Store") (by decide +kernel) snTF9 snTM9 (by decide +kernel)
theorem snA74 : snAll 74 = true := snAllF_ok (ci := 9) (own := "RunForIt$Store") (by decide +kernel) snTF9 snTM9 (by decide +kernel)
theorem snA75 : snAll 75 = true := snAllF_ok (ci := 9) (own := "RunForIt$Store") (by decide +kernel) snTF9 snTM9 (by decide +kernel)
theorem snA76 : snAll 76 = true := snAllF_ok (ci := 9) (own := "RunForIt$Store") (by decide +kernel) snTF9 snTM9 (by decide +kernel)
theorem snA77 : snAll 77 = true := snAllF_ok (ci := 10) (own := "RunForIt$Street") (by decide +kernel) snTF10 snTM10 (by decide +kernel)
theorem snA78 : snAll 78 = true := snAllF_ok (ci := 10) (own := "RunForIt$Street") (by decide +kernel) snTF10 snTM10 (by decide +kernel)
theorem snA79 : snAll 79 = true := snAllF_ok (ci := 10) (own := "RunForIt$Street") (by decide +kernel) snTF10 snTM10 (by decide +kernel)
theorem snA80 : snAll 80 = true := snAllF_ok (ci := 10) (own := "RunForIt$Street") (by decide +kernel) snTF10 snTM10 (by decide +kernel)
theorem snA81 : snAll 81 = true := snAllF_ok (ci := 10) (own := "RunForIt$Street") (by decide +kernel) snTF10 snTM10 (by decide +kernel)
theorem snA82 : snAll 82 = true := snAllF_ok (ci := 11) (own := "RunForIt$Text") (by decide +kernel) snTF11 snTM11 (by decide +kernel)
theorem snA83 : snAll 83 = true := snAllF_ok (ci := 11) (own := "RunForIt$Text") (by decide +kernel) snTF11 snTM11 (by decide +kernel)
theorem snA84 : snAll 84 = true := snAllF_ok (ci := 11) (own := "RunForIt$Text") (by decide +kernel) snTF11 snTM11 (by decide +kernel)
theorem snA85 : snAll 85 = true := snAllF_ok (ci := 11) (own := "RunForIt$Text") (by decide +kernel) snTF11 snTM11 (by decide +kernel)
theorem snA86 : snAll 86 = true := snAllF_ok (ci := 11) (own := "RunForIt$Text") (by decide +kernel) snTF11 snTM11 (by decide +kernel)
theorem snA87 : snAll 87 = true := snAllF_ok (ci := 11) (own := "RunForIt$Text") (by decide +kernel) snTF11 snTM11 (by decide +kernel)
theorem snA88 : snAll 88 = true := snAllF_ok (ci := 11) (own := "RunForIt$Text") (by decide +kernel) snTF11 snTM11 (by decide +kernel)
theorem snA89 : snAll 89 = true := snAllF_ok (ci := 11) (own := "RunForIt$Text") (by decide +kernel) snTF11 snTM11 (by decide +kernel)
theorem snA90 : snAll 90 = true := snAllF_ok (ci := 11) (own := "RunForIt$Text") (by decide +kernel) snTF11 snTM11 (by decide +kernel)
theorem snA91 : snAll 91 = true := snAllF_ok (ci := 11) (own := "RunForIt$Text") (by decide +kernel) snTF11 snTM11 (by decide +kernel)
theorem snA92 : snAll 92 = true := snAllF_ok (ci := 12) (own := "RunForIt") (by decide +kernel) snTF12 snTM12 (by decide +kernel)
theorem snA93 : snAll 93 = true := snAllF_ok (ci := 12) (own := "RunForIt") (by decide +kernel) snTF12 snTM12 (by decide +kernel)
theorem snA94 : snAll 94 = true := snAllF_ok (ci := 12) (own := "RunForIt") (by decide +kernel) snTF12 snTM12 (by decide +kernel)
theorem snA95 : snAll 95 = true := snAllF_ok (ci := 12) (own := "RunForIt") (by decide +kernel) snTF12 snTM12 (by decide +kernel)
theorem snA96 : snAll 96 = true := snAllF_ok (ci := 12) (own := "RunForIt") (by decide +kernel) snTF12 snTM12 (by decide +kernel)
theorem snA97 : snAll 97 = true := snAllF_ok (ci := 12) (own := "RunForIt") (by decide +kernel) snTF12 snTM12 (by decide +kernel)
theorem snA98 : snAll 98 = true := snAllF_ok (ci := 12) (own := "RunForIt") (by decide +kernel) snTF12 snTM12 (by decide +kernel)
theorem snA99 : snAll 99 = true := snAllF_ok (ci := 12) (own := "RunForIt") (by decide +kernel) snTF12 snTM12 (by decide +kernel)
theorem snA100 : snAll 100 = true := snAllF_ok (ci := 12) (own := "RunForIt") (by decide +kernel) snTF12 snTM12 (by decide +kernel)
theorem snA101 : snAll 101 = true := snAllF_ok (ci := 12) (own := "RunForIt") (by decide +kernel) snTF12 snTM12 (by decide +kernel)
theorem snA102 : snAll 102 = true := snAllF_ok (ci := 12) (own := "RunForIt") (by decide +kernel) snTF12 snTM12 (by decide +kernel)
theorem snA103 : snAll 103 = true := snAllF_ok (ci := 12) (own := "RunForIt") (by decide +kernel) snTF12 snTM12 (by decide +kernel)
theorem snA104 : snAll 104 = true := snAllF_ok (ci := 12) (own := "RunForIt") (by decide +kernel) snTF12 snTM12 (by decide +kernel)
theorem snA105 : snAll 105 = true := snAllF_ok (ci := 12) (own := "RunForIt") (by decide +kernel) snTF12 snTM12 (by decide +kernel)
theorem snA106 : snAll 106 = true := snAllF_ok (ci := 12) (own := "RunForIt") (by decide +kernel) snTF12 snTM12 (by decide +kernel)
theorem snA107 : snAll 107 = true := snAllF_ok (ci := 12) (own := "RunForIt") (by decide +kernel) snTF12 snTM12 (by decide +kernel)
theorem snA108 : snAll 108 = true := snAllF_ok (ci := 12) (own := "RunForIt") (by decide +kernel) snTF12 snTM12 (by decide +kernel)
theorem snA109 : snAll 109 = true := snAllF_ok (ci := 12) (own := "RunForIt") (by decide +kernel) snTF12 snTM12 (by decide +kernel)
theorem snA110 : snAll 110 = true := snAllF_ok (ci := 12) (own := "RunForIt") (by decide +kernel) snTF12 snTM12 (by decide +kernel)
theorem snA111 : snAll 111 = true := snAllF_ok (ci := 12) (own := "RunForIt") (by decide +kernel) snTF12 snTM12 (by decide +kernel)
theorem snA112 : snAll 112 = true := snAllF_ok (ci := 12) (own := "RunForIt") (by decide +kernel) snTF12 snTM12 (by decide +kernel)
theorem snA113 : snAll 113 = true := snAllF_ok (ci := 12) (own := "RunForIt") (by decide +kernel) snTF12 snTM12 (by decide +kernel)
theorem snA114 : snAll 114 = true := snAllF_ok (ci := 12) (own := "RunForIt") (by decide +kernel) snTF12 snTM12 (by decide +kernel)
theorem snA115 : snAll 115 = true := snAllF_ok (ci := 12) (own := "RunForIt") (by decide +kernel) snTF12 snTM12 (by decide +kernel)
theorem snA116 : snAll 116 = true := snAllF_ok (ci := 12) (own := "RunForIt") (by decide +kernel) snTF12 snTM12 (by decide +kernel)
theorem snA117 : snAll 117 = true := snAllF_ok (ci := 12) (own := "RunForIt") (by decide +kernel) snTF12 snTM12 (by decide +kernel)
theorem snA118 : snAll 118 = true := snAllF_ok (ci := 12) (own := "RunForIt") (by decide +kernel) snTF12 snTM12 (by decide +kernel)
theorem snA119 : snAll 119 = true := snAllF_ok (ci := 12) (own := "RunForIt") (by decide +kernel) snTF12 snTM12 (by decide +kernel)
theorem snA120 : snAll 120 = true := snAllF_ok (ci := 12) (own := "RunForIt") (by decide +kernel) snTF12 snTM12 (by decide +kernel)
theorem snA121 : snAll 121 = true := snAllF_ok (ci := 12) (own := "RunForIt") (by decide +kernel) snTF12 snTM12 (by decide +kernel)
theorem snA122 : snAll 122 = true := snAllF_ok (ci := 12) (own := "RunForIt") (by decide +kernel) snTF12 snTM12 (by decide +kernel)
theorem snA123 : snAll 123 = true := snAllF_ok (ci := 12) (own := "RunForIt") (by decide +kernel) snTF12 snTM12 (by decide +kernel)
theorem snA124 : snAll 124 = true := snAllF_ok (ci := 12) (own := "RunForIt") (by decide +kernel) snTF12 snTM12 (by decide +kernel)
theorem snA125 : snAll 125 = true := snAllF_ok (ci := 12) (own := "RunForIt") (by decide +kernel) snTF12 snTM12 (by decide +kernel)
theorem snA126 : snAll 126 = true := snAllF_ok (ci := 12) (own := "RunForIt") (by decide +kernel) snTF12 snTM12 (by decide +kernel)
theorem snA127 : snAll 127 = true := snAllF_ok (ci := 12) (own := "RunForIt") (by decide +kernel) snTF12 snTM12 (by decide +kernel)
theorem snA128 : snAll 128 = true := snAllF_ok (ci := 12) (own := "RunForIt") (by decide +kernel) snTF12 snTM12 (by decide +kernel)
theorem snA129 : snAll 129 = true := snAllF_ok (ci := 12) (own := "RunForIt") (by decide +kernel) snTF12 snTM12 (by decide +kernel)
theorem snA130 : snAll 130 = true := snAllF_ok (ci := 12) (own := "RunForIt") (by decide +kernel) snTF12 snTM12 (by decide +kernel)
theorem snA131 : snAll 131 = true := snAllF_ok (ci := 12) (own := "RunForIt") (by decide +kernel) snTF12 snTM12 (by decide +kernel)
theorem snA132 : snAll 132 = true := snAllF_ok (ci := 12) (own := "RunForIt") (by decide +kernel) snTF12 snTM12 (by decide +kernel)
theorem snA133 : snAll 133 = true := snAllF_ok (ci := 12) (own := "RunForIt") (by decide +kernel) snTF12 snTM12 (by decide +kernel)
theorem snA134 : snAll 134 = true := snAllF_ok (ci := 12) (own := "RunForIt") (by decide +kernel) snTF12 snTM12 (by decide +kernel)
theorem snA135 : snAll 135 = true := snAllF_ok (ci := 12) (own := "RunForIt") (by decide +kernel) snTF12 snTM12 (by decide +kernel)
theorem snA136 : snAll 136 = true := snAllF_ok (ci := 12) (own := "RunForIt") (by decide +kernel) snTF12 snTM12 (by decide +kernel)
theorem snA137 : snAll 137 = true := snAllF_ok (ci := 12) (own := "RunForIt") (by decide +kernel) snTF12 snTM12 (by decide +kernel)
theorem snA138 : snAll 138 = true := snAllF_ok (ci := 12) (own := "RunForIt") (by decide +kernel) snTF12 snTM12 (by decide +kernel)
theorem snA139 : snAll 139 = true := snAllF_ok (ci := 12) (own := "RunForIt") (by decide +kernel) snTF12 snTM12 (by decide +kernel)
theorem snA140 : snAll 140 = true := snAllF_ok (ci := 12) (own := "RunForIt") (by decide +kernel) snTF12 snTM12 (by decide +kernel)
theorem snA141 : snAll 141 = true := snAllF_ok (ci := 12) (own := "RunForIt") (by decide +kernel) snTF12 snTM12 (by decide +kernel)
theorem snA142 : snAll 142 = true := snAllF_ok (ci := 12) (own := "RunForIt") (by decide +kernel) snTF12 snTM12 (by decide +kernel)
theorem snA143 : snAll 143 = true := snAllF_ok (ci := 12) (own := "RunForIt") (by decide +kernel) snTF12 snTM12 (by decide +kernel)
theorem snA144 : snAll 144 = true := snAllF_ok (ci := 12) (own := "RunForIt") (by decide +kernel) snTF12 snTM12 (by decide +kernel)
theorem snA145 : snAll 145 = true := snAllF_ok (ci := 12) (own := "RunForIt") (by decide +kernel) snTF12 snTM12 (by decide +kernel)
theorem snA146 : snAll 146 = true := snAllF_ok (ci := 12) (own := "RunForIt") (by decide +kernel) snTF12 snTM12 (by decide +kernel)
theorem snA147 : snAll 147 = true := snAllF_ok (ci := 12) (own := "RunForIt") (by decide +kernel) snTF12 snTM12 (by decide +kernel)
theorem snA148 : snAll 148 = true := snAllF_ok (ci := 12) (own := "RunForIt") (by decide +kernel) snTF12 snTM12 (by decide +kernel)
theorem snA149 : snAll 149 = true := snAllF_ok (ci := 13) (own := "RunForItModel") (by decide +kernel) snTF13 snTM13 (by decide +kernel)
theorem snA150 : snAll 150 = true := snAllF_ok (ci := 13) (own := "RunForItModel") (by decide +kernel) snTF13 snTM13 (by decide +kernel)
theorem snA151 : snAll 151 = true := snAllF_ok (ci := 13) (own := "RunForItModel") (by decide +kernel) snTF13 snTM13 (by decide +kernel)
theorem snA152 : snAll 152 = true := snAllF_ok (ci := 13) (own := "RunForItModel") (by decide +kernel) snTF13 snTM13 (by decide +kernel)
theorem snA153 : snAll 153 = true := snAllF_ok (ci := 13) (own := "RunForItModel") (by decide +kernel) snTF13 snTM13 (by decide +kernel)
theorem snA154 : snAll 154 = true := snAllF_ok (ci := 13) (own := "RunForItModel") (by decide +kernel) snTF13 snTM13 (by decide +kernel)
theorem snA155 : snAll 155 = true := snAllF_ok (ci := 13) (own := "RunForItModel") (by decide +kernel) snTF13 snTM13 (by decide +kernel)
theorem snA156 : snAll 156 = true := snAllF_ok (ci := 13) (own := "RunForItModel") (by decide +kernel) snTF13 snTM13 (by decide +kernel)
theorem snA157 : snAll 157 = true := snAllF_ok (ci := 13) (own := "RunForItModel") (by decide +kernel) snTF13 snTM13 (by decide +kernel)
theorem snA158 : snAll 158 = true := snAllF_ok (ci := 13) (own := "RunForItModel") (by decide +kernel) snTF13 snTM13 (by decide +kernel)
theorem snA159 : snAll 159 = true := snAllF_ok (ci := 13) (own := "RunForItModel") (by decide +kernel) snTF13 snTM13 (by decide +kernel)
theorem snA160 : snAll 160 = true := snAllF_ok (ci := 13) (own := "RunForItModel") (by decide +kernel) snTF13 snTM13 (by decide +kernel)
theorem snA161 : snAll 161 = true := snAllF_ok (ci := 13) (own := "RunForItModel") (by decide +kernel) snTF13 snTM13 (by decide +kernel)
theorem snA162 : snAll 162 = true := snAllF_ok (ci := 13) (own := "RunForItModel") (by decide +kernel) snTF13 snTM13 (by decide +kernel)
theorem snA163 : snAll 163 = true := snAllF_ok (ci := 13) (own := "RunForItModel") (by decide +kernel) snTF13 snTM13 (by decide +kernel)
theorem snA164 : snAll 164 = true := snAllF_ok (ci := 13) (own := "RunForItModel") (by decide +kernel) snTF13 snTM13 (by decide +kernel)
theorem snA165 : snAll 165 = true := snAllF_ok (ci := 13) (own := "RunForItModel") (by decide +kernel) snTF13 snTM13 (by decide +kernel)
theorem snA166 : snAll 166 = true := snAllF_ok (ci := 13) (own := "RunForItModel") (by decide +kernel) snTF13 snTM13 (by decide +kernel)
theorem snA167 : snAll 167 = true := snAllF_ok (ci := 13) (own := "RunForItModel") (by decide +kernel) snTF13 snTM13 (by decide +kernel)
theorem snA168 : snAll 168 = true := snAllF_ok (ci := 13) (own := "RunForItModel") (by decide +kernel) snTF13 snTM13 (by decide +kernel)
theorem snA169 : snAll 169 = true := snAllF_ok (ci := 13) (own := "RunForItModel") (by decide +kernel) snTF13 snTM13 (by decide +kernel)
theorem snA170 : snAll 170 = true := snAllF_ok (ci := 13) (own := "RunForItModel") (by decide +kernel) snTF13 snTM13 (by decide +kernel)
theorem snA171 : snAll 171 = true := snAllF_ok (ci := 13) (own := "RunForItModel") (by decide +kernel) snTF13 snTM13 (by decide +kernel)
theorem snA172 : snAll 172 = true := snAllF_ok (ci := 13) (own := "RunForItModel") (by decide +kernel) snTF13 snTM13 (by decide +kernel)
theorem snA173 : snAll 173 = true := snAllF_ok (ci := 13) (own := "RunForItModel") (by decide +kernel) snTF13 snTM13 (by decide +kernel)
theorem snA174 : snAll 174 = true := snAllF_ok (ci := 13) (own := "RunForItModel") (by decide +kernel) snTF13 snTM13 (by decide +kernel)
theorem snA175 : snAll 175 = true := snAllF_ok (ci := 13) (own := "RunForItModel") (by decide +kernel) snTF13 snTM13 (by decide +kernel)
theorem snA176 : snAll 176 = true := snAllF_ok (ci := 13) (own := "RunForItModel") (by decide +kernel) snTF13 snTM13 (by decide +kernel)
theorem snA177 : snAll 177 = true := snAllF_ok (ci := 13) (own := "RunForItModel") (by decide +kernel) snTF13 snTM13 (by decide +kernel)
theorem snA178 : snAll 178 = true := snAllF_ok (ci := 13) (own := "RunForItModel") (by decide +kernel) snTF13 snTM13 (by decide +kernel)
theorem snA179 : snAll 179 = true := snAllF_ok (ci := 13) (own := "RunForItModel") (by decide +kernel) snTF13 snTM13 (by decide +kernel)
theorem snA180 : snAll 180 = true := snAllF_ok (ci := 13) (own := "RunForItModel") (by decide +kernel) snTF13 snTM13 (by decide +kernel)
theorem snA181 : snAll 181 = true := snAllF_ok (ci := 13) (own := "RunForItModel") (by decide +kernel) snTF13 snTM13 (by decide +kernel)
theorem snA182 : snAll 182 = true := snAllF_ok (ci := 13) (own := "RunForItModel") (by decide +kernel) snTF13 snTM13 (by decide +kernel)
theorem snA183 : snAll 183 = true := snAllF_ok (ci := 13) (own := "RunForItModel") (by decide +kernel) snTF13 snTM13 (by decide +kernel)
theorem snA184 : snAll 184 = true := snAllF_ok (ci := 13) (own := "RunForItModel") (by decide +kernel) snTF13 snTM13 (by decide +kernel)
theorem snA185 : snAll 185 = true := snAllF_ok (ci := 13) (own := "RunForItModel") (by decide +kernel) snTF13 snTM13 (by decide +kernel)
theorem snA186 : snAll 186 = true := snAllF_ok (ci := 13) (own := "RunForItModel") (by decide +kernel) snTF13 snTM13 (by decide +kernel)
theorem snA187 : snAll 187 = true := snAllF_ok (ci := 13) (own := "RunForItModel") (by decide +kernel) snTF13 snTM13 (by decide +kernel)
theorem snA188 : snAll 188 = true := snAllF_ok (ci := 13) (own := "RunForItModel") (by decide +kernel) snTF13 snTM13 (by decide +kernel)
theorem snA189 : snAll 189 = true := snAllF_ok (ci := 13) (own := "RunForItModel") (by decide +kernel) snTF13 snTM13 (by decide +kernel)
theorem snA190 : snAll 190 = true := snAllF_ok (ci := 13) (own := "RunForItModel") (by decide +kernel) snTF13 snTM13 (by decide +kernel)
theorem snA191 : snAll 191 = true := snAllF_ok (ci := 13) (own := "RunForItModel") (by decide +kernel) snTF13 snTM13 (by decide +kernel)
theorem snA192 : snAll 192 = true := snAllF_ok (ci := 13) (own := "RunForItModel") (by decide +kernel) snTF13 snTM13 (by decide +kernel)
theorem snA193 : snAll 193 = true := snAllF_ok (ci := 13) (own := "RunForItModel") (by decide +kernel) snTF13 snTM13 (by decide +kernel)
theorem snA194 : snAll 194 = true := snAllF_ok (ci := 13) (own := "RunForItModel") (by decide +kernel) snTF13 snTM13 (by decide +kernel)
theorem snA195 : snAll 195 = true := snAllF_ok (ci := 13) (own := "RunForItModel") (by decide +kernel) snTF13 snTM13 (by decide +kernel)
theorem snA196 : snAll 196 = true := snAllF_ok (ci := 13) (own := "RunForItModel") (by decide +kernel) snTF13 snTM13 (by decide +kernel)
theorem snA197 : snAll 197 = true := snAllF_ok (ci := 13) (own := "RunForItModel") (by decide +kernel) snTF13 snTM13 (by decide +kernel)
theorem snA198 : snAll 198 = true := snAllF_ok (ci := 13) (own := "RunForItModel") (by decide +kernel) snTF13 snTM13 (by decide +kernel)
theorem snA199 : snAll 199 = true := snAllF_ok (ci := 13) (own := "RunForItModel") (by decide +kernel) snTF13 snTM13 (by decide +kernel)
theorem snA200 : snAll 200 = true := snAllF_ok (ci := 13) (own := "RunForItModel") (by decide +kernel) snTF13 snTM13 (by decide +kernel)
theorem snA201 : snAll 201 = true := snAllF_ok (ci := 13) (own := "RunForItModel") (by decide +kernel) snTF13 snTM13 (by decide +kernel)
theorem snA202 : snAll 202 = true := snAllF_ok (ci := 13) (own := "RunForItModel") (by decide +kernel) snTF13 snTM13 (by decide +kernel)
theorem snA203 : snAll 203 = true := snAllF_ok (ci := 13) (own := "RunForItModel") (by decide +kernel) snTF13 snTM13 (by decide +kernel)
theorem snA204 : snAll 204 = true := snAllF_ok (ci := 13) (own := "RunForItModel") (by decide +kernel) snTF13 snTM13 (by decide +kernel)
theorem snA205 : snAll 205 = true := snAllF_ok (ci := 13) (own := "RunForItModel") (by decide +kernel) snTF13 snTM13 (by decide +kernel)
theorem snA206 : snAll 206 = true := snAllF_ok (ci := 13) (own := "RunForItModel") (by decide +kernel) snTF13 snTM13 (by decide +kernel)
theorem snA207 : snAll 207 = true := snAllF_ok (ci := 13) (own := "RunForItModel") (by decide +kernel) snTF13 snTM13 (by decide +kernel)
theorem snA208 : snAll 208 = true := snAllF_ok (ci := 13) (own := "RunForItModel") (by decide +kernel) snTF13 snTM13 (by decide +kernel)
theorem snA209 : snAll 209 = true := snAllF_ok (ci := 13) (own := "RunForItModel") (by decide +kernel) snTF13 snTM13 (by decide +kernel)
theorem snA210 : snAll 210 = true := snAllF_ok (ci := 13) (own := "RunForItModel") (by decide +kernel) snTF13 snTM13 (by decide +kernel)
theorem snA211 : snAll 211 = true := snAllF_ok (ci := 13) (own := "RunForItModel") (by decide +kernel) snTF13 snTM13 (by decide +kernel)
theorem snA212 : snAll 212 = true := snAllF_ok (ci := 13) (own := "RunForItModel") (by decide +kernel) snTF13 snTM13 (by decide +kernel)
theorem snA213 : snAll 213 = true := snAllF_ok (ci := 13) (own := "RunForItModel") (by decide +kernel) snTF13 snTM13 (by decide +kernel)
theorem snA214 : snAll 214 = true := snAllF_ok (ci := 13) (own := "RunForItModel") (by decide +kernel) snTF13 snTM13 (by decide +kernel)
theorem snA215 : snAll 215 = true := snAllF_ok (ci := 13) (own := "RunForItModel") (by decide +kernel) snTF13 snTM13 (by decide +kernel)
theorem snA216 : snAll 216 = true := snAllF_ok (ci := 13) (own := "RunForItModel") (by decide +kernel) snTF13 snTM13 (by decide +kernel)
theorem snA217 : snAll 217 = true := snAllF_ok (ci := 13) (own := "RunForItModel") (by decide +kernel) snTF13 snTM13 (by decide +kernel)
theorem snA218 : snAll 218 = true := snAllF_ok (ci := 13) (own := "RunForItModel") (by decide +kernel) snTF13 snTM13 (by decide +kernel)
theorem snA219 : snAll 219 = true := snAllF_ok (ci := 13) (own := "RunForItModel") (by decide +kernel) snTF13 snTM13 (by decide +kernel)
theorem snA220 : snAll 220 = true := snAllF_ok (ci := 13) (own := "RunForItModel") (by decide +kernel) snTF13 snTM13 (by decide +kernel)
theorem snA221 : snAll 221 = true := snAllF_ok (ci := 13) (own := "RunForItModel") (by decide +kernel) snTF13 snTM13 (by decide +kernel)
theorem snA222 : snAll 222 = true := snAllF_ok (ci := 13) (own := "RunForItModel") (by decide +kernel) snTF13 snTM13 (by decide +kernel)
theorem snA223 : snAll 223 = true := snAllF_ok (ci := 13) (own := "RunForItModel") (by decide +kernel) snTF13 snTM13 (by decide +kernel)
theorem snA224 : snAll 224 = true := snAllF_ok (ci := 13) (own := "RunForItModel") (by decide +kernel) snTF13 snTM13 (by decide +kernel)
theorem snA225 : snAll 225 = true := snAllF_ok (ci := 13) (own := "RunForItModel") (by decide +kernel) snTF13 snTM13 (by decide +kernel)
theorem snA226 : snAll 226 = true := snAllF_ok (ci := 13) (own := "RunForItModel") (by decide +kernel) snTF13 snTM13 (by decide +kernel)
theorem snA227 : snAll 227 = true := snAllF_ok (ci := 13) (own := "RunForItModel") (by decide +kernel) snTF13 snTM13 (by decide +kernel)
theorem snA228 : snAll 228 = true := snAllF_ok (ci := 13) (own := "RunForItModel") (by decide +kernel) snTF13 snTM13 (by decide +kernel)
theorem snA229 : snAll 229 = true := snAllF_ok (ci := 13) (own := "RunForItModel") (by decide +kernel) snTF13 snTM13 (by decide +kernel)
theorem snA230 : snAll 230 = true := snAllF_ok (ci := 13) (own := "RunForItModel") (by decide +kernel) snTF13 snTM13 (by decide +kernel)
theorem snA231 : snAll 231 = true := snAllF_ok (ci := 13) (own := "RunForItModel") (by decide +kernel) snTF13 snTM13 (by decide +kernel)
theorem snA232 : snAll 232 = true := snAllF_ok (ci := 13) (own := "RunForItModel") (by decide +kernel) snTF13 snTM13 (by decide +kernel)
theorem snA233 : snAll 233 = true := snAllF_ok (ci := 13) (own := "RunForItModel") (by decide +kernel) snTF13 snTM13 (by decide +kernel)
theorem snA234 : snAll 234 = true := snAllF_ok (ci := 13) (own := "RunForItModel") (by decide +kernel) snTF13 snTM13 (by decide +kernel)
theorem snA235 : snAll 235 = true := snAllF_ok (ci := 13) (own := "RunForItModel") (by decide +kernel) snTF13 snTM13 (by decide +kernel)
theorem snA236 : snAll 236 = true := snAllF_ok (ci := 13) (own := "RunForItModel") (by decide +kernel) snTF13 snTM13 (by decide +kernel)
theorem snA237 : snAll 237 = true := snAllF_ok (ci := 13) (own := "RunForItModel") (by decide +kernel) snTF13 snTM13 (by decide +kernel)
theorem snA238 : snAll 238 = true := snAllF_ok (ci := 13) (own := "RunForItModel") (by decide +kernel) snTF13 snTM13 (by decide +kernel)
theorem snA239 : snAll 239 = true := snAllF_ok (ci := 13) (own := "RunForItModel") (by decide +kernel) snTF13 snTM13 (by decide +kernel)
theorem snA240 : snAll 240 = true := snAllF_ok (ci := 13) (own := "RunForItModel") (by decide +kernel) snTF13 snTM13 (by decide +kernel)
theorem snA241 : snAll 241 = true := snAllF_ok (ci := 13) (own := "RunForItModel") (by decide +kernel) snTF13 snTM13 (by decide +kernel)
theorem snA242 : snAll 242 = true := snAllF_ok (ci := 13) (own := "RunForItModel") (by decide +kernel) snTF13 snTM13 (by decide +kernel)
theorem snA243 : snAll 243 = true := snAllF_ok (ci := 13) (own := "RunForItModel") (by decide +kernel) snTF13 snTM13 (by decide +kernel)
theorem snA244 : snAll 244 = true := snAllF_ok (ci := 13) (own := "RunForItModel") (by decide +kernel) snTF13 snTM13 (by decide +kernel)
theorem snA245 : snAll 245 = true := snAllF_ok (ci := 13) (own := "RunForItModel") (by decide +kernel) snTF13 snTM13 (by decide +kernel)
theorem snA246 : snAll 246 = true := snAllF_ok (ci := 13) (own := "RunForItModel") (by decide +kernel) snTF13 snTM13 (by decide +kernel)
theorem snA247 : snAll 247 = true := snAllF_ok (ci := 13) (own := "RunForItModel") (by decide +kernel) snTF13 snTM13 (by decide +kernel)
theorem snA248 : snAll 248 = true := snAllF_ok (ci := 13) (own := "RunForItModel") (by decide +kernel) snTF13 snTM13 (by decide +kernel)
theorem snA249 : snAll 249 = true := snAllF_ok (ci := 13) (own := "RunForItModel") (by decide +kernel) snTF13 snTM13 (by decide +kernel)
theorem snA250 : snAll 250 = true := snAllF_ok (ci := 13) (own := "RunForItModel") (by decide +kernel) snTF13 snTM13 (by decide +kernel)
theorem snA251 : snAll 251 = true := snAllF_ok (ci := 13) (own := "RunForItModel") (by decide +kernel) snTF13 snTM13 (by decide +kernel)
theorem snA252 : snAll 252 = true := snAllF_ok (ci := 13) (own := "RunForItModel") (by decide +kernel) snTF13 snTM13 (by decide +kernel)
theorem snA253 : snAll 253 = true := snAllF_ok (ci := 13) (own := "RunForItModel") (by decide +kernel) snTF13 snTM13 (by decide +kernel)
theorem snA254 : snAll 254 = true := snAllF_ok (ci := 13) (own := "RunForItModel") (by decide +kernel) snTF13 snTM13 (by decide +kernel)
theorem snA255 : snAll 255 = true := snAllF_ok (ci := 13) (own := "RunForItModel") (by decide +kernel) snTF13 snTM13 (by decide +kernel)
theorem snA256 : snAll 256 = true := snAllF_ok (ci := 13) (own := "RunForItModel") (by decide +kernel) snTF13 snTM13 (by decide +kernel)
theorem snA257 : snAll 257 = true := snAllF_ok (ci := 13) (own := "RunForItModel") (by decide +kernel) snTF13 snTM13 (by decide +kernel)
theorem snA258 : snAll 258 = true := snAllF_ok (ci := 13) (own := "RunForItModel") (by decide +kernel) snTF13 snTM13 (by decide +kernel)
theorem snA259 : snAll 259 = true := snAllF_ok (ci := 13) (own := "RunForItModel") (by decide +kernel) snTF13 snTM13 (by decide +kernel)
theorem snA260 : snAll 260 = true := snAllF_ok (ci := 13) (own := "RunForItModel") (by decide +kernel) snTF13 snTM13 (by decide +kernel)
theorem snA261 : snAll 261 = true := snAllF_ok (ci := 13) (own := "RunForItModel") (by decide +kernel) snTF13 snTM13 (by decide +kernel)
theorem snA262 : snAll 262 = true := snAllF_ok (ci := 13) (own := "RunForItModel") (by decide +kernel) snTF13 snTM13 (by decide +kernel)
theorem snA263 : snAll 263 = true := snAllF_ok (ci := 13) (own := "RunForItModel") (by decide +kernel) snTF13 snTM13 (by decide +kernel)
theorem snA264 : snAll 264 = true := snAllF_ok (ci := 13) (own := "RunForItModel") (by decide +kernel) snTF13 snTM13 (by decide +kernel)
theorem snA265 : snAll 265 = true := snAllF_ok (ci := 13) (own := "RunForItModel") (by decide +kernel) snTF13 snTM13 (by decide +kernel)
theorem snA266 : snAll 266 = true := snAllF_ok (ci := 13) (own := "RunForItModel") (by decide +kernel) snTF13 snTM13 (by decide +kernel)
theorem snA267 : snAll 267 = true := snAllF_ok (ci := 13) (own := "RunForItModel") (by decide +kernel) snTF13 snTM13 (by decide +kernel)
theorem snA268 : snAll 268 = true := snAllF_ok (ci := 13) (own := "RunForItModel") (by decide +kernel) snTF13 snTM13 (by decide +kernel)
theorem snA269 : snAll 269 = true := snAllF_ok (ci := 14) (own := "java/lang/Character") (by decide +kernel) snTF14 snTM14 (by decide +kernel)
theorem snA270 : snAll 270 = true := snAllF_ok (ci := 14) (own := "java/lang/Character") (by decide +kernel) snTF14 snTM14 (by decide +kernel)
theorem snA271 : snAll 271 = true := snAllF_ok (ci := 14) (own := "java/lang/Character") (by decide +kernel) snTF14 snTM14 (by decide +kernel)
theorem snA272 : snAll 272 = true := snAllF_ok (ci := 15) (own := "java/lang/Integer") (by decide +kernel) snTF15 snTM15 (by decide +kernel)
theorem snA273 : snAll 273 = true := snAllF_ok (ci := 15) (own := "java/lang/Integer") (by decide +kernel) snTF15 snTM15 (by decide +kernel)
theorem snA274 : snAll 274 = true := snAllF_ok (ci := 16) (own := "java/lang/Math") (by decide +kernel) snTF16 snTM16 (by decide +kernel)
theorem snA275 : snAll 275 = true := snAllF_ok (ci := 16) (own := "java/lang/Math") (by decide +kernel) snTF16 snTM16 (by decide +kernel)
theorem snA276 : snAll 276 = true := snAllF_ok (ci := 17) (own := "java/lang/String") (by decide +kernel) snTF17 snTM17 (by decide +kernel)
theorem snA277 : snAll 277 = true := snAllF_ok (ci := 17) (own := "java/lang/String") (by decide +kernel) snTF17 snTM17 (by decide +kernel)
theorem snA278 : snAll 278 = true := snAllF_ok (ci := 17) (own := "java/lang/String") (by decide +kernel) snTF17 snTM17 (by decide +kernel)
theorem snA279 : snAll 279 = true := snAllF_ok (ci := 17) (own := "java/lang/String") (by decide +kernel) snTF17 snTM17 (by decide +kernel)
theorem snA280 : snAll 280 = true := snAllF_ok (ci := 17) (own := "java/lang/String") (by decide +kernel) snTF17 snTM17 (by decide +kernel)
theorem snA281 : snAll 281 = true := snAllF_ok (ci := 17) (own := "java/lang/String") (by decide +kernel) snTF17 snTM17 (by decide +kernel)
theorem snA282 : snAll 282 = true := snAllF_ok (ci := 18) (own := "java/lang/StringLatin1") (by decide +kernel) snTF18 snTM18 (by decide +kernel)
theorem snA283 : snAll 283 = true := snAllF_ok (ci := 18) (own := "java/lang/StringLatin1") (by decide +kernel) snTF18 snTM18 (by decide +kernel)
theorem snA284 : snAll 284 = true := snAllF_ok (ci := 18) (own := "java/lang/StringLatin1") (by decide +kernel) snTF18 snTM18 (by decide +kernel)
theorem snA285 : snAll 285 = true := snAllF_ok (ci := 19) (own := "java/lang/StringUTF16") (by decide +kernel) snTF19 snTM19 (by decide +kernel)
theorem snA286 : snAll 286 = true := snAllF_ok (ci := 19) (own := "java/lang/StringUTF16") (by decide +kernel) snTF19 snTM19 (by decide +kernel)
theorem snA287 : snAll 287 = true := snAllF_ok (ci := 19) (own := "java/lang/StringUTF16") (by decide +kernel) snTF19 snTM19 (by decide +kernel)
theorem snA288 : snAll 288 = true := snAllF_ok (ci := 19) (own := "java/lang/StringUTF16") (by decide +kernel) snTF19 snTM19 (by decide +kernel)
theorem snA289 : snAll 289 = true := snAllF_ok (ci := 19) (own := "java/lang/StringUTF16") (by decide +kernel) snTF19 snTM19 (by decide +kernel)
theorem snA290 : snAll 290 = true := snAllF_ok (ci := 19) (own := "java/lang/StringUTF16") (by decide +kernel) snTF19 snTM19 (by decide +kernel)
theorem snA291 : snAll 291 = true := snAllF_ok (ci := 19) (own := "java/lang/StringUTF16") (by decide +kernel) snTF19 snTM19 (by decide +kernel)
theorem snA292 : snAll 292 = true := snAllF_ok (ci := 20) (own := "jdk/internal/util/Preconditions") (by decide +kernel) snTF20 snTM20 (by decide +kernel)
theorem snAll_ok {μ : Nat} (h : μ < 293) : snAll μ = true := by
  rcases Nat.lt_or_ge μ 16 with q0 | q0
  · have hc : μ = 0 ∨ μ = 1 ∨ μ = 2 ∨ μ = 3 ∨ μ = 4 ∨ μ = 5 ∨ μ = 6 ∨ μ = 7 ∨ μ = 8 ∨ μ = 9 ∨ μ = 10 ∨ μ = 11 ∨ μ = 12 ∨ μ = 13 ∨ μ = 14 ∨ μ = 15 := by omega
    rcases hc with rfl | rfl | rfl | rfl | rfl | rfl | rfl | rfl | rfl | rfl | rfl | rfl | rfl | rfl | rfl | rfl
    · exact snA0
    · exact snA1
    · exact snA2
    · exact snA3
    · exact snA4
    · exact snA5
    · exact snA6
    · exact snA7
    · exact snA8
    · exact snA9
    · exact snA10
    · exact snA11
    · exact snA12
    · exact snA13
    · exact snA14
    · exact snA15
  rcases Nat.lt_or_ge μ 32 with q16 | q16
  · have hc : μ = 16 ∨ μ = 17 ∨ μ = 18 ∨ μ = 19 ∨ μ = 20 ∨ μ = 21 ∨ μ = 22 ∨ μ = 23 ∨ μ = 24 ∨ μ = 25 ∨ μ = 26 ∨ μ = 27 ∨ μ = 28 ∨ μ = 29 ∨ μ = 30 ∨ μ = 31 := by omega
    rcases hc with rfl | rfl | rfl | rfl | rfl | rfl | rfl | rfl | rfl | rfl | rfl | rfl | rfl | rfl | rfl | rfl
    · exact snA16
    · exact snA17
    · exact snA18
    · exact snA19
    · exact snA20
    · exact snA21
    · exact snA22
    · exact snA23
    · exact snA24
    · exact snA25
    · exact snA26
    · exact snA27
    · exact snA28
    · exact snA29
    · exact snA30
    · exact snA31
  rcases Nat.lt_or_ge μ 48 with q32 | q32
  · have hc : μ = 32 ∨ μ = 33 ∨ μ = 34 ∨ μ = 35 ∨ μ = 36 ∨ μ = 37 ∨ μ = 38 ∨ μ = 39 ∨ μ = 40 ∨ μ = 41 ∨ μ = 42 ∨ μ = 43 ∨ μ = 44 ∨ μ = 45 ∨ μ = 46 ∨ μ = 47 := by omega
    rcases hc with rfl | rfl | rfl | rfl | rfl | rfl | rfl | rfl | rfl | rfl | rfl | rfl | rfl | rfl | rfl | rfl
    · exact snA32
    · exact snA33
    · exact snA34
    · exact snA35
    · exact snA36
    · exact snA37
    · exact snA38
    · exact snA39
    · exact snA40
    · exact snA41
    · exact snA42
    · exact snA43
    · exact snA44
    · exact snA45
    · exact snA46
    · exact snA47
  rcases Nat.lt_or_ge μ 64 with q48 | q48
  · have hc : μ = 48 ∨ μ = 49 ∨ μ = 50 ∨ μ = 51 ∨ μ = 52 ∨ μ = 53 ∨ μ = 54 ∨ μ = 55 ∨ μ = 56 ∨ μ = 57 ∨ μ = 58 ∨ μ = 59 ∨ μ = 60 ∨ μ = 61 ∨ μ = 62 ∨ μ = 63 := by omega
    rcases hc with rfl | rfl | rfl | rfl | rfl | rfl | rfl | rfl | rfl | rfl | rfl | rfl | rfl | rfl | rfl | rfl
    · exact snA48
    · exact snA49
    · exact snA50
    · exact snA51
    · exact snA52
    · exact snA53
    · exact snA54
    · exact snA55
    · exact snA56
    · exact snA57
    · exact snA58
    · exact snA59
    · exact snA60
    · exact snA61
    · exact snA62
    · exact snA63
  rcases Nat.lt_or_ge μ 80 with q64 | q64
  · have hc : μ = 64 ∨ μ = 65 ∨ μ = 66 ∨ μ = 67 ∨ μ = 68 ∨ μ = 69 ∨ μ = 70 ∨ μ = 71 ∨ μ = 72 ∨ μ = 73 ∨ μ = 74 ∨ μ = 75 ∨ μ = 76 ∨ μ = 77 ∨ μ = 78 ∨ μ = 79 := by omega
    rcases hc with rfl | rfl | rfl | rfl | rfl | rfl | rfl | rfl | rfl | rfl | rfl | rfl | rfl | rfl | rfl | rfl
    · exact snA64
    · exact snA65
    · exact snA66
    · exact snA67
    · exact snA68
    · exact snA69
    · exact snA70
    · exact snA71
    · exact snA72
    · exact snA73
    · exact snA74
    · exact snA75
    · exact snA76
    · exact snA77
    · exact snA78
    · exact snA79
  rcases Nat.lt_or_ge μ 96 with q80 | q80
  · have hc : μ = 80 ∨ μ = 81 ∨ μ = 82 ∨ μ = 83 ∨ μ = 84 ∨ μ = 85 ∨ μ = 86 ∨ μ = 87 ∨ μ = 88 ∨ μ = 89 ∨ μ = 90 ∨ μ = 91 ∨ μ = 92 ∨ μ = 93 ∨ μ = 94 ∨ μ = 95 := by omega
    rcases hc with rfl | rfl | rfl | rfl | rfl | rfl | rfl | rfl | rfl | rfl | rfl | rfl | rfl | rfl | rfl | rfl
    · exact snA80
    · exact snA81
    · exact snA82
    · exact snA83
    · exact snA84
    · exact snA85
    · exact snA86
    · exact snA87
    · exact snA88
    · exact snA89
    · exact snA90
    · exact snA91
    · exact snA92
    · exact snA93
    · exact snA94
    · exact snA95
  rcases Nat.lt_or_ge μ 112 with q96 | q96
  · have hc : μ = 96 ∨ μ = 97 ∨ μ = 98 ∨ μ = 99 ∨ μ = 100 ∨ μ = 101 ∨ μ = 102 ∨ μ = 103 ∨ μ = 104 ∨ μ = 105 ∨ μ = 106 ∨ μ = 107 ∨ μ = 108 ∨ μ = 109 ∨ μ = 110 ∨ μ = 111 := by omega
    rcases hc with rfl | rfl | rfl | rfl | rfl | rfl | rfl | rfl | rfl | rfl | rfl | rfl | rfl | rfl | rfl | rfl
    · exact snA96
    · exact snA97
    · exact snA98
    · exact snA99
    · exact snA100
    · exact snA101
    · exact snA102
    · exact snA103
    · exact snA104
    · exact snA105
    · exact snA106
    · exact snA107
    · exact snA108
    · exact snA109
    · exact snA110
    · exact snA111
  rcases Nat.lt_or_ge μ 128 with q112 | q112
  · have hc : μ = 112 ∨ μ = 113 ∨ μ = 114 ∨ μ = 115 ∨ μ = 116 ∨ μ = 117 ∨ μ = 118 ∨ μ = 119 ∨ μ = 120 ∨ μ = 121 ∨ μ = 122 ∨ μ = 123 ∨ μ = 124 ∨ μ = 125 ∨ μ = 126 ∨ μ = 127 := by omega
    rcases hc with rfl | rfl | rfl | rfl | rfl | rfl | rfl | rfl | rfl | rfl | rfl | rfl | rfl | rfl | rfl | rfl
    · exact snA112
    · exact snA113
    · exact snA114
    · exact snA115
    · exact snA116
    · exact snA117
    · exact snA118
    · exact snA119
    · exact snA120
    · exact snA121
    · exact snA122
    · exact snA123
    · exact snA124
    · exact snA125
    · exact snA126
    · exact snA127
  rcases Nat.lt_or_ge μ 144 with q128 | q128
  · have hc : μ = 128 ∨ μ = 129 ∨ μ = 130 ∨ μ = 131 ∨ μ = 132 ∨ μ = 133 ∨ μ = 134 ∨ μ = 135 ∨ μ = 136 ∨ μ = 137 ∨ μ = 138 ∨ μ = 139 ∨ μ = 140 ∨ μ = 141 ∨ μ = 142 ∨ μ = 143 := by omega
    rcases hc with rfl | rfl | rfl | rfl | rfl | rfl | rfl | rfl | rfl | rfl | rfl | rfl | rfl | rfl | rfl | rfl
    · exact snA128
    · exact snA129
    · exact snA130
    · exact snA131
    · exact snA132
    · exact snA133
    · exact snA134
    · exact snA135
    · exact snA136
    · exact snA137
    · exact snA138
    · exact snA139
    · exact snA140
    · exact snA141
    · exact snA142
    · exact snA143
  rcases Nat.lt_or_ge μ 160 with q144 | q144
  · have hc : μ = 144 ∨ μ = 145 ∨ μ = 146 ∨ μ = 147 ∨ μ = 148 ∨ μ = 149 ∨ μ = 150 ∨ μ = 151 ∨ μ = 152 ∨ μ = 153 ∨ μ = 154 ∨ μ = 155 ∨ μ = 156 ∨ μ = 157 ∨ μ = 158 ∨ μ = 159 := by omega
    rcases hc with rfl | rfl | rfl | rfl | rfl | rfl | rfl | rfl | rfl | rfl | rfl | rfl | rfl | rfl | rfl | rfl
    · exact snA144
    · exact snA145
    · exact snA146
    · exact snA147
    · exact snA148
    · exact snA149
    · exact snA150
    · exact snA151
    · exact snA152
    · exact snA153
    · exact snA154
    · exact snA155
    · exact snA156
    · exact snA157
    · exact snA158
    · exact snA159
  rcases Nat.lt_or_ge μ 176 with q160 | q160
  · have hc : μ = 160 ∨ μ = 161 ∨ μ = 162 ∨ μ = 163 ∨ μ = 164 ∨ μ = 165 ∨ μ = 166 ∨ μ = 167 ∨ μ = 168 ∨ μ = 169 ∨ μ = 170 ∨ μ = 171 ∨ μ = 172 ∨ μ = 173 ∨ μ = 174 ∨ μ = 175 := by omega
    rcases hc with rfl | rfl | rfl | rfl | rfl | rfl | rfl | rfl | rfl | rfl | rfl | rfl | rfl | rfl | rfl | rfl
    · exact snA160
    · exact snA161
    · exact snA162
    · exact snA163
    · exact snA164
    · exact snA165
    · exact snA166
    · exact snA167
    · exact snA168
    · exact snA169
    · exact snA170
    · exact snA171
    · exact snA172
    · exact snA173
    · exact snA174
    · exact snA175
  rcases Nat.lt_or_ge μ 192 with q176 | q176
  · have hc : μ = 176 ∨ μ = 177 ∨ μ = 178 ∨ μ = 179 ∨ μ = 180 ∨ μ = 181 ∨ μ = 182 ∨ μ = 183 ∨ μ = 184 ∨ μ = 185 ∨ μ = 186 ∨ μ = 187 ∨ μ = 188 ∨ μ = 189 ∨ μ = 190 ∨ μ = 191 := by omega
    rcases hc with rfl | rfl | rfl | rfl | rfl | rfl | rfl | rfl | rfl | rfl | rfl | rfl | rfl | rfl | rfl | rfl
    · exact snA176
    · exact snA177
    · exact snA178
    · exact snA179
    · exact snA180
    · exact snA181
    · exact snA182
    · exact snA183
    · exact snA184
    · exact snA185
    · exact snA186
    · exact snA187
    · exact snA188
    · exact snA189
    · exact snA190
    · exact snA191
  rcases Nat.lt_or_ge μ 208 with q192 | q192
  · have hc : μ = 192 ∨ μ = 193 ∨ μ = 194 ∨ μ = 195 ∨ μ = 196 ∨ μ = 197 ∨ μ = 198 ∨ μ = 199 ∨ μ = 200 ∨ μ = 201 ∨ μ = 202 ∨ μ = 203 ∨ μ = 204 ∨ μ = 205 ∨ μ = 206 ∨ μ = 207 := by omega
    rcases hc with rfl | rfl | rfl | rfl | rfl | rfl | rfl | rfl | rfl | rfl | rfl | rfl | rfl | rfl | rfl | rfl
    · exact snA192
    · exact snA193
    · exact snA194
    · exact snA195
    · exact snA196
    · exact snA197
    · exact snA198
    · exact snA199
    · exact snA200
    · exact snA201
    · exact snA202
    · exact snA203
    · exact snA204
    · exact snA205
    · exact snA206
    · exact snA207
  rcases Nat.lt_or_ge μ 224 with q208 | q208
  · have hc : μ = 208 ∨ μ = 209 ∨ μ = 210 ∨ μ = 211 ∨ μ = 212 ∨ μ = 213 ∨ μ = 214 ∨ μ = 215 ∨ μ = 216 ∨ μ = 217 ∨ μ = 218 ∨ μ = 219 ∨ μ = 220 ∨ μ = 221 ∨ μ = 222 ∨ μ = 223 := by omega
    rcases hc with rfl | rfl | rfl | rfl | rfl | rfl | rfl | rfl | rfl | rfl | rfl | rfl | rfl | rfl | rfl | rfl
    · exact snA208
    · exact snA209
    · exact snA210
    · exact snA211
    · exact snA212
    · exact snA213
    · exact snA214
    · exact snA215
    · exact snA216
    · exact snA217
    · exact snA218
    · exact snA219
    · exact snA220
    · exact snA221
    · exact snA222
    · exact snA223
  rcases Nat.lt_or_ge μ 240 with q224 | q224
  · have hc : μ = 224 ∨ μ = 225 ∨ μ = 226 ∨ μ = 227 ∨ μ = 228 ∨ μ = 229 ∨ μ = 230 ∨ μ = 231 ∨ μ = 232 ∨ μ = 233 ∨ μ = 234 ∨ μ = 235 ∨ μ = 236 ∨ μ = 237 ∨ μ = 238 ∨ μ = 239 := by omega
    rcases hc with rfl | rfl | rfl | rfl | rfl | rfl | rfl | rfl | rfl | rfl | rfl | rfl | rfl | rfl | rfl | rfl
    · exact snA224
    · exact snA225
    · exact snA226
    · exact snA227
    · exact snA228
    · exact snA229
    · exact snA230
    · exact snA231
    · exact snA232
    · exact snA233
    · exact snA234
    · exact snA235
    · exact snA236
    · exact snA237
    · exact snA238
    · exact snA239
  rcases Nat.lt_or_ge μ 256 with q240 | q240
  · have hc : μ = 240 ∨ μ = 241 ∨ μ = 242 ∨ μ = 243 ∨ μ = 244 ∨ μ = 245 ∨ μ = 246 ∨ μ = 247 ∨ μ = 248 ∨ μ = 249 ∨ μ = 250 ∨ μ = 251 ∨ μ = 252 ∨ μ = 253 ∨ μ = 254 ∨ μ = 255 := by omega
    rcases hc with rfl | rfl | rfl | rfl | rfl | rfl | rfl | rfl | rfl | rfl | rfl | rfl | rfl | rfl | rfl | rfl
    · exact snA240
    · exact snA241
    · exact snA242
    · exact snA243
    · exact snA244
    · exact snA245
    · exact snA246
    · exact snA247
    · exact snA248
    · exact snA249
    · exact snA250
    · exact snA251
    · exact snA252
    · exact snA253
    · exact snA254
    · exact snA255
  rcases Nat.lt_or_ge μ 272 with q256 | q256
  · have hc : μ = 256 ∨ μ = 257 ∨ μ = 258 ∨ μ = 259 ∨ μ = 260 ∨ μ = 261 ∨ μ = 262 ∨ μ = 263 ∨ μ = 264 ∨ μ = 265 ∨ μ = 266 ∨ μ = 267 ∨ μ = 268 ∨ μ = 269 ∨ μ = 270 ∨ μ = 271 := by omega
    rcases hc with rfl | rfl | rfl | rfl | rfl | rfl | rfl | rfl | rfl | rfl | rfl | rfl | rfl | rfl | rfl | rfl
    · exact snA256
    · exact snA257
    · exact snA258
    · exact snA259
    · exact snA260
    · exact snA261
    · exact snA262
    · exact snA263
    · exact snA264
    · exact snA265
    · exact snA266
    · exact snA267
    · exact snA268
    · exact snA269
    · exact snA270
    · exact snA271
  rcases Nat.lt_or_ge μ 288 with q272 | q272
  · have hc : μ = 272 ∨ μ = 273 ∨ μ = 274 ∨ μ = 275 ∨ μ = 276 ∨ μ = 277 ∨ μ = 278 ∨ μ = 279 ∨ μ = 280 ∨ μ = 281 ∨ μ = 282 ∨ μ = 283 ∨ μ = 284 ∨ μ = 285 ∨ μ = 286 ∨ μ = 287 := by omega
    rcases hc with rfl | rfl | rfl | rfl | rfl | rfl | rfl | rfl | rfl | rfl | rfl | rfl | rfl | rfl | rfl | rfl
    · exact snA272
    · exact snA273
    · exact snA274
    · exact snA275
    · exact snA276
    · exact snA277
    · exact snA278
    · exact snA279
    · exact snA280
    · exact snA281
    · exact snA282
    · exact snA283
    · exact snA284
    · exact snA285
    · exact snA286
    · exact snA287
  have q288 := h
  have hc : μ = 288 ∨ μ = 289 ∨ μ = 290 ∨ μ = 291 ∨ μ = 292 := by omega
  rcases hc with rfl | rfl | rfl | rfl | rfl
  · exact snA288
  · exact snA289
  · exact snA290
  · exact snA291
  · exact snA292
theorem snMok_all : ((List.range 292).all fun j => snMok (j + 1)) = true := by decide +kernel
theorem snMok_ok (μ : Nat) (h0 : 0 < μ) (h : μ < 293) : snMok μ = true := by
  have h1 := List.all_eq_true.mp snMok_all (μ - 1) (List.mem_range.mpr (by omega))
  rw [show μ - 1 + 1 = μ by omega] at h1
  exact h1
theorem snOwn_all : ((List.range 293).all snOwnOk) = true := by decide +kernel
theorem snOwn_ok (μ : Nat) (h : μ < 293) : snOwnOk μ = true := List.all_eq_true.mp snOwn_all μ (List.mem_range.mpr h)
