/-! printed by gen/g91.py: takes, gives, argumentIsThere -/
section OTK
variable {sp : ox_E} {d mr sr : Nat} {S : ox_St} {Q : ox_Q}
/-- takes, as an int -/
def tkI (w a : Nat) : Int32 := match tkW w a with
  | none => -1
  | some t => nI t
theorem s_39 (hsp : ox_mono sp) {w a : Nat} (hw : w < 2 ^ 31) (hQ : Q (some (.inl (tkI w a))) S) : ox_M sp (d + 1) 39 [.inl (nI w), .inl (nI a)] mr sr S Q := by
  have hE : ox_mono (ox_M sp d) := ox_M_mono hsp _
  have hk : ∀ (k : Nat) (r : Int32), w = k → tkI k a = r → Q (some (.inl r)) S := fun k r e1 e2 => by subst e1; rw [e2] at hQ; exact hQ
  refine f_39 hsp ?_
  unfold q_39
  rw [nI_toInt hw]
  refine ⟨fun z => f_39_546 hE ⟨trivial, hk 1 (1 : Int32) (by omega) rfl⟩, fun z1 => ?_⟩
  refine ⟨fun z => f_39_548 hE ⟨trivial, hk 2 (2 : Int32) (by omega) rfl⟩, fun z2 => ?_⟩
  refine ⟨fun z => ⟨trivial, hk 3 (3 : Int32) (by omega) rfl⟩, fun z3 => ?_⟩
  refine ⟨fun z => f_39_546 hE ⟨trivial, hk 4 (1 : Int32) (by omega) rfl⟩, fun z4 => ?_⟩
  refine ⟨fun z => f_39_558 hE ⟨trivial, hk 5 (-1 : Int32) (by omega) rfl⟩, fun z5 => ?_⟩
  refine ⟨fun z => f_39_558 hE ⟨trivial, hk 6 (-1 : Int32) (by omega) rfl⟩, fun z6 => ?_⟩
  refine ⟨fun z => f_39_558 hE ⟨trivial, hk 7 (-1 : Int32) (by omega) rfl⟩, fun z7 => ?_⟩
  refine ⟨fun z => f_39_558 hE ⟨trivial, hk 8 (-1 : Int32) (by omega) rfl⟩, fun z8 => ?_⟩
  refine ⟨fun z => f_39_558 hE ⟨trivial, hk 9 (-1 : Int32) (by omega) rfl⟩, fun z9 => ?_⟩
  refine ⟨fun z => f_39_558 hE ⟨trivial, hk 10 (-1 : Int32) (by omega) rfl⟩, fun z10 => ?_⟩
  refine ⟨fun z => f_39_546 hE ⟨trivial, hk 11 (1 : Int32) (by omega) rfl⟩, fun z11 => ?_⟩
  refine ⟨fun z => f_39_546 hE ⟨trivial, hk 12 (1 : Int32) (by omega) rfl⟩, fun z12 => ?_⟩
  refine ⟨fun z => f_39_558 hE ⟨trivial, hk 13 (-1 : Int32) (by omega) rfl⟩, fun z13 => ?_⟩
  refine ⟨fun z => f_39_558 hE ⟨trivial, hk 14 (-1 : Int32) (by omega) rfl⟩, fun z14 => ?_⟩
  refine ⟨fun z => f_39_558 hE ⟨trivial, hk 15 (-1 : Int32) (by omega) rfl⟩, fun z15 => ?_⟩
  refine ⟨fun z => f_39_558 hE ⟨trivial, hk 16 (-1 : Int32) (by omega) rfl⟩, fun z16 => ?_⟩
  refine ⟨fun z => f_39_558 hE ⟨trivial, hk 17 (-1 : Int32) (by omega) rfl⟩, fun z17 => ?_⟩
  refine ⟨fun z => f_39_558 hE ⟨trivial, hk 18 (-1 : Int32) (by omega) rfl⟩, fun z18 => ?_⟩
  refine ⟨fun z => f_39_558 hE ⟨trivial, hk 19 (-1 : Int32) (by omega) rfl⟩, fun z19 => ?_⟩
  refine ⟨fun z => f_39_548 hE ⟨trivial, hk 20 (2 : Int32) (by omega) rfl⟩, fun z20 => ?_⟩
  refine ⟨fun z => f_39_558 hE ⟨trivial, hk 21 (-1 : Int32) (by omega) rfl⟩, fun z21 => ?_⟩
  refine ⟨fun z => f_39_548 hE ⟨trivial, hk 22 (2 : Int32) (by omega) rfl⟩, fun z22 => ?_⟩
  refine ⟨fun z => f_39_548 hE ⟨trivial, hk 23 (2 : Int32) (by omega) rfl⟩, fun z23 => ?_⟩
  refine ⟨fun z => f_39_548 hE ⟨trivial, hk 24 (2 : Int32) (by omega) rfl⟩, fun z24 => ?_⟩
  refine ⟨fun z => f_39_548 hE ⟨trivial, hk 25 (2 : Int32) (by omega) rfl⟩, fun z25 => ?_⟩
  refine ⟨fun z => f_39_548 hE ⟨trivial, hk 26 (2 : Int32) (by omega) rfl⟩, fun z26 => ?_⟩
  refine ⟨fun z => f_39_558 hE ⟨trivial, hk 27 (-1 : Int32) (by omega) rfl⟩, fun z27 => ?_⟩
  refine ⟨fun z => f_39_558 hE ⟨trivial, hk 28 (-1 : Int32) (by omega) rfl⟩, fun z28 => ?_⟩
  refine ⟨fun z => f_39_558 hE ⟨trivial, hk 29 (-1 : Int32) (by omega) rfl⟩, fun z29 => ?_⟩
  refine ⟨fun z => f_39_558 hE ⟨trivial, hk 30 (-1 : Int32) (by omega) rfl⟩, fun z30 => ?_⟩
  refine ⟨fun z => f_39_558 hE ⟨trivial, hk 31 (-1 : Int32) (by omega) rfl⟩, fun z31 => ?_⟩
  refine ⟨fun z => f_39_558 hE ⟨trivial, hk 32 (-1 : Int32) (by omega) rfl⟩, fun z32 => ?_⟩
  refine ⟨fun z => f_39_558 hE ⟨trivial, hk 33 (-1 : Int32) (by omega) rfl⟩, fun z33 => ?_⟩
  refine ⟨fun z => f_39_558 hE ⟨trivial, hk 34 (-1 : Int32) (by omega) rfl⟩, fun z34 => ?_⟩
  refine ⟨fun z => f_39_558 hE ⟨trivial, hk 35 (-1 : Int32) (by omega) rfl⟩, fun z35 => ?_⟩
  refine ⟨fun z => f_39_558 hE ⟨trivial, hk 36 (-1 : Int32) (by omega) rfl⟩, fun z36 => ?_⟩
  refine ⟨fun z => f_39_558 hE ⟨trivial, hk 37 (-1 : Int32) (by omega) rfl⟩, fun z37 => ?_⟩
  refine ⟨fun z => f_39_558 hE ⟨trivial, hk 38 (-1 : Int32) (by omega) rfl⟩, fun z38 => ?_⟩
  refine ⟨fun z => f_39_558 hE ⟨trivial, hk 39 (-1 : Int32) (by omega) rfl⟩, fun z39 => ?_⟩
  refine ⟨fun z => f_39_558 hE ⟨trivial, hk 40 (-1 : Int32) (by omega) rfl⟩, fun z40 => ?_⟩
  refine ⟨fun z => f_39_558 hE ⟨trivial, hk 41 (-1 : Int32) (by omega) rfl⟩, fun z41 => ?_⟩
  refine ⟨fun z => f_39_558 hE ⟨trivial, hk 42 (-1 : Int32) (by omega) rfl⟩, fun z42 => ?_⟩
  refine ⟨fun z => f_39_558 hE ⟨trivial, hk 43 (-1 : Int32) (by omega) rfl⟩, fun z43 => ?_⟩
  refine ⟨fun z => f_39_558 hE ⟨trivial, hk 44 (-1 : Int32) (by omega) rfl⟩, fun z44 => ?_⟩
  refine ⟨fun z => f_39_558 hE ⟨trivial, hk 45 (-1 : Int32) (by omega) rfl⟩, fun z45 => ?_⟩
  refine ⟨fun z => f_39_558 hE ⟨trivial, hk 46 (-1 : Int32) (by omega) rfl⟩, fun z46 => ?_⟩
  refine ⟨fun z => f_39_558 hE ⟨trivial, hk 47 (-1 : Int32) (by omega) rfl⟩, fun z47 => ?_⟩
  refine ⟨fun z => f_39_558 hE ⟨trivial, hk 48 (-1 : Int32) (by omega) rfl⟩, fun z48 => ?_⟩
  refine ⟨fun z => f_39_558 hE ⟨trivial, hk 49 (-1 : Int32) (by omega) rfl⟩, fun z49 => ?_⟩
  refine ⟨fun z => f_39_558 hE ⟨trivial, hk 50 (-1 : Int32) (by omega) rfl⟩, fun z50 => ?_⟩
  refine ⟨fun z => f_39_558 hE ⟨trivial, hk 51 (-1 : Int32) (by omega) rfl⟩, fun z51 => ?_⟩
  refine ⟨fun z => f_39_558 hE ⟨trivial, hk 52 (-1 : Int32) (by omega) rfl⟩, fun z52 => ?_⟩
  refine ⟨fun z => f_39_558 hE ⟨trivial, hk 53 (-1 : Int32) (by omega) rfl⟩, fun z53 => ?_⟩
  refine ⟨fun z => f_39_558 hE ⟨trivial, hk 54 (-1 : Int32) (by omega) rfl⟩, fun z54 => ?_⟩
  refine ⟨fun z => f_39_558 hE ⟨trivial, hk 55 (-1 : Int32) (by omega) rfl⟩, fun z55 => ?_⟩
  refine ⟨fun z => f_39_558 hE ⟨trivial, hk 56 (-1 : Int32) (by omega) rfl⟩, fun z56 => ?_⟩
  refine ⟨fun z => f_39_558 hE ⟨trivial, hk 57 (-1 : Int32) (by omega) rfl⟩, fun z57 => ?_⟩
  refine ⟨fun z => f_39_558 hE ⟨trivial, hk 58 (-1 : Int32) (by omega) rfl⟩, fun z58 => ?_⟩
  refine ⟨fun z => f_39_558 hE ⟨trivial, hk 59 (-1 : Int32) (by omega) rfl⟩, fun z59 => ?_⟩
  refine ⟨fun z => f_39_558 hE ⟨trivial, hk 60 (-1 : Int32) (by omega) rfl⟩, fun z60 => ?_⟩
  refine ⟨fun z => f_39_558 hE ⟨trivial, hk 61 (-1 : Int32) (by omega) rfl⟩, fun z61 => ?_⟩
  refine ⟨fun z => f_39_558 hE ⟨trivial, hk 62 (-1 : Int32) (by omega) rfl⟩, fun z62 => ?_⟩
  refine ⟨fun z => f_39_558 hE ⟨trivial, hk 63 (-1 : Int32) (by omega) rfl⟩, fun z63 => ?_⟩
  refine ⟨fun z => f_39_558 hE ⟨trivial, hk 64 (-1 : Int32) (by omega) rfl⟩, fun z64 => ?_⟩
  refine ⟨fun z => f_39_558 hE ⟨trivial, hk 65 (-1 : Int32) (by omega) rfl⟩, fun z65 => ?_⟩
  refine ⟨fun z => f_39_558 hE ⟨trivial, hk 66 (-1 : Int32) (by omega) rfl⟩, fun z66 => ?_⟩
  refine ⟨fun z => f_39_558 hE ⟨trivial, hk 67 (-1 : Int32) (by omega) rfl⟩, fun z67 => ?_⟩
  refine ⟨fun z => f_39_546 hE ⟨trivial, hk 68 (1 : Int32) (by omega) rfl⟩, fun z68 => ?_⟩
  refine ⟨fun z => f_39_558 hE ⟨trivial, hk 69 (-1 : Int32) (by omega) rfl⟩, fun z69 => ?_⟩
  refine ⟨fun z => f_39_558 hE ⟨trivial, hk 70 (-1 : Int32) (by omega) rfl⟩, fun z70 => ?_⟩
  refine ⟨fun z => f_39_558 hE ⟨trivial, hk 71 (-1 : Int32) (by omega) rfl⟩, fun z71 => ?_⟩
  refine ⟨fun z => f_39_558 hE ⟨trivial, hk 72 (-1 : Int32) (by omega) rfl⟩, fun z72 => ?_⟩
  refine ⟨fun z => f_39_558 hE ⟨trivial, hk 73 (-1 : Int32) (by omega) rfl⟩, fun z73 => ?_⟩
  refine ⟨fun z => f_39_558 hE ⟨trivial, hk 74 (-1 : Int32) (by omega) rfl⟩, fun z74 => ?_⟩
  refine ⟨fun z => f_39_558 hE ⟨trivial, hk 75 (-1 : Int32) (by omega) rfl⟩, fun z75 => ?_⟩
  refine ⟨fun z => f_39_558 hE ⟨trivial, hk 76 (-1 : Int32) (by omega) rfl⟩, fun z76 => ?_⟩
  refine ⟨fun z => f_39_558 hE ⟨trivial, hk 77 (-1 : Int32) (by omega) rfl⟩, fun z77 => ?_⟩
  refine ⟨fun z => f_39_558 hE ⟨trivial, hk 78 (-1 : Int32) (by omega) rfl⟩, fun z78 => ?_⟩
  refine ⟨fun z => f_39_558 hE ⟨trivial, hk 79 (-1 : Int32) (by omega) rfl⟩, fun z79 => ?_⟩
  refine ⟨fun z => f_39_558 hE ⟨trivial, hk 80 (-1 : Int32) (by omega) rfl⟩, fun z80 => ?_⟩
  refine ⟨fun z => f_39_558 hE ⟨trivial, hk 81 (-1 : Int32) (by omega) rfl⟩, fun z81 => ?_⟩
  refine ⟨fun z => f_39_558 hE ⟨trivial, hk 82 (-1 : Int32) (by omega) rfl⟩, fun z82 => ?_⟩
  refine ⟨fun z => f_39_546 hE ⟨trivial, hk 83 (1 : Int32) (by omega) rfl⟩, fun z83 => ?_⟩
  refine ⟨fun z => f_39_558 hE ⟨trivial, hk 84 (-1 : Int32) (by omega) rfl⟩, fun z84 => ?_⟩
  refine ⟨fun z => f_39_558 hE ⟨trivial, hk 85 (-1 : Int32) (by omega) rfl⟩, fun z85 => ?_⟩
  refine ⟨fun z => f_39_558 hE ⟨trivial, hk 86 (-1 : Int32) (by omega) rfl⟩, fun z86 => ?_⟩
  refine ⟨fun z => f_39_544 hE ⟨trivial, hk 87 (0 : Int32) (by omega) rfl⟩, fun z87 => ?_⟩
  refine ⟨fun z => f_39_558 hE ⟨trivial, hk 88 (-1 : Int32) (by omega) rfl⟩, fun z88 => ?_⟩
  refine ⟨fun z => f_39_558 hE ⟨trivial, hk 89 (-1 : Int32) (by omega) rfl⟩, fun z89 => ?_⟩
  refine ⟨fun z => f_39_546 hE ⟨trivial, hk 90 (1 : Int32) (by omega) rfl⟩, fun z90 => ?_⟩
  refine ⟨fun z => f_39_558 hE ⟨trivial, hk 91 (-1 : Int32) (by omega) rfl⟩, fun z91 => ?_⟩
  refine ⟨fun z => f_39_546 hE ⟨trivial, hk 92 (1 : Int32) (by omega) rfl⟩, fun z92 => ?_⟩
  refine ⟨fun z => f_39_546 hE ⟨trivial, hk 93 (1 : Int32) (by omega) rfl⟩, fun z93 => ?_⟩
  refine ⟨fun z => f_39_558 hE ⟨trivial, hk 94 (-1 : Int32) (by omega) rfl⟩, fun z94 => ?_⟩
  refine ⟨fun z => f_39_558 hE ⟨trivial, hk 95 (-1 : Int32) (by omega) rfl⟩, fun z95 => ?_⟩
  refine ⟨fun z => f_39_558 hE ⟨trivial, hk 96 (-1 : Int32) (by omega) rfl⟩, fun z96 => ?_⟩
  refine ⟨fun z => f_39_558 hE ⟨trivial, hk 97 (-1 : Int32) (by omega) rfl⟩, fun z97 => ?_⟩
  refine ⟨fun z => f_39_558 hE ⟨trivial, hk 98 (-1 : Int32) (by omega) rfl⟩, fun z98 => ?_⟩
  refine ⟨fun z => f_39_558 hE ⟨trivial, hk 99 (-1 : Int32) (by omega) rfl⟩, fun z99 => ?_⟩
  refine ⟨fun z => f_39_544 hE ⟨trivial, hk 100 (0 : Int32) (by omega) rfl⟩, fun z100 => ?_⟩
  refine ⟨fun z => f_39_544 hE ⟨trivial, hk 101 (0 : Int32) (by omega) rfl⟩, fun z101 => ?_⟩
  refine ⟨fun z => ⟨trivial, hk 102 (nI a) (by omega) rfl⟩, fun z102 => ?_⟩
  refine ⟨fun z => f_39_558 hE ⟨trivial, hk 103 (-1 : Int32) (by omega) rfl⟩, fun z103 => ?_⟩
  refine ⟨fun z => f_39_558 hE ⟨trivial, hk 104 (-1 : Int32) (by omega) rfl⟩, fun z104 => ?_⟩
  refine ⟨fun z => f_39_558 hE ⟨trivial, hk 105 (-1 : Int32) (by omega) rfl⟩, fun z105 => ?_⟩
  refine ⟨fun z => f_39_558 hE ⟨trivial, hk 106 (-1 : Int32) (by omega) rfl⟩, fun z106 => ?_⟩
  refine ⟨fun z => f_39_548 hE ⟨trivial, hk 107 (2 : Int32) (by omega) rfl⟩, fun z107 => ?_⟩
  refine ⟨fun z => f_39_558 hE ⟨trivial, hk 108 (-1 : Int32) (by omega) rfl⟩, fun z108 => ?_⟩
  refine ⟨fun z => f_39_558 hE ⟨trivial, hk 109 (-1 : Int32) (by omega) rfl⟩, fun z109 => ?_⟩
  refine ⟨fun z => f_39_544 hE ⟨trivial, hk 110 (0 : Int32) (by omega) rfl⟩, fun z110 => ?_⟩
  refine ⟨fun z => f_39_558 hE ⟨trivial, hk 111 (-1 : Int32) (by omega) rfl⟩, fun z111 => ?_⟩
  refine ⟨fun z => f_39_558 hE ⟨trivial, hk 112 (-1 : Int32) (by omega) rfl⟩, fun z112 => ?_⟩
  refine ⟨fun z => f_39_544 hE ⟨trivial, hk 113 (0 : Int32) (by omega) rfl⟩, fun z113 => ?_⟩
  refine ⟨fun z => f_39_546 hE ⟨trivial, hk 114 (1 : Int32) (by omega) rfl⟩, fun z114 => ?_⟩
  refine ⟨fun z => f_39_546 hE ⟨trivial, hk 115 (1 : Int32) (by omega) rfl⟩, fun z115 => ?_⟩
  refine ⟨fun z => f_39_558 hE ⟨trivial, hk 116 (-1 : Int32) (by omega) rfl⟩, fun z116 => ?_⟩
  refine ⟨fun z => f_39_558 hE ⟨trivial, hk 117 (-1 : Int32) (by omega) rfl⟩, fun z117 => ?_⟩
  refine ⟨fun z => f_39_558 hE ⟨trivial, hk 118 (-1 : Int32) (by omega) rfl⟩, fun z118 => ?_⟩
  refine ⟨fun z => f_39_558 hE ⟨trivial, hk 119 (-1 : Int32) (by omega) rfl⟩, fun z119 => ?_⟩
  refine ⟨fun z => f_39_558 hE ⟨trivial, hk 120 (-1 : Int32) (by omega) rfl⟩, fun z120 => ?_⟩
  refine ⟨fun z => f_39_558 hE ⟨trivial, hk 121 (-1 : Int32) (by omega) rfl⟩, fun z121 => ?_⟩
  refine ⟨fun z => f_39_544 hE ⟨trivial, hk 122 (0 : Int32) (by omega) rfl⟩, fun z122 => ?_⟩
  refine ⟨fun z => f_39_558 hE ⟨trivial, hk 123 (-1 : Int32) (by omega) rfl⟩, fun z123 => ?_⟩
  refine ⟨fun z => f_39_544 hE ⟨trivial, hk 124 (0 : Int32) (by omega) rfl⟩, fun z124 => ?_⟩
  refine ⟨fun z => f_39_546 hE ⟨trivial, hk 125 (1 : Int32) (by omega) rfl⟩, fun z125 => ?_⟩
  refine ⟨fun z => f_39_558 hE ⟨trivial, hk 126 (-1 : Int32) (by omega) rfl⟩, fun z126 => ?_⟩
  refine ⟨fun z => f_39_558 hE ⟨trivial, hk 127 (-1 : Int32) (by omega) rfl⟩, fun z127 => ?_⟩
  refine ⟨fun z => f_39_558 hE ⟨trivial, hk 128 (-1 : Int32) (by omega) rfl⟩, fun z128 => ?_⟩
  refine ⟨fun z => f_39_558 hE ⟨trivial, hk 129 (-1 : Int32) (by omega) rfl⟩, fun z129 => ?_⟩
  refine ⟨fun z => f_39_546 hE ⟨trivial, hk 130 (1 : Int32) (by omega) rfl⟩, fun z130 => ?_⟩
  refine ⟨fun z => ⟨trivial, hk 131 (nI a + 1) (by omega) (nI_1 a).symm⟩, fun z131 => ?_⟩
  refine ⟨fun z => f_39_546 hE ⟨trivial, hk 132 (1 : Int32) (by omega) rfl⟩, fun z132 => ?_⟩
  refine f_39_558 hE ⟨trivial, ?_⟩
  have hn : tkW w a = none := by
    unfold tkW
    rw [if_neg (by omega), if_neg (by omega), if_neg (by omega), if_neg (by omega), if_neg (by omega), if_neg (by omega)]
  unfold tkI at hQ
  rw [hn] at hQ
  exact hQ
theorem s_40 (hsp : ox_mono sp) {w a : Nat} (hw : w < 2 ^ 31) (hQ : Q (some (.inl (nI (gvW w a)))) S) : ox_M sp (d + 1) 40 [.inl (nI w), .inl (nI a)] mr sr S Q := by
  have hk : ∀ (k : Nat) (r : Int32), w = k → nI (gvW k a) = r → Q (some (.inl r)) S := fun k r e1 e2 => by subst e1; rw [e2] at hQ; exact hQ
  refine f_40 hsp ?_
  unfold q_40
  rw [nI_toInt hw]
  refine ⟨fun z => ⟨trivial, hk 1 (0 : Int32) (by omega) rfl⟩, fun z1 => ?_⟩
  refine ⟨fun z => ⟨trivial, hk 2 (2 : Int32) (by omega) rfl⟩, fun z2 => ?_⟩
  refine ⟨fun z => ⟨trivial, hk 3 (3 : Int32) (by omega) rfl⟩, fun z3 => ?_⟩
  refine ⟨fun z => ⟨trivial, hk 4 (2 : Int32) (by omega) rfl⟩, fun z4 => ?_⟩
  refine ⟨fun z => ⟨trivial, hk 83 (0 : Int32) (by omega) rfl⟩, fun z83 => ?_⟩
  refine ⟨fun z => ⟨trivial, hk 87 (0 : Int32) (by omega) rfl⟩, fun z87 => ?_⟩
  refine ⟨fun z => ⟨trivial, hk 90 (0 : Int32) (by omega) rfl⟩, fun z90 => ?_⟩
  refine ⟨fun z => ⟨trivial, hk 92 (nI a) (by omega) rfl⟩, fun z92 => ?_⟩
  refine ⟨fun z => ⟨trivial, hk 93 (2 : Int32) (by omega) rfl⟩, fun z93 => ?_⟩
  refine ⟨fun z => ⟨trivial, hk 110 (0 : Int32) (by omega) rfl⟩, fun z110 => ?_⟩
  refine ⟨fun z => ⟨trivial, hk 113 (0 : Int32) (by omega) rfl⟩, fun z113 => ?_⟩
  refine ⟨fun z => ⟨trivial, hk 114 (0 : Int32) (by omega) rfl⟩, fun z114 => ?_⟩
  refine ⟨fun z => ⟨trivial, hk 115 (0 : Int32) (by omega) rfl⟩, fun z115 => ?_⟩
  refine ⟨fun z => ⟨trivial, hk 122 (0 : Int32) (by omega) rfl⟩, fun z122 => ?_⟩
  refine ⟨fun z => ⟨trivial, hk 125 (0 : Int32) (by omega) rfl⟩, fun z125 => ?_⟩
  refine ⟨fun z => ⟨trivial, hk 130 (0 : Int32) (by omega) rfl⟩, fun z130 => ?_⟩
  refine ⟨trivial, ?_⟩
  have hn : gvW w a = 1 := by
    unfold gvW
    rw [if_neg (by omega), if_neg (by omega), if_neg (by omega), if_neg (by omega)]
  rw [hn] at hQ
  exact hQ
/-- the class's CODE at c is the code κ -/
def cSh (S : ox_St) (c : Nat) (κ : oCd) : Prop := S.K c = 3 ∧ (S.I 7 c = nI (cdA κ) ∧ S.I 8 c = nI (cdL κ) ∧ S.I 9 c = nI (cdM κ)) ∧ (S.K (S.R 10 c) = 15 ∧ S.len (S.R 10 c) = cdN κ ∧ ∀ p, p < cdN κ → S.rI (S.R 10 c) p = nI (cdB κ p)) ∧ (S.K (S.R 11 c) = 19 ∧ S.len (S.R 11 c) = cdK κ) ∧ (S.K (S.R 12 c) = 16 ∧ S.len (S.R 12 c) = cdW κ) ∧ cdO κ
theorem s_38 (hsp : ox_mono sp) {x c w a : Nat} {κ : oCd} (hx : S.K x = 6) (hc : S.R 29 x = c) (h : cSh S c κ) (hw : w < 2 ^ 31) (ha : a < 2 ^ 31) (hQ1 : agW κ w a → Q (some (.inl 1)) S) (hQ0 : ¬ agW κ w a → Q (some (.inl 0)) S) : ox_M sp (d + 1) 38 [.inr (.inr x), .inl (nI w), .inl (nI a)] mr sr S Q := by
  obtain ⟨h1, ⟨h2, h3, h4⟩, -, ⟨h5, h6⟩, ⟨h7, h8⟩, o1, o2, o3, o4, o5, o6, o7, o8, o9⟩ := h
  refine f_38 hsp ?_
  unfold q_38
  rw [nI_toInt hw, hx, hc, h1, h5, h6, h7, h8, h3, show Int32.ofNat (cdK κ) = nI (cdK κ) from rfl, show Int32.ofNat (cdW κ) = nI (cdW κ) from rfl]
  refine ⟨fun z => ⟨rfl, rfl, rfl, fun y => ⟨Or.inl rfl, hQ0 (fun g => by have := (nI_leI (b := a) (by omega) ha).mp y; unfold agW at g; omega)⟩, fun y => ⟨Or.inr rfl, hQ1 (by have : ¬ cdW κ ≤ a := fun e => y (nI_le e ha); unfold agW; omega)⟩⟩, fun z90 => ?_⟩
  refine ⟨fun z => ⟨Or.inr rfl, hQ1 (by unfold agW; omega)⟩, fun z91 => ?_⟩
  refine ⟨fun z => ⟨fun y => ⟨Or.inl rfl, hQ0 (fun g => by have := (nI_ltI (a := 10) (by decide) ha).mp y; unfold agW at g; omega)⟩, fun y => ⟨Or.inr rfl, hQ1 (by have : ¬ 10 < a := fun e => y (nI_lt (a := 10) e ha); unfold agW; omega)⟩⟩, fun z92 => ?_⟩
  refine ⟨fun z => ⟨Or.inr rfl, hQ1 (by unfold agW; omega)⟩, fun z93 => ?_⟩
  refine ⟨fun z => ⟨Or.inr rfl, hQ1 (by unfold agW; omega)⟩, fun z94 => ?_⟩
  refine ⟨fun z => ⟨Or.inr rfl, hQ1 (by unfold agW; omega)⟩, fun z95 => ?_⟩
  refine ⟨fun z => ⟨Or.inr rfl, hQ1 (by unfold agW; omega)⟩, fun z96 => ?_⟩
  refine ⟨fun z => ⟨Or.inr rfl, hQ1 (by unfold agW; omega)⟩, fun z97 => ?_⟩
  refine ⟨fun z => ⟨Or.inr rfl, hQ1 (by unfold agW; omega)⟩, fun z98 => ?_⟩
  refine ⟨fun z => ⟨Or.inr rfl, hQ1 (by unfold agW; omega)⟩, fun z99 => ?_⟩
  refine ⟨fun z => ⟨rfl, rfl, rfl, fun y => ⟨Or.inl rfl, hQ0 (fun g => by have := (nI_leI (b := a) (by omega) ha).mp y; unfold agW at g; omega)⟩, fun y => ⟨Or.inr rfl, hQ1 (by have : ¬ cdK κ ≤ a := fun e => y (nI_le e ha); unfold agW; omega)⟩⟩, fun z100 => ?_⟩
  refine ⟨fun z => ⟨rfl, rfl, rfl, fun y => ⟨Or.inl rfl, hQ0 (fun g => by have := (nI_leI (b := a) (by omega) ha).mp y; unfold agW at g; omega)⟩, fun y => ⟨Or.inr rfl, hQ1 (by have : ¬ cdW κ ≤ a := fun e => y (nI_le e ha); unfold agW; omega)⟩⟩, fun z101 => ?_⟩
  refine ⟨fun z => ⟨fun y => ⟨Or.inl rfl, hQ0 (fun g => by have := (nI_ltI (a := 10) (by decide) ha).mp y; unfold agW at g; omega)⟩, fun y => ⟨Or.inr rfl, hQ1 (by have : ¬ 10 < a := fun e => y (nI_lt (a := 10) e ha); unfold agW; omega)⟩⟩, fun z102 => ?_⟩
  refine ⟨fun z => ⟨Or.inr rfl, hQ1 (by unfold agW; omega)⟩, fun z103 => ?_⟩
  refine ⟨fun z => ⟨Or.inr rfl, hQ1 (by unfold agW; omega)⟩, fun z104 => ?_⟩
  refine ⟨fun z => ⟨Or.inr rfl, hQ1 (by unfold agW; omega)⟩, fun z105 => ?_⟩
  refine ⟨fun z => ⟨Or.inr rfl, hQ1 (by unfold agW; omega)⟩, fun z106 => ?_⟩
  refine ⟨fun z => ⟨fun y => ⟨Or.inr rfl, hQ1 (by have := (nI_leI (b := 5) ha (by decide)).mp y; unfold agW; omega)⟩, fun y => ⟨fun y2 => ⟨Or.inl rfl, hQ0 (fun g => by have e1 : ¬ a ≤ 5 := fun e => y (nI_le (b := 5) e (by decide)); have e2 : ¬ a = 10 := fun e => y2 (by rw [e]; rfl); unfold agW at g; omega)⟩, fun y2 => ⟨Or.inr rfl, hQ1 (by have := (nI_eq (b := 10) ha (by decide)).mp y2; unfold agW; omega)⟩⟩⟩, fun z107 => ?_⟩
  refine ⟨fun z => ⟨Or.inr rfl, hQ1 (by unfold agW; omega)⟩, fun z108 => ?_⟩
  refine ⟨fun z => ⟨Or.inr rfl, hQ1 (by unfold agW; omega)⟩, fun z109 => ?_⟩
  refine ⟨fun z => ⟨Or.inr rfl, hQ1 (by unfold agW; omega)⟩, fun z110 => ?_⟩
  refine ⟨fun z => ⟨Or.inr rfl, hQ1 (by unfold agW; omega)⟩, fun z111 => ?_⟩
  refine ⟨fun z => ⟨Or.inr rfl, hQ1 (by unfold agW; omega)⟩, fun z112 => ?_⟩
  refine ⟨fun z => ⟨Or.inr rfl, hQ1 (by unfold agW; omega)⟩, fun z113 => ?_⟩
  refine ⟨fun z => ⟨Or.inr rfl, hQ1 (by unfold agW; omega)⟩, fun z114 => ?_⟩
  refine ⟨fun z => ⟨Or.inr rfl, hQ1 (by unfold agW; omega)⟩, fun z115 => ?_⟩
  refine ⟨fun z => ⟨Or.inr rfl, hQ1 (by unfold agW; omega)⟩, fun z116 => ?_⟩
  refine ⟨fun z => ⟨Or.inr rfl, hQ1 (by unfold agW; omega)⟩, fun z117 => ?_⟩
  refine ⟨fun z => ⟨Or.inr rfl, hQ1 (by unfold agW; omega)⟩, fun z118 => ?_⟩
  refine ⟨fun z => ⟨Or.inr rfl, hQ1 (by unfold agW; omega)⟩, fun z119 => ?_⟩
  refine ⟨fun z => ⟨Or.inr rfl, hQ1 (by unfold agW; omega)⟩, fun z120 => ?_⟩
  refine ⟨fun z => ⟨Or.inr rfl, hQ1 (by unfold agW; omega)⟩, fun z121 => ?_⟩
  refine ⟨fun z => ⟨Or.inr rfl, hQ1 (by unfold agW; omega)⟩, fun z122 => ?_⟩
  refine ⟨fun z => ⟨Or.inr rfl, hQ1 (by unfold agW; omega)⟩, fun z123 => ?_⟩
  refine ⟨fun z => ⟨rfl, rfl, fun y => ⟨Or.inl rfl, hQ0 (fun g => by have := (nI_leI (b := a) (by omega) ha).mp y; unfold agW at g; omega)⟩, fun y => ⟨Or.inr rfl, hQ1 (by have : ¬ cdL κ ≤ a := fun e => y (nI_le e ha); unfold agW; omega)⟩⟩, fun z124 => ?_⟩
  refine ⟨fun z => ⟨rfl, rfl, fun y => ⟨Or.inl rfl, hQ0 (fun g => by have := (nI_leI (b := a) (by omega) ha).mp y; unfold agW at g; omega)⟩, fun y => ⟨Or.inr rfl, hQ1 (by have : ¬ cdL κ ≤ a := fun e => y (nI_le e ha); unfold agW; omega)⟩⟩, fun z125 => ?_⟩
  refine ⟨fun z => ⟨Or.inr rfl, hQ1 (by unfold agW; omega)⟩, fun z126 => ?_⟩
  refine ⟨fun z => ⟨Or.inr rfl, hQ1 (by unfold agW; omega)⟩, fun z127 => ?_⟩
  refine ⟨fun z => ⟨Or.inr rfl, hQ1 (by unfold agW; omega)⟩, fun z128 => ?_⟩
  refine ⟨fun z => ⟨Or.inr rfl, hQ1 (by unfold agW; omega)⟩, fun z129 => ?_⟩
  refine ⟨fun z => ⟨fun y => ⟨Or.inl rfl, hQ0 (fun g => by have e2 : ¬ a = 1 := fun e => y (by rw [e]; rfl); unfold agW at g; omega)⟩, fun y => ⟨Or.inr rfl, hQ1 (by have := (nI_eq (b := 1) ha (by decide)).mp y; unfold agW; omega)⟩⟩, fun z130 => ?_⟩
  refine ⟨fun z => ⟨fun y => ⟨Or.inl rfl, hQ0 (fun g => by have := (nI_ltI (a := 4) (by decide) ha).mp y; unfold agW at g; omega)⟩, fun y => ⟨Or.inr rfl, hQ1 (by have : ¬ 4 < a := fun e => y (nI_lt (a := 4) e ha); unfold agW; omega)⟩⟩, fun z131 => ?_⟩
  refine ⟨fun z => ⟨fun y => ⟨Or.inl rfl, hQ0 (fun g => by have e2 : ¬ a = 0 := fun e => y (by rw [e]; rfl); unfold agW at g; omega)⟩, fun y => ⟨Or.inr rfl, hQ1 (by have := (nI_eq (b := 0) ha (by decide)).mp y; unfold agW; omega)⟩⟩, fun z132 => ?_⟩
  exact ⟨Or.inr rfl, hQ1 (by unfold agW; omega)⟩
end OTK
