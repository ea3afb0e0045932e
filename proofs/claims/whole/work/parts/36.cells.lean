/-! single cells, and literals -/
section ZCELLS
variable {b : Bool} {I : zI} {J : zJ} {α : Type}
theorem zo0 {r : Option α} : zv_ob (zM b I J) 11 0 r = r := zob rfl
theorem zo1 {r : Option α} : zv_ob (zM b I J) 9 1 r = r := zob rfl
theorem zo2 {r : Option α} : zv_ob (zM b I J) 4 2 r = r := zob rfl
theorem zo7 {r : Option α} : zv_ob (zM b I J) 0 7 r = r := zob rfl
theorem zo10 {r : Option α} : zv_ob (zM b I J) 3 10 r = r := zob rfl
theorem zo12 {r : Option α} : zv_ob (zM b I J) 6 12 r = r := zob rfl
theorem zo16 {r : Option α} : zv_ob (zM b I J) 9 16 r = r := zob rfl
theorem zo17 {r : Option α} : zv_ob (zM b I J) 4 17 r = r := zob rfl
theorem zo22 {r : Option α} : zv_ob (zM b I J) 0 22 r = r := zob rfl
theorem zo25 {r : Option α} : zv_ob (zM b I J) 3 25 r = r := zob rfl
theorem zo27 {r : Option α} : zv_ob (zM b I J) 6 27 r = r := zob rfl
theorem zo31 {r : Option α} : zv_ob (zM b I J) 10 31 r = r := zob rfl
theorem zo33 {r : Option α} : zv_ob (zM b I J) 4 33 r = r := zob rfl
theorem zo40 {r : Option α} : zv_ob (zM b I J) 1 40 r = r := zob rfl
theorem zo42 {r : Option α} : zv_ob (zM b I J) 2 42 r = r := zob rfl
theorem zo43 {r : Option α} : zv_ob (zM b I J) 7 43 r = r := zob rfl
theorem zo46 {r : Option α} : zv_ob (zM b I J) 7 46 r = r := zob rfl
theorem zo49 {r : Option α} : zv_ob (zM b I J) 5 49 r = r := zob rfl
theorem zo55 {r : Option α} : zv_ob (zM b I J) 5 55 r = r := zob rfl
theorem zo61 {r : Option α} : zv_ob (zM b I J) 5 61 r = r := zob rfl
theorem zo67 {r : Option α} : zv_ob (zM b I J) 5 67 r = r := zob rfl
theorem zo73 {r : Option α} : zv_ob (zM b I J) 5 73 r = r := zob rfl
theorem zo79 {r : Option α} : zv_ob (zM b I J) 5 79 r = r := zob rfl
theorem zo85 {r : Option α} : zv_ob (zM b I J) 5 85 r = r := zob rfl
theorem zo91 {r : Option α} : zv_ob (zM b I J) 5 91 r = r := zob rfl
theorem zo97 {r : Option α} : zv_ob (zM b I J) 5 97 r = r := zob rfl
theorem zo103 {r : Option α} : zv_ob (zM b I J) 5 103 r = r := zob rfl
theorem zo109 {r : Option α} : zv_ob (zM b I J) 1 109 r = r := zob rfl
theorem zo111 {r : Option α} : zv_ob (zM b I J) 2 111 r = r := zob rfl
theorem zo112 {r : Option α} : zv_ob (zM b I J) 7 112 r = r := zob rfl
theorem zo115 {r : Option α} : zv_ob (zM b I J) 7 115 r = r := zob rfl
theorem zo118 {r : Option α} : zv_ob (zM b I J) 5 118 r = r := zob rfl
theorem zo124 {r : Option α} : zv_ob (zM b I J) 5 124 r = r := zob rfl
theorem zo130 {r : Option α} : zv_ob (zM b I J) 5 130 r = r := zob rfl
theorem zo136 {r : Option α} : zv_ob (zM b I J) 5 136 r = r := zob rfl
theorem zo142 {r : Option α} : zv_ob (zM b I J) 5 142 r = r := zob rfl
theorem zo148 {r : Option α} : zv_ob (zM b I J) 5 148 r = r := zob rfl
theorem zo154 {r : Option α} : zv_ob (zM b I J) 5 154 r = r := zob rfl
theorem zo160 {r : Option α} : zv_ob (zM b I J) 5 160 r = r := zob rfl
theorem zo166 {r : Option α} : zv_ob (zM b I J) 5 166 r = r := zob rfl
theorem zo172 {r : Option α} : zv_ob (zM b I J) 5 172 r = r := zob rfl
theorem zo178 {r : Option α} : zv_ob (zM b I J) 8 178 r = r := zob rfl
theorem zo181 {r : Option α} : zv_ob (zM b I J) 12 181 r = r := zob rfl
theorem zp0_0 : zP b 0 0 = some 1 := rfl
theorem zp0_1 : zP b 0 1 = some 16 := rfl
theorem zp0_3 : zP b 0 3 = some 31 := rfl
theorem zp0_4 : zP b 0 4 = some 40 := rfl
theorem zp0_5 : zP b 0 5 = some 109 := rfl
theorem zp0_6 : zP b 0 6 = some 178 := rfl
theorem zp0_7 : zP b 0 7 = some 180 := rfl
theorem zp1_0 : zP b 1 0 = some 2 := rfl
theorem zp1_1 : zP b 1 1 = some 5 := rfl
theorem zp1_3 : zP b 1 3 = some 6 := rfl
theorem zp1_5 : zP b 1 5 = some 7 := rfl
theorem zp1_6 : zP b 1 6 = some 10 := rfl
theorem zp1_7 : zP b 1 7 = some 12 := rfl
theorem zp2_0 : zP b 2 0 = some 3 := rfl
theorem zp2_1 : zP b 2 1 = some 4 := rfl
theorem zp7_0 : zP b 7 0 = some 8 := rfl
theorem zp7_1 : zP b 7 1 = some 9 := rfl
theorem zp10_0 : zP b 10 0 = some 11 := rfl
theorem zp12_0 : zP b 12 0 = some 13 := rfl
theorem zp12_1 : zP b 12 1 = some 14 := rfl
theorem zp12_3 : zP b 12 3 = some 15 := rfl
theorem zp16_0 : zP b 16 0 = some 17 := rfl
theorem zp16_1 : zP b 16 1 = some 20 := rfl
theorem zp16_3 : zP b 16 3 = some 21 := rfl
theorem zp16_5 : zP b 16 5 = some 22 := rfl
theorem zp16_6 : zP b 16 6 = some 25 := rfl
theorem zp16_7 : zP b 16 7 = some 27 := rfl
theorem zp17_0 : zP b 17 0 = some 18 := rfl
theorem zp17_1 : zP b 17 1 = some 19 := rfl
theorem zp22_0 : zP b 22 0 = some 23 := rfl
theorem zp22_1 : zP b 22 1 = some 24 := rfl
theorem zp25_0 : zP b 25 0 = some 26 := rfl
theorem zp27_0 : zP b 27 0 = some 28 := rfl
theorem zp27_1 : zP b 27 1 = some 29 := rfl
theorem zp27_3 : zP b 27 3 = some 30 := rfl
theorem zp31_0 : zP b 31 0 = some 32 := rfl
theorem zp31_2 : zP b 31 2 = some 33 := rfl
theorem zp31_3 : zP b 31 3 = some 36 := rfl
theorem zp31_6 : zP b 31 6 = some 37 := rfl
theorem zp31_7 : zP b 31 7 = some 38 := rfl
theorem zp31_8 : zP b 31 8 = some 39 := rfl
theorem zp33_0 : zP b 33 0 = some 34 := rfl
theorem zp33_1 : zP b 33 1 = some 35 := rfl
theorem zp40_0 : zP b 40 0 = some 41 := rfl
theorem zp40_1 : zP b 40 1 = some 42 := rfl
theorem zp42_0 : zP b 42 0 = some 43 := rfl
theorem zp42_1 : zP b 42 1 = some 46 := rfl
theorem zp43_0 : zP b 43 0 = some 44 := rfl
theorem zp43_1 : zP b 43 1 = some 45 := rfl
theorem zp46_0 : zP b 46 0 = some 47 := rfl
theorem zp46_1 : zP b 46 1 = some 48 := rfl
theorem zp49_0 : zP b 49 0 = some 50 := rfl
theorem zp49_4 : zP b 49 4 = some 51 := rfl
theorem zp49_5 : zP b 49 5 = some 52 := rfl
theorem zp49_6 : zP b 49 6 = some 53 := rfl
theorem zp49_7 : zP b 49 7 = some 54 := rfl
theorem zp55_0 : zP b 55 0 = some 56 := rfl
theorem zp55_4 : zP b 55 4 = some 57 := rfl
theorem zp55_5 : zP b 55 5 = some 58 := rfl
theorem zp55_6 : zP b 55 6 = some 59 := rfl
theorem zp55_7 : zP b 55 7 = some 60 := rfl
theorem zp61_0 : zP b 61 0 = some 62 := rfl
theorem zp61_4 : zP b 61 4 = some 63 := rfl
theorem zp61_5 : zP b 61 5 = some 64 := rfl
theorem zp61_6 : zP b 61 6 = some 65 := rfl
theorem zp61_7 : zP b 61 7 = some 66 := rfl
theorem zp67_0 : zP b 67 0 = some 68 := rfl
theorem zp67_4 : zP b 67 4 = some 69 := rfl
theorem zp67_5 : zP b 67 5 = some 70 := rfl
theorem zp67_6 : zP b 67 6 = some 71 := rfl
theorem zp67_7 : zP b 67 7 = some 72 := rfl
theorem zp73_0 : zP b 73 0 = some 74 := rfl
theorem zp73_4 : zP b 73 4 = some 75 := rfl
theorem zp73_5 : zP b 73 5 = some 76 := rfl
theorem zp73_6 : zP b 73 6 = some 77 := rfl
theorem zp73_7 : zP b 73 7 = some 78 := rfl
theorem zp79_0 : zP b 79 0 = some 80 := rfl
theorem zp79_4 : zP b 79 4 = some 81 := rfl
theorem zp79_5 : zP b 79 5 = some 82 := rfl
theorem zp79_6 : zP b 79 6 = some 83 := rfl
theorem zp79_7 : zP b 79 7 = some 84 := rfl
theorem zp85_0 : zP b 85 0 = some 86 := rfl
theorem zp85_4 : zP b 85 4 = some 87 := rfl
theorem zp85_5 : zP b 85 5 = some 88 := rfl
theorem zp85_6 : zP b 85 6 = some 89 := rfl
theorem zp85_7 : zP b 85 7 = some 90 := rfl
theorem zp91_0 : zP b 91 0 = some 92 := rfl
theorem zp91_4 : zP b 91 4 = some 93 := rfl
theorem zp91_5 : zP b 91 5 = some 94 := rfl
theorem zp91_6 : zP b 91 6 = some 95 := rfl
theorem zp91_7 : zP b 91 7 = some 96 := rfl
theorem zp97_0 : zP b 97 0 = some 98 := rfl
theorem zp97_4 : zP b 97 4 = some 99 := rfl
theorem zp97_5 : zP b 97 5 = some 100 := rfl
theorem zp97_6 : zP b 97 6 = some 101 := rfl
theorem zp97_7 : zP b 97 7 = some 102 := rfl
theorem zp103_0 : zP b 103 0 = some 104 := rfl
theorem zp103_4 : zP b 103 4 = some 105 := rfl
theorem zp103_5 : zP b 103 5 = some 106 := rfl
theorem zp103_6 : zP b 103 6 = some 107 := rfl
theorem zp103_7 : zP b 103 7 = some 108 := rfl
theorem zp109_0 : zP b 109 0 = some 110 := rfl
theorem zp109_1 : zP b 109 1 = some 111 := rfl
theorem zp111_0 : zP b 111 0 = some 112 := rfl
theorem zp111_1 : zP b 111 1 = some 115 := rfl
theorem zp112_0 : zP b 112 0 = some 113 := rfl
theorem zp112_1 : zP b 112 1 = some 114 := rfl
theorem zp115_0 : zP b 115 0 = some 116 := rfl
theorem zp115_1 : zP b 115 1 = some 117 := rfl
theorem zp118_0 : zP b 118 0 = some 119 := rfl
theorem zp118_4 : zP b 118 4 = some 120 := rfl
theorem zp118_5 : zP b 118 5 = some 121 := rfl
theorem zp118_6 : zP b 118 6 = some 122 := rfl
theorem zp118_7 : zP b 118 7 = some 123 := rfl
theorem zp124_0 : zP b 124 0 = some 125 := rfl
theorem zp124_4 : zP b 124 4 = some 126 := rfl
theorem zp124_5 : zP b 124 5 = some 127 := rfl
theorem zp124_6 : zP b 124 6 = some 128 := rfl
theorem zp124_7 : zP b 124 7 = some 129 := rfl
theorem zp130_0 : zP b 130 0 = some 131 := rfl
theorem zp130_4 : zP b 130 4 = some 132 := rfl
theorem zp130_5 : zP b 130 5 = some 133 := rfl
theorem zp130_6 : zP b 130 6 = some 134 := rfl
theorem zp130_7 : zP b 130 7 = some 135 := rfl
theorem zp136_0 : zP b 136 0 = some 137 := rfl
theorem zp136_4 : zP b 136 4 = some 138 := rfl
theorem zp136_5 : zP b 136 5 = some 139 := rfl
theorem zp136_6 : zP b 136 6 = some 140 := rfl
theorem zp136_7 : zP b 136 7 = some 141 := rfl
theorem zp142_0 : zP b 142 0 = some 143 := rfl
theorem zp142_4 : zP b 142 4 = some 144 := rfl
theorem zp142_5 : zP b 142 5 = some 145 := rfl
theorem zp142_6 : zP b 142 6 = some 146 := rfl
theorem zp142_7 : zP b 142 7 = some 147 := rfl
theorem zp148_0 : zP b 148 0 = some 149 := rfl
theorem zp148_4 : zP b 148 4 = some 150 := rfl
theorem zp148_5 : zP b 148 5 = some 151 := rfl
theorem zp148_6 : zP b 148 6 = some 152 := rfl
theorem zp148_7 : zP b 148 7 = some 153 := rfl
theorem zp154_0 : zP b 154 0 = some 155 := rfl
theorem zp154_4 : zP b 154 4 = some 156 := rfl
theorem zp154_5 : zP b 154 5 = some 157 := rfl
theorem zp154_6 : zP b 154 6 = some 158 := rfl
theorem zp154_7 : zP b 154 7 = some 159 := rfl
theorem zp160_0 : zP b 160 0 = some 161 := rfl
theorem zp160_4 : zP b 160 4 = some 162 := rfl
theorem zp160_5 : zP b 160 5 = some 163 := rfl
theorem zp160_6 : zP b 160 6 = some 164 := rfl
theorem zp160_7 : zP b 160 7 = some 165 := rfl
theorem zp166_0 : zP b 166 0 = some 167 := rfl
theorem zp166_4 : zP b 166 4 = some 168 := rfl
theorem zp166_5 : zP b 166 5 = some 169 := rfl
theorem zp166_6 : zP b 166 6 = some 170 := rfl
theorem zp166_7 : zP b 166 7 = some 171 := rfl
theorem zp172_0 : zP b 172 0 = some 173 := rfl
theorem zp172_4 : zP b 172 4 = some 174 := rfl
theorem zp172_5 : zP b 172 5 = some 175 := rfl
theorem zp172_6 : zP b 172 6 = some 176 := rfl
theorem zp172_7 : zP b 172 7 = some 177 := rfl
theorem zp178_0 : zP b 178 0 = some 179 := rfl
theorem zp181_0 : zP b 181 0 = some 182 := rfl
theorem zp181_1 : zP b 181 1 = some 183 := rfl
theorem zp181_2 : zP b 181 2 = some 184 := rfl
theorem zp181_4 : zP b 181 4 = some 185 := rfl
theorem zp181_5 : zP b 181 5 = some 186 := rfl
theorem zp181_6 : zP b 181 6 = some 187 := rfl
theorem zp181_17 : zP b 181 17 = some 188 := rfl
theorem zp181_18 : zP b 181 18 = some 201 := rfl
theorem zp181_19 : zP b 181 19 = some 214 := rfl
theorem zp181_20 : zP b 181 20 = some 227 := rfl
theorem zp181_21 : zP b 181 21 = some 240 := rfl
theorem zp181_22 : zP b 181 22 = some 253 := rfl
theorem zp181_23 : zP b 181 23 = some 254 := rfl
theorem zp181_24 : zP b 181 24 = some 255 := rfl
theorem zp181_31 : zP b 181 31 = some 256 := rfl
theorem zp181_32 : zP b 181 32 = some 257 := rfl
theorem zx3 {k : Nat → Option α} {j : Nat} (hj : j < 300) : zv_ix (zM b I J) 0 3 (Int32.ofNat j) k = k j := zix rfl hj (by decide)
theorem zx4 {k : Nat → Option α} {j : Nat} (hj : j < 300) : zv_ix (zM b I J) 0 4 (Int32.ofNat j) k = k j := zix rfl hj (by decide)
theorem zx5 {k : Nat → Option α} {j : Nat} (hj : j < 300) : zv_ix (zM b I J) 0 5 (Int32.ofNat j) k = k j := zix rfl hj (by decide)
theorem zx6 {k : Nat → Option α} {j : Nat} (hj : j < 8) : zv_ix (zM b I J) 0 6 (Int32.ofNat j) k = k j := zix rfl hj (by decide)
theorem zx8 {k : Nat → Option α} {j : Nat} (hj : j < 20) : zv_ix (zM b I J) 0 8 (Int32.ofNat j) k = k j := zix rfl hj (by decide)
theorem zx9 {k : Nat → Option α} {j : Nat} (hj : j < 20) : zv_ix (zM b I J) 0 9 (Int32.ofNat j) k = k j := zix rfl hj (by decide)
theorem zx11 {k : Nat → Option α} {j : Nat} (hj : j < 64) : zv_ix (zM b I J) 0 11 (Int32.ofNat j) k = k j := zix rfl hj (by decide)
theorem zx13 {k : Nat → Option α} {j : Nat} (hj : j < 100) : zv_ix (zM b I J) 0 13 (Int32.ofNat j) k = k j := zix rfl hj (by decide)
theorem zx14 {k : Nat → Option α} {j : Nat} (hj : j < 100) : zv_ix (zM b I J) 0 14 (Int32.ofNat j) k = k j := zix rfl hj (by decide)
theorem zx15 {k : Nat → Option α} {j : Nat} (hj : j < 32) : zv_ix (zM b I J) 0 15 (Int32.ofNat j) k = k j := zix rfl hj (by decide)
theorem zx18 {k : Nat → Option α} {j : Nat} (hj : j < 300) : zv_ix (zM b I J) 0 18 (Int32.ofNat j) k = k j := zix rfl hj (by decide)
theorem zx19 {k : Nat → Option α} {j : Nat} (hj : j < 300) : zv_ix (zM b I J) 0 19 (Int32.ofNat j) k = k j := zix rfl hj (by decide)
theorem zx20 {k : Nat → Option α} {j : Nat} (hj : j < 300) : zv_ix (zM b I J) 0 20 (Int32.ofNat j) k = k j := zix rfl hj (by decide)
theorem zx21 {k : Nat → Option α} {j : Nat} (hj : j < 8) : zv_ix (zM b I J) 0 21 (Int32.ofNat j) k = k j := zix rfl hj (by decide)
theorem zx23 {k : Nat → Option α} {j : Nat} (hj : j < 20) : zv_ix (zM b I J) 0 23 (Int32.ofNat j) k = k j := zix rfl hj (by decide)
theorem zx24 {k : Nat → Option α} {j : Nat} (hj : j < 20) : zv_ix (zM b I J) 0 24 (Int32.ofNat j) k = k j := zix rfl hj (by decide)
theorem zx26 {k : Nat → Option α} {j : Nat} (hj : j < 64) : zv_ix (zM b I J) 0 26 (Int32.ofNat j) k = k j := zix rfl hj (by decide)
theorem zx28 {k : Nat → Option α} {j : Nat} (hj : j < 100) : zv_ix (zM b I J) 0 28 (Int32.ofNat j) k = k j := zix rfl hj (by decide)
theorem zx29 {k : Nat → Option α} {j : Nat} (hj : j < 100) : zv_ix (zM b I J) 0 29 (Int32.ofNat j) k = k j := zix rfl hj (by decide)
theorem zx30 {k : Nat → Option α} {j : Nat} (hj : j < 32) : zv_ix (zM b I J) 0 30 (Int32.ofNat j) k = k j := zix rfl hj (by decide)
theorem zx32 {k : Nat → Option α} {j : Nat} (hj : j < 600) : zv_ix (zM b I J) 2 32 (Int32.ofNat j) k = k j := zix rfl hj (by decide)
theorem zx34 {k : Nat → Option α} {j : Nat} (hj : j < 300) : zv_ix (zM b I J) 0 34 (Int32.ofNat j) k = k j := zix rfl hj (by decide)
theorem zx35 {k : Nat → Option α} {j : Nat} (hj : j < 300) : zv_ix (zM b I J) 0 35 (Int32.ofNat j) k = k j := zix rfl hj (by decide)
theorem zx36 {k : Nat → Option α} {j : Nat} (hj : j < 8) : zv_ix (zM b I J) 0 36 (Int32.ofNat j) k = k j := zix rfl hj (by decide)
theorem zx37 {k : Nat → Option α} {j : Nat} (hj : j < 601) : zv_ix (zM b I J) 0 37 (Int32.ofNat j) k = k j := zix rfl hj (by decide)
theorem zx38 {k : Nat → Option α} {j : Nat} (hj : j < 601) : zv_ix (zM b I J) 0 38 (Int32.ofNat j) k = k j := zix rfl hj (by decide)
theorem zx39 {k : Nat → Option α} {j : Nat} (hj : j < 601) : zv_ix (zM b I J) 0 39 (Int32.ofNat j) k = k j := zix rfl hj (by decide)
theorem zx44 {k : Nat → Option α} {j : Nat} (hj : j < 301) : zv_ix (zM b I J) 0 44 (Int32.ofNat j) k = k j := zix rfl hj (by decide)
theorem zx45 {k : Nat → Option α} {j : Nat} (hj : j < 301) : zv_ix (zM b I J) 0 45 (Int32.ofNat j) k = k j := zix rfl hj (by decide)
theorem zx47 {k : Nat → Option α} {j : Nat} (hj : j < 301) : zv_ix (zM b I J) 0 47 (Int32.ofNat j) k = k j := zix rfl hj (by decide)
theorem zx48 {k : Nat → Option α} {j : Nat} (hj : j < 301) : zv_ix (zM b I J) 0 48 (Int32.ofNat j) k = k j := zix rfl hj (by decide)
theorem zx50 {k : Nat → Option α} {j : Nat} (hj : j < 302) : zv_ix (zM b I J) 0 50 (Int32.ofNat j) k = k j := zix rfl hj (by decide)
theorem zx51 {k : Nat → Option α} {j : Nat} (hj : j < 152) : zv_ix (zM b I J) 0 51 (Int32.ofNat j) k = k j := zix rfl hj (by decide)
theorem zx52 {k : Nat → Option α} {j : Nat} (hj : j < 152) : zv_ix (zM b I J) 0 52 (Int32.ofNat j) k = k j := zix rfl hj (by decide)
theorem zx53 {k : Nat → Option α} {j : Nat} (hj : j < 152) : zv_ix (zM b I J) 0 53 (Int32.ofNat j) k = k j := zix rfl hj (by decide)
theorem zx54 {k : Nat → Option α} {j : Nat} (hj : j < 152) : zv_ix (zM b I J) 1 54 (Int32.ofNat j) k = k j := zix rfl hj (by decide)
theorem zx56 {k : Nat → Option α} {j : Nat} (hj : j < 152) : zv_ix (zM b I J) 0 56 (Int32.ofNat j) k = k j := zix rfl hj (by decide)
theorem zx57 {k : Nat → Option α} {j : Nat} (hj : j < 77) : zv_ix (zM b I J) 0 57 (Int32.ofNat j) k = k j := zix rfl hj (by decide)
theorem zx58 {k : Nat → Option α} {j : Nat} (hj : j < 77) : zv_ix (zM b I J) 0 58 (Int32.ofNat j) k = k j := zix rfl hj (by decide)
theorem zx59 {k : Nat → Option α} {j : Nat} (hj : j < 77) : zv_ix (zM b I J) 0 59 (Int32.ofNat j) k = k j := zix rfl hj (by decide)
theorem zx60 {k : Nat → Option α} {j : Nat} (hj : j < 77) : zv_ix (zM b I J) 1 60 (Int32.ofNat j) k = k j := zix rfl hj (by decide)
theorem zx62 {k : Nat → Option α} {j : Nat} (hj : j < 77) : zv_ix (zM b I J) 0 62 (Int32.ofNat j) k = k j := zix rfl hj (by decide)
theorem zx63 {k : Nat → Option α} {j : Nat} (hj : j < 39) : zv_ix (zM b I J) 0 63 (Int32.ofNat j) k = k j := zix rfl hj (by decide)
theorem zx64 {k : Nat → Option α} {j : Nat} (hj : j < 39) : zv_ix (zM b I J) 0 64 (Int32.ofNat j) k = k j := zix rfl hj (by decide)
theorem zx65 {k : Nat → Option α} {j : Nat} (hj : j < 39) : zv_ix (zM b I J) 0 65 (Int32.ofNat j) k = k j := zix rfl hj (by decide)
theorem zx66 {k : Nat → Option α} {j : Nat} (hj : j < 39) : zv_ix (zM b I J) 1 66 (Int32.ofNat j) k = k j := zix rfl hj (by decide)
theorem zx68 {k : Nat → Option α} {j : Nat} (hj : j < 39) : zv_ix (zM b I J) 0 68 (Int32.ofNat j) k = k j := zix rfl hj (by decide)
theorem zx69 {k : Nat → Option α} {j : Nat} (hj : j < 20) : zv_ix (zM b I J) 0 69 (Int32.ofNat j) k = k j := zix rfl hj (by decide)
theorem zx70 {k : Nat → Option α} {j : Nat} (hj : j < 20) : zv_ix (zM b I J) 0 70 (Int32.ofNat j) k = k j := zix rfl hj (by decide)
theorem zx71 {k : Nat → Option α} {j : Nat} (hj : j < 20) : zv_ix (zM b I J) 0 71 (Int32.ofNat j) k = k j := zix rfl hj (by decide)
theorem zx72 {k : Nat → Option α} {j : Nat} (hj : j < 20) : zv_ix (zM b I J) 1 72 (Int32.ofNat j) k = k j := zix rfl hj (by decide)
theorem zx74 {k : Nat → Option α} {j : Nat} (hj : j < 20) : zv_ix (zM b I J) 0 74 (Int32.ofNat j) k = k j := zix rfl hj (by decide)
theorem zx75 {k : Nat → Option α} {j : Nat} (hj : j < 11) : zv_ix (zM b I J) 0 75 (Int32.ofNat j) k = k j := zix rfl hj (by decide)
theorem zx76 {k : Nat → Option α} {j : Nat} (hj : j < 11) : zv_ix (zM b I J) 0 76 (Int32.ofNat j) k = k j := zix rfl hj (by decide)
theorem zx77 {k : Nat → Option α} {j : Nat} (hj : j < 11) : zv_ix (zM b I J) 0 77 (Int32.ofNat j) k = k j := zix rfl hj (by decide)
theorem zx78 {k : Nat → Option α} {j : Nat} (hj : j < 11) : zv_ix (zM b I J) 1 78 (Int32.ofNat j) k = k j := zix rfl hj (by decide)
theorem zx80 {k : Nat → Option α} {j : Nat} (hj : j < 11) : zv_ix (zM b I J) 0 80 (Int32.ofNat j) k = k j := zix rfl hj (by decide)
theorem zx81 {k : Nat → Option α} {j : Nat} (hj : j < 6) : zv_ix (zM b I J) 0 81 (Int32.ofNat j) k = k j := zix rfl hj (by decide)
theorem zx82 {k : Nat → Option α} {j : Nat} (hj : j < 6) : zv_ix (zM b I J) 0 82 (Int32.ofNat j) k = k j := zix rfl hj (by decide)
theorem zx83 {k : Nat → Option α} {j : Nat} (hj : j < 6) : zv_ix (zM b I J) 0 83 (Int32.ofNat j) k = k j := zix rfl hj (by decide)
theorem zx84 {k : Nat → Option α} {j : Nat} (hj : j < 6) : zv_ix (zM b I J) 1 84 (Int32.ofNat j) k = k j := zix rfl hj (by decide)
theorem zx86 {k : Nat → Option α} {j : Nat} (hj : j < 6) : zv_ix (zM b I J) 0 86 (Int32.ofNat j) k = k j := zix rfl hj (by decide)
theorem zx87 {k : Nat → Option α} {j : Nat} (hj : j < 4) : zv_ix (zM b I J) 0 87 (Int32.ofNat j) k = k j := zix rfl hj (by decide)
theorem zx88 {k : Nat → Option α} {j : Nat} (hj : j < 4) : zv_ix (zM b I J) 0 88 (Int32.ofNat j) k = k j := zix rfl hj (by decide)
theorem zx89 {k : Nat → Option α} {j : Nat} (hj : j < 4) : zv_ix (zM b I J) 0 89 (Int32.ofNat j) k = k j := zix rfl hj (by decide)
theorem zx90 {k : Nat → Option α} {j : Nat} (hj : j < 4) : zv_ix (zM b I J) 1 90 (Int32.ofNat j) k = k j := zix rfl hj (by decide)
theorem zx92 {k : Nat → Option α} {j : Nat} (hj : j < 4) : zv_ix (zM b I J) 0 92 (Int32.ofNat j) k = k j := zix rfl hj (by decide)
theorem zx93 {k : Nat → Option α} {j : Nat} (hj : j < 3) : zv_ix (zM b I J) 0 93 (Int32.ofNat j) k = k j := zix rfl hj (by decide)
theorem zx94 {k : Nat → Option α} {j : Nat} (hj : j < 3) : zv_ix (zM b I J) 0 94 (Int32.ofNat j) k = k j := zix rfl hj (by decide)
theorem zx95 {k : Nat → Option α} {j : Nat} (hj : j < 3) : zv_ix (zM b I J) 0 95 (Int32.ofNat j) k = k j := zix rfl hj (by decide)
theorem zx96 {k : Nat → Option α} {j : Nat} (hj : j < 3) : zv_ix (zM b I J) 1 96 (Int32.ofNat j) k = k j := zix rfl hj (by decide)
theorem zx98 {k : Nat → Option α} {j : Nat} (hj : j < 3) : zv_ix (zM b I J) 0 98 (Int32.ofNat j) k = k j := zix rfl hj (by decide)
theorem zx99 {k : Nat → Option α} {j : Nat} (hj : j < 2) : zv_ix (zM b I J) 0 99 (Int32.ofNat j) k = k j := zix rfl hj (by decide)
theorem zx100 {k : Nat → Option α} {j : Nat} (hj : j < 2) : zv_ix (zM b I J) 0 100 (Int32.ofNat j) k = k j := zix rfl hj (by decide)
theorem zx101 {k : Nat → Option α} {j : Nat} (hj : j < 2) : zv_ix (zM b I J) 0 101 (Int32.ofNat j) k = k j := zix rfl hj (by decide)
theorem zx102 {k : Nat → Option α} {j : Nat} (hj : j < 2) : zv_ix (zM b I J) 1 102 (Int32.ofNat j) k = k j := zix rfl hj (by decide)
theorem zx104 {k : Nat → Option α} {j : Nat} (hj : j < 2) : zv_ix (zM b I J) 0 104 (Int32.ofNat j) k = k j := zix rfl hj (by decide)
theorem zx105 {k : Nat → Option α} {j : Nat} (hj : j < 2) : zv_ix (zM b I J) 0 105 (Int32.ofNat j) k = k j := zix rfl hj (by decide)
theorem zx106 {k : Nat → Option α} {j : Nat} (hj : j < 2) : zv_ix (zM b I J) 0 106 (Int32.ofNat j) k = k j := zix rfl hj (by decide)
theorem zx107 {k : Nat → Option α} {j : Nat} (hj : j < 2) : zv_ix (zM b I J) 0 107 (Int32.ofNat j) k = k j := zix rfl hj (by decide)
theorem zx108 {k : Nat → Option α} {j : Nat} (hj : j < 2) : zv_ix (zM b I J) 1 108 (Int32.ofNat j) k = k j := zix rfl hj (by decide)
theorem zx113 {k : Nat → Option α} {j : Nat} (hj : j < 301) : zv_ix (zM b I J) 0 113 (Int32.ofNat j) k = k j := zix rfl hj (by decide)
theorem zx114 {k : Nat → Option α} {j : Nat} (hj : j < 301) : zv_ix (zM b I J) 0 114 (Int32.ofNat j) k = k j := zix rfl hj (by decide)
theorem zx116 {k : Nat → Option α} {j : Nat} (hj : j < 301) : zv_ix (zM b I J) 0 116 (Int32.ofNat j) k = k j := zix rfl hj (by decide)
theorem zx117 {k : Nat → Option α} {j : Nat} (hj : j < 301) : zv_ix (zM b I J) 0 117 (Int32.ofNat j) k = k j := zix rfl hj (by decide)
theorem zx119 {k : Nat → Option α} {j : Nat} (hj : j < 302) : zv_ix (zM b I J) 0 119 (Int32.ofNat j) k = k j := zix rfl hj (by decide)
theorem zx120 {k : Nat → Option α} {j : Nat} (hj : j < 152) : zv_ix (zM b I J) 0 120 (Int32.ofNat j) k = k j := zix rfl hj (by decide)
theorem zx121 {k : Nat → Option α} {j : Nat} (hj : j < 152) : zv_ix (zM b I J) 0 121 (Int32.ofNat j) k = k j := zix rfl hj (by decide)
theorem zx122 {k : Nat → Option α} {j : Nat} (hj : j < 152) : zv_ix (zM b I J) 0 122 (Int32.ofNat j) k = k j := zix rfl hj (by decide)
theorem zx123 {k : Nat → Option α} {j : Nat} (hj : j < 152) : zv_ix (zM b I J) 1 123 (Int32.ofNat j) k = k j := zix rfl hj (by decide)
theorem zx125 {k : Nat → Option α} {j : Nat} (hj : j < 152) : zv_ix (zM b I J) 0 125 (Int32.ofNat j) k = k j := zix rfl hj (by decide)
theorem zx126 {k : Nat → Option α} {j : Nat} (hj : j < 77) : zv_ix (zM b I J) 0 126 (Int32.ofNat j) k = k j := zix rfl hj (by decide)
theorem zx127 {k : Nat → Option α} {j : Nat} (hj : j < 77) : zv_ix (zM b I J) 0 127 (Int32.ofNat j) k = k j := zix rfl hj (by decide)
theorem zx128 {k : Nat → Option α} {j : Nat} (hj : j < 77) : zv_ix (zM b I J) 0 128 (Int32.ofNat j) k = k j := zix rfl hj (by decide)
theorem zx129 {k : Nat → Option α} {j : Nat} (hj : j < 77) : zv_ix (zM b I J) 1 129 (Int32.ofNat j) k = k j := zix rfl hj (by decide)
theorem zx131 {k : Nat → Option α} {j : Nat} (hj : j < 77) : zv_ix (zM b I J) 0 131 (Int32.ofNat j) k = k j := zix rfl hj (by decide)
theorem zx132 {k : Nat → Option α} {j : Nat} (hj : j < 39) : zv_ix (zM b I J) 0 132 (Int32.ofNat j) k = k j := zix rfl hj (by decide)
theorem zx133 {k : Nat → Option α} {j : Nat} (hj : j < 39) : zv_ix (zM b I J) 0 133 (Int32.ofNat j) k = k j := zix rfl hj (by decide)
theorem zx134 {k : Nat → Option α} {j : Nat} (hj : j < 39) : zv_ix (zM b I J) 0 134 (Int32.ofNat j) k = k j := zix rfl hj (by decide)
theorem zx135 {k : Nat → Option α} {j : Nat} (hj : j < 39) : zv_ix (zM b I J) 1 135 (Int32.ofNat j) k = k j := zix rfl hj (by decide)
theorem zx137 {k : Nat → Option α} {j : Nat} (hj : j < 39) : zv_ix (zM b I J) 0 137 (Int32.ofNat j) k = k j := zix rfl hj (by decide)
theorem zx138 {k : Nat → Option α} {j : Nat} (hj : j < 20) : zv_ix (zM b I J) 0 138 (Int32.ofNat j) k = k j := zix rfl hj (by decide)
theorem zx139 {k : Nat → Option α} {j : Nat} (hj : j < 20) : zv_ix (zM b I J) 0 139 (Int32.ofNat j) k = k j := zix rfl hj (by decide)
theorem zx140 {k : Nat → Option α} {j : Nat} (hj : j < 20) : zv_ix (zM b I J) 0 140 (Int32.ofNat j) k = k j := zix rfl hj (by decide)
theorem zx141 {k : Nat → Option α} {j : Nat} (hj : j < 20) : zv_ix (zM b I J) 1 141 (Int32.ofNat j) k = k j := zix rfl hj (by decide)
theorem zx143 {k : Nat → Option α} {j : Nat} (hj : j < 20) : zv_ix (zM b I J) 0 143 (Int32.ofNat j) k = k j := zix rfl hj (by decide)
theorem zx144 {k : Nat → Option α} {j : Nat} (hj : j < 11) : zv_ix (zM b I J) 0 144 (Int32.ofNat j) k = k j := zix rfl hj (by decide)
theorem zx145 {k : Nat → Option α} {j : Nat} (hj : j < 11) : zv_ix (zM b I J) 0 145 (Int32.ofNat j) k = k j := zix rfl hj (by decide)
theorem zx146 {k : Nat → Option α} {j : Nat} (hj : j < 11) : zv_ix (zM b I J) 0 146 (Int32.ofNat j) k = k j := zix rfl hj (by decide)
theorem zx147 {k : Nat → Option α} {j : Nat} (hj : j < 11) : zv_ix (zM b I J) 1 147 (Int32.ofNat j) k = k j := zix rfl hj (by decide)
theorem zx149 {k : Nat → Option α} {j : Nat} (hj : j < 11) : zv_ix (zM b I J) 0 149 (Int32.ofNat j) k = k j := zix rfl hj (by decide)
theorem zx150 {k : Nat → Option α} {j : Nat} (hj : j < 6) : zv_ix (zM b I J) 0 150 (Int32.ofNat j) k = k j := zix rfl hj (by decide)
theorem zx151 {k : Nat → Option α} {j : Nat} (hj : j < 6) : zv_ix (zM b I J) 0 151 (Int32.ofNat j) k = k j := zix rfl hj (by decide)
theorem zx152 {k : Nat → Option α} {j : Nat} (hj : j < 6) : zv_ix (zM b I J) 0 152 (Int32.ofNat j) k = k j := zix rfl hj (by decide)
theorem zx153 {k : Nat → Option α} {j : Nat} (hj : j < 6) : zv_ix (zM b I J) 1 153 (Int32.ofNat j) k = k j := zix rfl hj (by decide)
theorem zx155 {k : Nat → Option α} {j : Nat} (hj : j < 6) : zv_ix (zM b I J) 0 155 (Int32.ofNat j) k = k j := zix rfl hj (by decide)
theorem zx156 {k : Nat → Option α} {j : Nat} (hj : j < 4) : zv_ix (zM b I J) 0 156 (Int32.ofNat j) k = k j := zix rfl hj (by decide)
theorem zx157 {k : Nat → Option α} {j : Nat} (hj : j < 4) : zv_ix (zM b I J) 0 157 (Int32.ofNat j) k = k j := zix rfl hj (by decide)
theorem zx158 {k : Nat → Option α} {j : Nat} (hj : j < 4) : zv_ix (zM b I J) 0 158 (Int32.ofNat j) k = k j := zix rfl hj (by decide)
theorem zx159 {k : Nat → Option α} {j : Nat} (hj : j < 4) : zv_ix (zM b I J) 1 159 (Int32.ofNat j) k = k j := zix rfl hj (by decide)
theorem zx161 {k : Nat → Option α} {j : Nat} (hj : j < 4) : zv_ix (zM b I J) 0 161 (Int32.ofNat j) k = k j := zix rfl hj (by decide)
theorem zx162 {k : Nat → Option α} {j : Nat} (hj : j < 3) : zv_ix (zM b I J) 0 162 (Int32.ofNat j) k = k j := zix rfl hj (by decide)
theorem zx163 {k : Nat → Option α} {j : Nat} (hj : j < 3) : zv_ix (zM b I J) 0 163 (Int32.ofNat j) k = k j := zix rfl hj (by decide)
theorem zx164 {k : Nat → Option α} {j : Nat} (hj : j < 3) : zv_ix (zM b I J) 0 164 (Int32.ofNat j) k = k j := zix rfl hj (by decide)
theorem zx165 {k : Nat → Option α} {j : Nat} (hj : j < 3) : zv_ix (zM b I J) 1 165 (Int32.ofNat j) k = k j := zix rfl hj (by decide)
theorem zx167 {k : Nat → Option α} {j : Nat} (hj : j < 3) : zv_ix (zM b I J) 0 167 (Int32.ofNat j) k = k j := zix rfl hj (by decide)
theorem zx168 {k : Nat → Option α} {j : Nat} (hj : j < 2) : zv_ix (zM b I J) 0 168 (Int32.ofNat j) k = k j := zix rfl hj (by decide)
theorem zx169 {k : Nat → Option α} {j : Nat} (hj : j < 2) : zv_ix (zM b I J) 0 169 (Int32.ofNat j) k = k j := zix rfl hj (by decide)
theorem zx170 {k : Nat → Option α} {j : Nat} (hj : j < 2) : zv_ix (zM b I J) 0 170 (Int32.ofNat j) k = k j := zix rfl hj (by decide)
theorem zx171 {k : Nat → Option α} {j : Nat} (hj : j < 2) : zv_ix (zM b I J) 1 171 (Int32.ofNat j) k = k j := zix rfl hj (by decide)
theorem zx173 {k : Nat → Option α} {j : Nat} (hj : j < 2) : zv_ix (zM b I J) 0 173 (Int32.ofNat j) k = k j := zix rfl hj (by decide)
theorem zx174 {k : Nat → Option α} {j : Nat} (hj : j < 2) : zv_ix (zM b I J) 0 174 (Int32.ofNat j) k = k j := zix rfl hj (by decide)
theorem zx175 {k : Nat → Option α} {j : Nat} (hj : j < 2) : zv_ix (zM b I J) 0 175 (Int32.ofNat j) k = k j := zix rfl hj (by decide)
theorem zx176 {k : Nat → Option α} {j : Nat} (hj : j < 2) : zv_ix (zM b I J) 0 176 (Int32.ofNat j) k = k j := zix rfl hj (by decide)
theorem zx177 {k : Nat → Option α} {j : Nat} (hj : j < 2) : zv_ix (zM b I J) 1 177 (Int32.ofNat j) k = k j := zix rfl hj (by decide)
theorem zx179 {k : Nat → Option α} {j : Nat} (hj : j < 512) : zv_ix (zM b I J) 3 179 (Int32.ofNat j) k = k j := zix rfl hj (by decide)
theorem zx180 {k : Nat → Option α} {j : Nat} (hj : j < 301) : zv_ix (zM b I J) 0 180 (Int32.ofNat j) k = k j := zix rfl hj (by decide)
theorem zx182 {k : Nat → Option α} {j : Nat} (hj : j < 1668) : zv_ix (zM b I J) 0 182 (Int32.ofNat j) k = k j := zix rfl hj (by decide)
theorem zx183 {k : Nat → Option α} {j : Nat} (hj : j < 1668) : zv_ix (zM b I J) 0 183 (Int32.ofNat j) k = k j := zix rfl hj (by decide)
theorem zx184 {k : Nat → Option α} {j : Nat} (hj : j < 1668) : zv_ix (zM b I J) 0 184 (Int32.ofNat j) k = k j := zix rfl hj (by decide)
theorem zx185 {k : Nat → Option α} {j : Nat} (hj : j < 302) : zv_ix (zM b I J) 0 185 (Int32.ofNat j) k = k j := zix rfl hj (by decide)
theorem zx186 {k : Nat → Option α} {j : Nat} (hj : j < 302) : zv_ix (zM b I J) 0 186 (Int32.ofNat j) k = k j := zix rfl hj (by decide)
theorem zx187 {k : Nat → Option α} {j : Nat} (hj : j < 600) : zv_ix (zM b I J) 0 187 (Int32.ofNat j) k = k j := zix rfl hj (by decide)
theorem zx189 {k : Nat → Option α} {j : Nat} (hj : j < 302) : zv_ix (zM b I J) 0 189 (Int32.ofNat j) k = k j := zix rfl hj (by decide)
theorem zx190 {k : Nat → Option α} {j : Nat} (hj : j < 302) : zv_ix (zM b I J) 0 190 (Int32.ofNat j) k = k j := zix rfl hj (by decide)
theorem zx191 {k : Nat → Option α} {j : Nat} (hj : j < 302) : zv_ix (zM b I J) 0 191 (Int32.ofNat j) k = k j := zix rfl hj (by decide)
theorem zx192 {k : Nat → Option α} {j : Nat} (hj : j < 302) : zv_ix (zM b I J) 0 192 (Int32.ofNat j) k = k j := zix rfl hj (by decide)
theorem zx193 {k : Nat → Option α} {j : Nat} (hj : j < 302) : zv_ix (zM b I J) 0 193 (Int32.ofNat j) k = k j := zix rfl hj (by decide)
theorem zx194 {k : Nat → Option α} {j : Nat} (hj : j < 302) : zv_ix (zM b I J) 0 194 (Int32.ofNat j) k = k j := zix rfl hj (by decide)
theorem zx195 {k : Nat → Option α} {j : Nat} (hj : j < 302) : zv_ix (zM b I J) 0 195 (Int32.ofNat j) k = k j := zix rfl hj (by decide)
theorem zx196 {k : Nat → Option α} {j : Nat} (hj : j < 302) : zv_ix (zM b I J) 0 196 (Int32.ofNat j) k = k j := zix rfl hj (by decide)
theorem zx197 {k : Nat → Option α} {j : Nat} (hj : j < 302) : zv_ix (zM b I J) 0 197 (Int32.ofNat j) k = k j := zix rfl hj (by decide)
theorem zx198 {k : Nat → Option α} {j : Nat} (hj : j < 302) : zv_ix (zM b I J) 0 198 (Int32.ofNat j) k = k j := zix rfl hj (by decide)
theorem zx199 {k : Nat → Option α} {j : Nat} (hj : j < 302) : zv_ix (zM b I J) 0 199 (Int32.ofNat j) k = k j := zix rfl hj (by decide)
theorem zx200 {k : Nat → Option α} {j : Nat} (hj : j < 302) : zv_ix (zM b I J) 0 200 (Int32.ofNat j) k = k j := zix rfl hj (by decide)
theorem zx202 {k : Nat → Option α} {j : Nat} (hj : j < 302) : zv_ix (zM b I J) 0 202 (Int32.ofNat j) k = k j := zix rfl hj (by decide)
theorem zx203 {k : Nat → Option α} {j : Nat} (hj : j < 302) : zv_ix (zM b I J) 0 203 (Int32.ofNat j) k = k j := zix rfl hj (by decide)
theorem zx204 {k : Nat → Option α} {j : Nat} (hj : j < 302) : zv_ix (zM b I J) 0 204 (Int32.ofNat j) k = k j := zix rfl hj (by decide)
theorem zx205 {k : Nat → Option α} {j : Nat} (hj : j < 302) : zv_ix (zM b I J) 0 205 (Int32.ofNat j) k = k j := zix rfl hj (by decide)
theorem zx206 {k : Nat → Option α} {j : Nat} (hj : j < 302) : zv_ix (zM b I J) 0 206 (Int32.ofNat j) k = k j := zix rfl hj (by decide)
theorem zx207 {k : Nat → Option α} {j : Nat} (hj : j < 302) : zv_ix (zM b I J) 0 207 (Int32.ofNat j) k = k j := zix rfl hj (by decide)
theorem zx208 {k : Nat → Option α} {j : Nat} (hj : j < 302) : zv_ix (zM b I J) 0 208 (Int32.ofNat j) k = k j := zix rfl hj (by decide)
theorem zx209 {k : Nat → Option α} {j : Nat} (hj : j < 302) : zv_ix (zM b I J) 0 209 (Int32.ofNat j) k = k j := zix rfl hj (by decide)
theorem zx210 {k : Nat → Option α} {j : Nat} (hj : j < 302) : zv_ix (zM b I J) 0 210 (Int32.ofNat j) k = k j := zix rfl hj (by decide)
theorem zx211 {k : Nat → Option α} {j : Nat} (hj : j < 302) : zv_ix (zM b I J) 0 211 (Int32.ofNat j) k = k j := zix rfl hj (by decide)
theorem zx212 {k : Nat → Option α} {j : Nat} (hj : j < 302) : zv_ix (zM b I J) 0 212 (Int32.ofNat j) k = k j := zix rfl hj (by decide)
theorem zx213 {k : Nat → Option α} {j : Nat} (hj : j < 302) : zv_ix (zM b I J) 0 213 (Int32.ofNat j) k = k j := zix rfl hj (by decide)
theorem zx215 {k : Nat → Option α} {j : Nat} (hj : j < 302) : zv_ix (zM b I J) 0 215 (Int32.ofNat j) k = k j := zix rfl hj (by decide)
theorem zx216 {k : Nat → Option α} {j : Nat} (hj : j < 302) : zv_ix (zM b I J) 0 216 (Int32.ofNat j) k = k j := zix rfl hj (by decide)
theorem zx217 {k : Nat → Option α} {j : Nat} (hj : j < 302) : zv_ix (zM b I J) 0 217 (Int32.ofNat j) k = k j := zix rfl hj (by decide)
theorem zx218 {k : Nat → Option α} {j : Nat} (hj : j < 302) : zv_ix (zM b I J) 0 218 (Int32.ofNat j) k = k j := zix rfl hj (by decide)
theorem zx219 {k : Nat → Option α} {j : Nat} (hj : j < 302) : zv_ix (zM b I J) 0 219 (Int32.ofNat j) k = k j := zix rfl hj (by decide)
theorem zx220 {k : Nat → Option α} {j : Nat} (hj : j < 302) : zv_ix (zM b I J) 0 220 (Int32.ofNat j) k = k j := zix rfl hj (by decide)
theorem zx221 {k : Nat → Option α} {j : Nat} (hj : j < 302) : zv_ix (zM b I J) 0 221 (Int32.ofNat j) k = k j := zix rfl hj (by decide)
theorem zx222 {k : Nat → Option α} {j : Nat} (hj : j < 302) : zv_ix (zM b I J) 0 222 (Int32.ofNat j) k = k j := zix rfl hj (by decide)
theorem zx223 {k : Nat → Option α} {j : Nat} (hj : j < 302) : zv_ix (zM b I J) 0 223 (Int32.ofNat j) k = k j := zix rfl hj (by decide)
theorem zx224 {k : Nat → Option α} {j : Nat} (hj : j < 302) : zv_ix (zM b I J) 0 224 (Int32.ofNat j) k = k j := zix rfl hj (by decide)
theorem zx225 {k : Nat → Option α} {j : Nat} (hj : j < 302) : zv_ix (zM b I J) 0 225 (Int32.ofNat j) k = k j := zix rfl hj (by decide)
theorem zx226 {k : Nat → Option α} {j : Nat} (hj : j < 302) : zv_ix (zM b I J) 0 226 (Int32.ofNat j) k = k j := zix rfl hj (by decide)
theorem zx228 {k : Nat → Option α} {j : Nat} (hj : j < 302) : zv_ix (zM b I J) 1 228 (Int32.ofNat j) k = k j := zix rfl hj (by decide)
theorem zx229 {k : Nat → Option α} {j : Nat} (hj : j < 302) : zv_ix (zM b I J) 1 229 (Int32.ofNat j) k = k j := zix rfl hj (by decide)
theorem zx230 {k : Nat → Option α} {j : Nat} (hj : j < 302) : zv_ix (zM b I J) 1 230 (Int32.ofNat j) k = k j := zix rfl hj (by decide)
theorem zx231 {k : Nat → Option α} {j : Nat} (hj : j < 302) : zv_ix (zM b I J) 1 231 (Int32.ofNat j) k = k j := zix rfl hj (by decide)
theorem zx232 {k : Nat → Option α} {j : Nat} (hj : j < 302) : zv_ix (zM b I J) 1 232 (Int32.ofNat j) k = k j := zix rfl hj (by decide)
theorem zx233 {k : Nat → Option α} {j : Nat} (hj : j < 302) : zv_ix (zM b I J) 1 233 (Int32.ofNat j) k = k j := zix rfl hj (by decide)
theorem zx234 {k : Nat → Option α} {j : Nat} (hj : j < 302) : zv_ix (zM b I J) 1 234 (Int32.ofNat j) k = k j := zix rfl hj (by decide)
theorem zx235 {k : Nat → Option α} {j : Nat} (hj : j < 302) : zv_ix (zM b I J) 1 235 (Int32.ofNat j) k = k j := zix rfl hj (by decide)
theorem zx236 {k : Nat → Option α} {j : Nat} (hj : j < 302) : zv_ix (zM b I J) 1 236 (Int32.ofNat j) k = k j := zix rfl hj (by decide)
theorem zx237 {k : Nat → Option α} {j : Nat} (hj : j < 302) : zv_ix (zM b I J) 1 237 (Int32.ofNat j) k = k j := zix rfl hj (by decide)
theorem zx238 {k : Nat → Option α} {j : Nat} (hj : j < 302) : zv_ix (zM b I J) 1 238 (Int32.ofNat j) k = k j := zix rfl hj (by decide)
theorem zx239 {k : Nat → Option α} {j : Nat} (hj : j < 302) : zv_ix (zM b I J) 1 239 (Int32.ofNat j) k = k j := zix rfl hj (by decide)
theorem zx241 {k : Nat → Option α} {j : Nat} (hj : j < 302) : zv_ix (zM b I J) 1 241 (Int32.ofNat j) k = k j := zix rfl hj (by decide)
theorem zx242 {k : Nat → Option α} {j : Nat} (hj : j < 302) : zv_ix (zM b I J) 1 242 (Int32.ofNat j) k = k j := zix rfl hj (by decide)
theorem zx243 {k : Nat → Option α} {j : Nat} (hj : j < 302) : zv_ix (zM b I J) 1 243 (Int32.ofNat j) k = k j := zix rfl hj (by decide)
theorem zx244 {k : Nat → Option α} {j : Nat} (hj : j < 302) : zv_ix (zM b I J) 1 244 (Int32.ofNat j) k = k j := zix rfl hj (by decide)
theorem zx245 {k : Nat → Option α} {j : Nat} (hj : j < 302) : zv_ix (zM b I J) 1 245 (Int32.ofNat j) k = k j := zix rfl hj (by decide)
theorem zx246 {k : Nat → Option α} {j : Nat} (hj : j < 302) : zv_ix (zM b I J) 1 246 (Int32.ofNat j) k = k j := zix rfl hj (by decide)
theorem zx247 {k : Nat → Option α} {j : Nat} (hj : j < 302) : zv_ix (zM b I J) 1 247 (Int32.ofNat j) k = k j := zix rfl hj (by decide)
theorem zx248 {k : Nat → Option α} {j : Nat} (hj : j < 302) : zv_ix (zM b I J) 1 248 (Int32.ofNat j) k = k j := zix rfl hj (by decide)
theorem zx249 {k : Nat → Option α} {j : Nat} (hj : j < 302) : zv_ix (zM b I J) 1 249 (Int32.ofNat j) k = k j := zix rfl hj (by decide)
theorem zx250 {k : Nat → Option α} {j : Nat} (hj : j < 302) : zv_ix (zM b I J) 1 250 (Int32.ofNat j) k = k j := zix rfl hj (by decide)
theorem zx251 {k : Nat → Option α} {j : Nat} (hj : j < 302) : zv_ix (zM b I J) 1 251 (Int32.ofNat j) k = k j := zix rfl hj (by decide)
theorem zx252 {k : Nat → Option α} {j : Nat} (hj : j < 302) : zv_ix (zM b I J) 1 252 (Int32.ofNat j) k = k j := zix rfl hj (by decide)
theorem zx253 {k : Nat → Option α} {j : Nat} (hj : j < 12) : zv_ix (zM b I J) 0 253 (Int32.ofNat j) k = k j := zix rfl hj (by decide)
theorem zx254 {k : Nat → Option α} {j : Nat} (hj : j < 12) : zv_ix (zM b I J) 0 254 (Int32.ofNat j) k = k j := zix rfl hj (by decide)
theorem zx255 {k : Nat → Option α} {j : Nat} (hj : j < 12) : zv_ix (zM b I J) 0 255 (Int32.ofNat j) k = k j := zix rfl hj (by decide)
theorem zx256 {k : Nat → Option α} {j : Nat} (hj : j < 512) : zv_ix (zM b I J) 3 256 (Int32.ofNat j) k = k j := zix rfl hj (by decide)
theorem zx257 {k : Nat → Option α} {j : Nat} (hj : j < 302) : zv_ix (zM b I J) 3 257 (Int32.ofNat j) k = k j := zix rfl hj (by decide)
theorem zx6_0 {k : Nat → Option α} : zv_ix (zM b I J) 0 6 0 k = k 0 := zix (j := 0) rfl (by decide) (by decide)
theorem zx6_1 {k : Nat → Option α} : zv_ix (zM b I J) 0 6 1 k = k 1 := zix (j := 1) rfl (by decide) (by decide)
theorem zx6_2 {k : Nat → Option α} : zv_ix (zM b I J) 0 6 2 k = k 2 := zix (j := 2) rfl (by decide) (by decide)
theorem zx6_3 {k : Nat → Option α} : zv_ix (zM b I J) 0 6 3 k = k 3 := zix (j := 3) rfl (by decide) (by decide)
theorem zx6_4 {k : Nat → Option α} : zv_ix (zM b I J) 0 6 4 k = k 4 := zix (j := 4) rfl (by decide) (by decide)
theorem zx6_5 {k : Nat → Option α} : zv_ix (zM b I J) 0 6 5 k = k 5 := zix (j := 5) rfl (by decide) (by decide)
theorem zx6_6 {k : Nat → Option α} : zv_ix (zM b I J) 0 6 6 k = k 6 := zix (j := 6) rfl (by decide) (by decide)
theorem zx6_7 {k : Nat → Option α} : zv_ix (zM b I J) 0 6 7 k = k 7 := zix (j := 7) rfl (by decide) (by decide)
theorem zx21_0 {k : Nat → Option α} : zv_ix (zM b I J) 0 21 0 k = k 0 := zix (j := 0) rfl (by decide) (by decide)
theorem zx21_1 {k : Nat → Option α} : zv_ix (zM b I J) 0 21 1 k = k 1 := zix (j := 1) rfl (by decide) (by decide)
theorem zx21_2 {k : Nat → Option α} : zv_ix (zM b I J) 0 21 2 k = k 2 := zix (j := 2) rfl (by decide) (by decide)
theorem zx21_3 {k : Nat → Option α} : zv_ix (zM b I J) 0 21 3 k = k 3 := zix (j := 3) rfl (by decide) (by decide)
theorem zx21_4 {k : Nat → Option α} : zv_ix (zM b I J) 0 21 4 k = k 4 := zix (j := 4) rfl (by decide) (by decide)
theorem zx21_5 {k : Nat → Option α} : zv_ix (zM b I J) 0 21 5 k = k 5 := zix (j := 5) rfl (by decide) (by decide)
theorem zx21_6 {k : Nat → Option α} : zv_ix (zM b I J) 0 21 6 k = k 6 := zix (j := 6) rfl (by decide) (by decide)
theorem zx21_7 {k : Nat → Option α} : zv_ix (zM b I J) 0 21 7 k = k 7 := zix (j := 7) rfl (by decide) (by decide)
theorem zx36_0 {k : Nat → Option α} : zv_ix (zM b I J) 0 36 0 k = k 0 := zix (j := 0) rfl (by decide) (by decide)
theorem zx36_1 {k : Nat → Option α} : zv_ix (zM b I J) 0 36 1 k = k 1 := zix (j := 1) rfl (by decide) (by decide)
theorem zx36_2 {k : Nat → Option α} : zv_ix (zM b I J) 0 36 2 k = k 2 := zix (j := 2) rfl (by decide) (by decide)
theorem zx36_3 {k : Nat → Option α} : zv_ix (zM b I J) 0 36 3 k = k 3 := zix (j := 3) rfl (by decide) (by decide)
theorem zx36_4 {k : Nat → Option α} : zv_ix (zM b I J) 0 36 4 k = k 4 := zix (j := 4) rfl (by decide) (by decide)
theorem zx36_5 {k : Nat → Option α} : zv_ix (zM b I J) 0 36 5 k = k 5 := zix (j := 5) rfl (by decide) (by decide)
theorem zx36_6 {k : Nat → Option α} : zv_ix (zM b I J) 0 36 6 k = k 6 := zix (j := 6) rfl (by decide) (by decide)
theorem zx36_7 {k : Nat → Option α} : zv_ix (zM b I J) 0 36 7 k = k 7 := zix (j := 7) rfl (by decide) (by decide)
theorem zw_0 {k : Nat → Option α} : zv_ix (zM b I J) 0 182 0 k = k 0 := zix (j := 0) rfl (by decide) (by decide)
theorem zw_1 {k : Nat → Option α} : zv_ix (zM b I J) 0 182 1 k = k 1 := zix (j := 1) rfl (by decide) (by decide)
theorem zw_2 {k : Nat → Option α} : zv_ix (zM b I J) 0 182 2 k = k 2 := zix (j := 2) rfl (by decide) (by decide)
theorem zw_3 {k : Nat → Option α} : zv_ix (zM b I J) 0 182 3 k = k 3 := zix (j := 3) rfl (by decide) (by decide)
theorem zw_4 {k : Nat → Option α} : zv_ix (zM b I J) 0 182 4 k = k 4 := zix (j := 4) rfl (by decide) (by decide)
theorem zw_5 {k : Nat → Option α} : zv_ix (zM b I J) 0 182 5 k = k 5 := zix (j := 5) rfl (by decide) (by decide)
theorem zw_6 {k : Nat → Option α} : zv_ix (zM b I J) 0 182 6 k = k 6 := zix (j := 6) rfl (by decide) (by decide)
theorem zw_7 {k : Nat → Option α} : zv_ix (zM b I J) 0 182 7 k = k 7 := zix (j := 7) rfl (by decide) (by decide)
theorem zw_8 {k : Nat → Option α} : zv_ix (zM b I J) 0 182 8 k = k 8 := zix (j := 8) rfl (by decide) (by decide)
theorem zw_9 {k : Nat → Option α} : zv_ix (zM b I J) 0 182 9 k = k 9 := zix (j := 9) rfl (by decide) (by decide)
theorem zw_10 {k : Nat → Option α} : zv_ix (zM b I J) 0 182 10 k = k 10 := zix (j := 10) rfl (by decide) (by decide)
theorem zw_11 {k : Nat → Option α} : zv_ix (zM b I J) 0 182 11 k = k 11 := zix (j := 11) rfl (by decide) (by decide)
theorem zw_12 {k : Nat → Option α} : zv_ix (zM b I J) 0 182 12 k = k 12 := zix (j := 12) rfl (by decide) (by decide)
theorem zw_13 {k : Nat → Option α} : zv_ix (zM b I J) 0 182 13 k = k 13 := zix (j := 13) rfl (by decide) (by decide)
theorem zw_14 {k : Nat → Option α} : zv_ix (zM b I J) 0 182 14 k = k 14 := zix (j := 14) rfl (by decide) (by decide)
end ZCELLS
theorem zka0 (i : Nat) : (0 : Int32) + Int32.ofNat i = Int32.ofNat (0 + i) := zn_add 0 i
theorem zkb0 (i : Nat) : Int32.ofNat i + 0 = Int32.ofNat (i + 0) := zn_add i 0
theorem zks0 {i : Nat} (h : 0 ≤ i) : Int32.ofNat i - 0 = Int32.ofNat (i - 0) := zn_sub h
theorem zkt0 {i : Nat} (h : i ≤ 0) : (0 : Int32) - Int32.ofNat i = Int32.ofNat (0 - i) := zn_sub h
theorem zkm0 (i : Nat) : (0 : Int32) * Int32.ofNat i = Int32.ofNat (0 * i) := zn_mul 0 i
theorem zkl0 {i : Nat} (h : i < 2 ^ 31) : Int32.ofNat i < 0 ↔ i < 0 := zn_lt h (by decide)
theorem zkn0 {i : Nat} (h : i < 2 ^ 31) : Int32.ofNat i ≤ 0 ↔ i ≤ 0 := zn_le h (by decide)
theorem zkg0 {i : Nat} (h : i < 2 ^ 31) : 0 < Int32.ofNat i ↔ 0 < i := zn_lt (by decide) h
theorem zkh0 {i : Nat} (h : i < 2 ^ 31) : 0 ≤ Int32.ofNat i ↔ 0 ≤ i := zn_le (by decide) h
theorem zke0 {i : Nat} (h : i < 2 ^ 31) : Int32.ofNat i = 0 ↔ i = 0 := zn_eq h (by decide)
theorem zkf0 {i : Nat} (h : i < 2 ^ 31) : (0 : Int32) = Int32.ofNat i ↔ 0 = i := zn_eq (by decide) h
theorem zka1 (i : Nat) : (1 : Int32) + Int32.ofNat i = Int32.ofNat (1 + i) := zn_add 1 i
theorem zkb1 (i : Nat) : Int32.ofNat i + 1 = Int32.ofNat (i + 1) := zn_add i 1
theorem zks1 {i : Nat} (h : 1 ≤ i) : Int32.ofNat i - 1 = Int32.ofNat (i - 1) := zn_sub h
theorem zkt1 {i : Nat} (h : i ≤ 1) : (1 : Int32) - Int32.ofNat i = Int32.ofNat (1 - i) := zn_sub h
theorem zkl1 {i : Nat} (h : i < 2 ^ 31) : Int32.ofNat i < 1 ↔ i < 1 := zn_lt h (by decide)
theorem zkn1 {i : Nat} (h : i < 2 ^ 31) : Int32.ofNat i ≤ 1 ↔ i ≤ 1 := zn_le h (by decide)
theorem zkg1 {i : Nat} (h : i < 2 ^ 31) : 1 < Int32.ofNat i ↔ 1 < i := zn_lt (by decide) h
theorem zkh1 {i : Nat} (h : i < 2 ^ 31) : 1 ≤ Int32.ofNat i ↔ 1 ≤ i := zn_le (by decide) h
theorem zke1 {i : Nat} (h : i < 2 ^ 31) : Int32.ofNat i = 1 ↔ i = 1 := zn_eq h (by decide)
theorem zkf1 {i : Nat} (h : i < 2 ^ 31) : (1 : Int32) = Int32.ofNat i ↔ 1 = i := zn_eq (by decide) h
theorem zkd1 {i : Nat} (h : i < 2 ^ 31) : Int32.ofNat i / 1 = Int32.ofNat (i / 1) := zn_div h (by decide) (by decide)
theorem zka2 (i : Nat) : (2 : Int32) + Int32.ofNat i = Int32.ofNat (2 + i) := zn_add 2 i
theorem zkb2 (i : Nat) : Int32.ofNat i + 2 = Int32.ofNat (i + 2) := zn_add i 2
theorem zks2 {i : Nat} (h : 2 ≤ i) : Int32.ofNat i - 2 = Int32.ofNat (i - 2) := zn_sub h
theorem zkt2 {i : Nat} (h : i ≤ 2) : (2 : Int32) - Int32.ofNat i = Int32.ofNat (2 - i) := zn_sub h
theorem zkm2 (i : Nat) : (2 : Int32) * Int32.ofNat i = Int32.ofNat (2 * i) := zn_mul 2 i
theorem zkl2 {i : Nat} (h : i < 2 ^ 31) : Int32.ofNat i < 2 ↔ i < 2 := zn_lt h (by decide)
theorem zkn2 {i : Nat} (h : i < 2 ^ 31) : Int32.ofNat i ≤ 2 ↔ i ≤ 2 := zn_le h (by decide)
theorem zkg2 {i : Nat} (h : i < 2 ^ 31) : 2 < Int32.ofNat i ↔ 2 < i := zn_lt (by decide) h
theorem zkh2 {i : Nat} (h : i < 2 ^ 31) : 2 ≤ Int32.ofNat i ↔ 2 ≤ i := zn_le (by decide) h
theorem zke2 {i : Nat} (h : i < 2 ^ 31) : Int32.ofNat i = 2 ↔ i = 2 := zn_eq h (by decide)
theorem zkf2 {i : Nat} (h : i < 2 ^ 31) : (2 : Int32) = Int32.ofNat i ↔ 2 = i := zn_eq (by decide) h
theorem zkd2 {i : Nat} (h : i < 2 ^ 31) : Int32.ofNat i / 2 = Int32.ofNat (i / 2) := zn_div h (by decide) (by decide)
theorem zka3 (i : Nat) : (3 : Int32) + Int32.ofNat i = Int32.ofNat (3 + i) := zn_add 3 i
theorem zkb3 (i : Nat) : Int32.ofNat i + 3 = Int32.ofNat (i + 3) := zn_add i 3
theorem zks3 {i : Nat} (h : 3 ≤ i) : Int32.ofNat i - 3 = Int32.ofNat (i - 3) := zn_sub h
theorem zkt3 {i : Nat} (h : i ≤ 3) : (3 : Int32) - Int32.ofNat i = Int32.ofNat (3 - i) := zn_sub h
theorem zkm3 (i : Nat) : (3 : Int32) * Int32.ofNat i = Int32.ofNat (3 * i) := zn_mul 3 i
theorem zkl3 {i : Nat} (h : i < 2 ^ 31) : Int32.ofNat i < 3 ↔ i < 3 := zn_lt h (by decide)
theorem zkn3 {i : Nat} (h : i < 2 ^ 31) : Int32.ofNat i ≤ 3 ↔ i ≤ 3 := zn_le h (by decide)
theorem zkg3 {i : Nat} (h : i < 2 ^ 31) : 3 < Int32.ofNat i ↔ 3 < i := zn_lt (by decide) h
theorem zkh3 {i : Nat} (h : i < 2 ^ 31) : 3 ≤ Int32.ofNat i ↔ 3 ≤ i := zn_le (by decide) h
theorem zke3 {i : Nat} (h : i < 2 ^ 31) : Int32.ofNat i = 3 ↔ i = 3 := zn_eq h (by decide)
theorem zkf3 {i : Nat} (h : i < 2 ^ 31) : (3 : Int32) = Int32.ofNat i ↔ 3 = i := zn_eq (by decide) h
theorem zkd3 {i : Nat} (h : i < 2 ^ 31) : Int32.ofNat i / 3 = Int32.ofNat (i / 3) := zn_div h (by decide) (by decide)
theorem zka4 (i : Nat) : (4 : Int32) + Int32.ofNat i = Int32.ofNat (4 + i) := zn_add 4 i
theorem zkb4 (i : Nat) : Int32.ofNat i + 4 = Int32.ofNat (i + 4) := zn_add i 4
theorem zks4 {i : Nat} (h : 4 ≤ i) : Int32.ofNat i - 4 = Int32.ofNat (i - 4) := zn_sub h
theorem zkt4 {i : Nat} (h : i ≤ 4) : (4 : Int32) - Int32.ofNat i = Int32.ofNat (4 - i) := zn_sub h
theorem zkm4 (i : Nat) : (4 : Int32) * Int32.ofNat i = Int32.ofNat (4 * i) := zn_mul 4 i
theorem zkl4 {i : Nat} (h : i < 2 ^ 31) : Int32.ofNat i < 4 ↔ i < 4 := zn_lt h (by decide)
theorem zkn4 {i : Nat} (h : i < 2 ^ 31) : Int32.ofNat i ≤ 4 ↔ i ≤ 4 := zn_le h (by decide)
theorem zkg4 {i : Nat} (h : i < 2 ^ 31) : 4 < Int32.ofNat i ↔ 4 < i := zn_lt (by decide) h
theorem zkh4 {i : Nat} (h : i < 2 ^ 31) : 4 ≤ Int32.ofNat i ↔ 4 ≤ i := zn_le (by decide) h
theorem zke4 {i : Nat} (h : i < 2 ^ 31) : Int32.ofNat i = 4 ↔ i = 4 := zn_eq h (by decide)
theorem zkf4 {i : Nat} (h : i < 2 ^ 31) : (4 : Int32) = Int32.ofNat i ↔ 4 = i := zn_eq (by decide) h
theorem zkd4 {i : Nat} (h : i < 2 ^ 31) : Int32.ofNat i / 4 = Int32.ofNat (i / 4) := zn_div h (by decide) (by decide)
theorem zka5 (i : Nat) : (5 : Int32) + Int32.ofNat i = Int32.ofNat (5 + i) := zn_add 5 i
theorem zkb5 (i : Nat) : Int32.ofNat i + 5 = Int32.ofNat (i + 5) := zn_add i 5
theorem zks5 {i : Nat} (h : 5 ≤ i) : Int32.ofNat i - 5 = Int32.ofNat (i - 5) := zn_sub h
theorem zkt5 {i : Nat} (h : i ≤ 5) : (5 : Int32) - Int32.ofNat i = Int32.ofNat (5 - i) := zn_sub h
theorem zkm5 (i : Nat) : (5 : Int32) * Int32.ofNat i = Int32.ofNat (5 * i) := zn_mul 5 i
theorem zkl5 {i : Nat} (h : i < 2 ^ 31) : Int32.ofNat i < 5 ↔ i < 5 := zn_lt h (by decide)
theorem zkn5 {i : Nat} (h : i < 2 ^ 31) : Int32.ofNat i ≤ 5 ↔ i ≤ 5 := zn_le h (by decide)
theorem zkg5 {i : Nat} (h : i < 2 ^ 31) : 5 < Int32.ofNat i ↔ 5 < i := zn_lt (by decide) h
theorem zkh5 {i : Nat} (h : i < 2 ^ 31) : 5 ≤ Int32.ofNat i ↔ 5 ≤ i := zn_le (by decide) h
theorem zke5 {i : Nat} (h : i < 2 ^ 31) : Int32.ofNat i = 5 ↔ i = 5 := zn_eq h (by decide)
theorem zkf5 {i : Nat} (h : i < 2 ^ 31) : (5 : Int32) = Int32.ofNat i ↔ 5 = i := zn_eq (by decide) h
theorem zkd5 {i : Nat} (h : i < 2 ^ 31) : Int32.ofNat i / 5 = Int32.ofNat (i / 5) := zn_div h (by decide) (by decide)
theorem zka6 (i : Nat) : (6 : Int32) + Int32.ofNat i = Int32.ofNat (6 + i) := zn_add 6 i
theorem zkb6 (i : Nat) : Int32.ofNat i + 6 = Int32.ofNat (i + 6) := zn_add i 6
theorem zks6 {i : Nat} (h : 6 ≤ i) : Int32.ofNat i - 6 = Int32.ofNat (i - 6) := zn_sub h
theorem zkt6 {i : Nat} (h : i ≤ 6) : (6 : Int32) - Int32.ofNat i = Int32.ofNat (6 - i) := zn_sub h
theorem zkm6 (i : Nat) : (6 : Int32) * Int32.ofNat i = Int32.ofNat (6 * i) := zn_mul 6 i
theorem zkl6 {i : Nat} (h : i < 2 ^ 31) : Int32.ofNat i < 6 ↔ i < 6 := zn_lt h (by decide)
theorem zkn6 {i : Nat} (h : i < 2 ^ 31) : Int32.ofNat i ≤ 6 ↔ i ≤ 6 := zn_le h (by decide)
theorem zkg6 {i : Nat} (h : i < 2 ^ 31) : 6 < Int32.ofNat i ↔ 6 < i := zn_lt (by decide) h
theorem zkh6 {i : Nat} (h : i < 2 ^ 31) : 6 ≤ Int32.ofNat i ↔ 6 ≤ i := zn_le (by decide) h
theorem zke6 {i : Nat} (h : i < 2 ^ 31) : Int32.ofNat i = 6 ↔ i = 6 := zn_eq h (by decide)
theorem zkf6 {i : Nat} (h : i < 2 ^ 31) : (6 : Int32) = Int32.ofNat i ↔ 6 = i := zn_eq (by decide) h
theorem zkd6 {i : Nat} (h : i < 2 ^ 31) : Int32.ofNat i / 6 = Int32.ofNat (i / 6) := zn_div h (by decide) (by decide)
theorem zka7 (i : Nat) : (7 : Int32) + Int32.ofNat i = Int32.ofNat (7 + i) := zn_add 7 i
theorem zkb7 (i : Nat) : Int32.ofNat i + 7 = Int32.ofNat (i + 7) := zn_add i 7
theorem zks7 {i : Nat} (h : 7 ≤ i) : Int32.ofNat i - 7 = Int32.ofNat (i - 7) := zn_sub h
theorem zkt7 {i : Nat} (h : i ≤ 7) : (7 : Int32) - Int32.ofNat i = Int32.ofNat (7 - i) := zn_sub h
theorem zkm7 (i : Nat) : (7 : Int32) * Int32.ofNat i = Int32.ofNat (7 * i) := zn_mul 7 i
theorem zkl7 {i : Nat} (h : i < 2 ^ 31) : Int32.ofNat i < 7 ↔ i < 7 := zn_lt h (by decide)
theorem zkn7 {i : Nat} (h : i < 2 ^ 31) : Int32.ofNat i ≤ 7 ↔ i ≤ 7 := zn_le h (by decide)
theorem zkg7 {i : Nat} (h : i < 2 ^ 31) : 7 < Int32.ofNat i ↔ 7 < i := zn_lt (by decide) h
theorem zkh7 {i : Nat} (h : i < 2 ^ 31) : 7 ≤ Int32.ofNat i ↔ 7 ≤ i := zn_le (by decide) h
theorem zke7 {i : Nat} (h : i < 2 ^ 31) : Int32.ofNat i = 7 ↔ i = 7 := zn_eq h (by decide)
theorem zkf7 {i : Nat} (h : i < 2 ^ 31) : (7 : Int32) = Int32.ofNat i ↔ 7 = i := zn_eq (by decide) h
theorem zkd7 {i : Nat} (h : i < 2 ^ 31) : Int32.ofNat i / 7 = Int32.ofNat (i / 7) := zn_div h (by decide) (by decide)
theorem zka8 (i : Nat) : (8 : Int32) + Int32.ofNat i = Int32.ofNat (8 + i) := zn_add 8 i
theorem zkb8 (i : Nat) : Int32.ofNat i + 8 = Int32.ofNat (i + 8) := zn_add i 8
theorem zks8 {i : Nat} (h : 8 ≤ i) : Int32.ofNat i - 8 = Int32.ofNat (i - 8) := zn_sub h
theorem zkt8 {i : Nat} (h : i ≤ 8) : (8 : Int32) - Int32.ofNat i = Int32.ofNat (8 - i) := zn_sub h
theorem zkm8 (i : Nat) : (8 : Int32) * Int32.ofNat i = Int32.ofNat (8 * i) := zn_mul 8 i
theorem zkl8 {i : Nat} (h : i < 2 ^ 31) : Int32.ofNat i < 8 ↔ i < 8 := zn_lt h (by decide)
theorem zkn8 {i : Nat} (h : i < 2 ^ 31) : Int32.ofNat i ≤ 8 ↔ i ≤ 8 := zn_le h (by decide)
theorem zkg8 {i : Nat} (h : i < 2 ^ 31) : 8 < Int32.ofNat i ↔ 8 < i := zn_lt (by decide) h
theorem zkh8 {i : Nat} (h : i < 2 ^ 31) : 8 ≤ Int32.ofNat i ↔ 8 ≤ i := zn_le (by decide) h
theorem zke8 {i : Nat} (h : i < 2 ^ 31) : Int32.ofNat i = 8 ↔ i = 8 := zn_eq h (by decide)
theorem zkf8 {i : Nat} (h : i < 2 ^ 31) : (8 : Int32) = Int32.ofNat i ↔ 8 = i := zn_eq (by decide) h
theorem zkd8 {i : Nat} (h : i < 2 ^ 31) : Int32.ofNat i / 8 = Int32.ofNat (i / 8) := zn_div h (by decide) (by decide)
theorem zka9 (i : Nat) : (9 : Int32) + Int32.ofNat i = Int32.ofNat (9 + i) := zn_add 9 i
theorem zkb9 (i : Nat) : Int32.ofNat i + 9 = Int32.ofNat (i + 9) := zn_add i 9
theorem zks9 {i : Nat} (h : 9 ≤ i) : Int32.ofNat i - 9 = Int32.ofNat (i - 9) := zn_sub h
theorem zkt9 {i : Nat} (h : i ≤ 9) : (9 : Int32) - Int32.ofNat i = Int32.ofNat (9 - i) := zn_sub h
theorem zkm9 (i : Nat) : (9 : Int32) * Int32.ofNat i = Int32.ofNat (9 * i) := zn_mul 9 i
theorem zkl9 {i : Nat} (h : i < 2 ^ 31) : Int32.ofNat i < 9 ↔ i < 9 := zn_lt h (by decide)
theorem zkn9 {i : Nat} (h : i < 2 ^ 31) : Int32.ofNat i ≤ 9 ↔ i ≤ 9 := zn_le h (by decide)
theorem zkg9 {i : Nat} (h : i < 2 ^ 31) : 9 < Int32.ofNat i ↔ 9 < i := zn_lt (by decide) h
theorem zkh9 {i : Nat} (h : i < 2 ^ 31) : 9 ≤ Int32.ofNat i ↔ 9 ≤ i := zn_le (by decide) h
theorem zke9 {i : Nat} (h : i < 2 ^ 31) : Int32.ofNat i = 9 ↔ i = 9 := zn_eq h (by decide)
theorem zkf9 {i : Nat} (h : i < 2 ^ 31) : (9 : Int32) = Int32.ofNat i ↔ 9 = i := zn_eq (by decide) h
theorem zkd9 {i : Nat} (h : i < 2 ^ 31) : Int32.ofNat i / 9 = Int32.ofNat (i / 9) := zn_div h (by decide) (by decide)
theorem zka10 (i : Nat) : (10 : Int32) + Int32.ofNat i = Int32.ofNat (10 + i) := zn_add 10 i
theorem zkb10 (i : Nat) : Int32.ofNat i + 10 = Int32.ofNat (i + 10) := zn_add i 10
theorem zks10 {i : Nat} (h : 10 ≤ i) : Int32.ofNat i - 10 = Int32.ofNat (i - 10) := zn_sub h
theorem zkt10 {i : Nat} (h : i ≤ 10) : (10 : Int32) - Int32.ofNat i = Int32.ofNat (10 - i) := zn_sub h
theorem zkm10 (i : Nat) : (10 : Int32) * Int32.ofNat i = Int32.ofNat (10 * i) := zn_mul 10 i
theorem zkl10 {i : Nat} (h : i < 2 ^ 31) : Int32.ofNat i < 10 ↔ i < 10 := zn_lt h (by decide)
theorem zkn10 {i : Nat} (h : i < 2 ^ 31) : Int32.ofNat i ≤ 10 ↔ i ≤ 10 := zn_le h (by decide)
theorem zkg10 {i : Nat} (h : i < 2 ^ 31) : 10 < Int32.ofNat i ↔ 10 < i := zn_lt (by decide) h
theorem zkh10 {i : Nat} (h : i < 2 ^ 31) : 10 ≤ Int32.ofNat i ↔ 10 ≤ i := zn_le (by decide) h
theorem zke10 {i : Nat} (h : i < 2 ^ 31) : Int32.ofNat i = 10 ↔ i = 10 := zn_eq h (by decide)
theorem zkf10 {i : Nat} (h : i < 2 ^ 31) : (10 : Int32) = Int32.ofNat i ↔ 10 = i := zn_eq (by decide) h
theorem zkd10 {i : Nat} (h : i < 2 ^ 31) : Int32.ofNat i / 10 = Int32.ofNat (i / 10) := zn_div h (by decide) (by decide)
theorem zka11 (i : Nat) : (11 : Int32) + Int32.ofNat i = Int32.ofNat (11 + i) := zn_add 11 i
theorem zkb11 (i : Nat) : Int32.ofNat i + 11 = Int32.ofNat (i + 11) := zn_add i 11
theorem zks11 {i : Nat} (h : 11 ≤ i) : Int32.ofNat i - 11 = Int32.ofNat (i - 11) := zn_sub h
theorem zkt11 {i : Nat} (h : i ≤ 11) : (11 : Int32) - Int32.ofNat i = Int32.ofNat (11 - i) := zn_sub h
theorem zkm11 (i : Nat) : (11 : Int32) * Int32.ofNat i = Int32.ofNat (11 * i) := zn_mul 11 i
theorem zkl11 {i : Nat} (h : i < 2 ^ 31) : Int32.ofNat i < 11 ↔ i < 11 := zn_lt h (by decide)
theorem zkn11 {i : Nat} (h : i < 2 ^ 31) : Int32.ofNat i ≤ 11 ↔ i ≤ 11 := zn_le h (by decide)
theorem zkg11 {i : Nat} (h : i < 2 ^ 31) : 11 < Int32.ofNat i ↔ 11 < i := zn_lt (by decide) h
theorem zkh11 {i : Nat} (h : i < 2 ^ 31) : 11 ≤ Int32.ofNat i ↔ 11 ≤ i := zn_le (by decide) h
theorem zke11 {i : Nat} (h : i < 2 ^ 31) : Int32.ofNat i = 11 ↔ i = 11 := zn_eq h (by decide)
theorem zkf11 {i : Nat} (h : i < 2 ^ 31) : (11 : Int32) = Int32.ofNat i ↔ 11 = i := zn_eq (by decide) h
theorem zkd11 {i : Nat} (h : i < 2 ^ 31) : Int32.ofNat i / 11 = Int32.ofNat (i / 11) := zn_div h (by decide) (by decide)
theorem zka12 (i : Nat) : (12 : Int32) + Int32.ofNat i = Int32.ofNat (12 + i) := zn_add 12 i
theorem zkb12 (i : Nat) : Int32.ofNat i + 12 = Int32.ofNat (i + 12) := zn_add i 12
theorem zks12 {i : Nat} (h : 12 ≤ i) : Int32.ofNat i - 12 = Int32.ofNat (i - 12) := zn_sub h
theorem zkt12 {i : Nat} (h : i ≤ 12) : (12 : Int32) - Int32.ofNat i = Int32.ofNat (12 - i) := zn_sub h
theorem zkm12 (i : Nat) : (12 : Int32) * Int32.ofNat i = Int32.ofNat (12 * i) := zn_mul 12 i
theorem zkl12 {i : Nat} (h : i < 2 ^ 31) : Int32.ofNat i < 12 ↔ i < 12 := zn_lt h (by decide)
theorem zkn12 {i : Nat} (h : i < 2 ^ 31) : Int32.ofNat i ≤ 12 ↔ i ≤ 12 := zn_le h (by decide)
theorem zkg12 {i : Nat} (h : i < 2 ^ 31) : 12 < Int32.ofNat i ↔ 12 < i := zn_lt (by decide) h
theorem zkh12 {i : Nat} (h : i < 2 ^ 31) : 12 ≤ Int32.ofNat i ↔ 12 ≤ i := zn_le (by decide) h
theorem zke12 {i : Nat} (h : i < 2 ^ 31) : Int32.ofNat i = 12 ↔ i = 12 := zn_eq h (by decide)
theorem zkf12 {i : Nat} (h : i < 2 ^ 31) : (12 : Int32) = Int32.ofNat i ↔ 12 = i := zn_eq (by decide) h
theorem zkd12 {i : Nat} (h : i < 2 ^ 31) : Int32.ofNat i / 12 = Int32.ofNat (i / 12) := zn_div h (by decide) (by decide)
theorem zka13 (i : Nat) : (13 : Int32) + Int32.ofNat i = Int32.ofNat (13 + i) := zn_add 13 i
theorem zkb13 (i : Nat) : Int32.ofNat i + 13 = Int32.ofNat (i + 13) := zn_add i 13
theorem zks13 {i : Nat} (h : 13 ≤ i) : Int32.ofNat i - 13 = Int32.ofNat (i - 13) := zn_sub h
theorem zkt13 {i : Nat} (h : i ≤ 13) : (13 : Int32) - Int32.ofNat i = Int32.ofNat (13 - i) := zn_sub h
theorem zkm13 (i : Nat) : (13 : Int32) * Int32.ofNat i = Int32.ofNat (13 * i) := zn_mul 13 i
theorem zkl13 {i : Nat} (h : i < 2 ^ 31) : Int32.ofNat i < 13 ↔ i < 13 := zn_lt h (by decide)
theorem zkn13 {i : Nat} (h : i < 2 ^ 31) : Int32.ofNat i ≤ 13 ↔ i ≤ 13 := zn_le h (by decide)
theorem zkg13 {i : Nat} (h : i < 2 ^ 31) : 13 < Int32.ofNat i ↔ 13 < i := zn_lt (by decide) h
theorem zkh13 {i : Nat} (h : i < 2 ^ 31) : 13 ≤ Int32.ofNat i ↔ 13 ≤ i := zn_le (by decide) h
theorem zke13 {i : Nat} (h : i < 2 ^ 31) : Int32.ofNat i = 13 ↔ i = 13 := zn_eq h (by decide)
theorem zkf13 {i : Nat} (h : i < 2 ^ 31) : (13 : Int32) = Int32.ofNat i ↔ 13 = i := zn_eq (by decide) h
theorem zkd13 {i : Nat} (h : i < 2 ^ 31) : Int32.ofNat i / 13 = Int32.ofNat (i / 13) := zn_div h (by decide) (by decide)
theorem zka14 (i : Nat) : (14 : Int32) + Int32.ofNat i = Int32.ofNat (14 + i) := zn_add 14 i
theorem zkb14 (i : Nat) : Int32.ofNat i + 14 = Int32.ofNat (i + 14) := zn_add i 14
theorem zks14 {i : Nat} (h : 14 ≤ i) : Int32.ofNat i - 14 = Int32.ofNat (i - 14) := zn_sub h
theorem zkt14 {i : Nat} (h : i ≤ 14) : (14 : Int32) - Int32.ofNat i = Int32.ofNat (14 - i) := zn_sub h
theorem zkm14 (i : Nat) : (14 : Int32) * Int32.ofNat i = Int32.ofNat (14 * i) := zn_mul 14 i
theorem zkl14 {i : Nat} (h : i < 2 ^ 31) : Int32.ofNat i < 14 ↔ i < 14 := zn_lt h (by decide)
theorem zkn14 {i : Nat} (h : i < 2 ^ 31) : Int32.ofNat i ≤ 14 ↔ i ≤ 14 := zn_le h (by decide)
theorem zkg14 {i : Nat} (h : i < 2 ^ 31) : 14 < Int32.ofNat i ↔ 14 < i := zn_lt (by decide) h
theorem zkh14 {i : Nat} (h : i < 2 ^ 31) : 14 ≤ Int32.ofNat i ↔ 14 ≤ i := zn_le (by decide) h
theorem zke14 {i : Nat} (h : i < 2 ^ 31) : Int32.ofNat i = 14 ↔ i = 14 := zn_eq h (by decide)
theorem zkf14 {i : Nat} (h : i < 2 ^ 31) : (14 : Int32) = Int32.ofNat i ↔ 14 = i := zn_eq (by decide) h
theorem zkd14 {i : Nat} (h : i < 2 ^ 31) : Int32.ofNat i / 14 = Int32.ofNat (i / 14) := zn_div h (by decide) (by decide)
theorem zka15 (i : Nat) : (15 : Int32) + Int32.ofNat i = Int32.ofNat (15 + i) := zn_add 15 i
theorem zkb15 (i : Nat) : Int32.ofNat i + 15 = Int32.ofNat (i + 15) := zn_add i 15
theorem zks15 {i : Nat} (h : 15 ≤ i) : Int32.ofNat i - 15 = Int32.ofNat (i - 15) := zn_sub h
theorem zkt15 {i : Nat} (h : i ≤ 15) : (15 : Int32) - Int32.ofNat i = Int32.ofNat (15 - i) := zn_sub h
theorem zkm15 (i : Nat) : (15 : Int32) * Int32.ofNat i = Int32.ofNat (15 * i) := zn_mul 15 i
theorem zkl15 {i : Nat} (h : i < 2 ^ 31) : Int32.ofNat i < 15 ↔ i < 15 := zn_lt h (by decide)
theorem zkn15 {i : Nat} (h : i < 2 ^ 31) : Int32.ofNat i ≤ 15 ↔ i ≤ 15 := zn_le h (by decide)
theorem zkg15 {i : Nat} (h : i < 2 ^ 31) : 15 < Int32.ofNat i ↔ 15 < i := zn_lt (by decide) h
theorem zkh15 {i : Nat} (h : i < 2 ^ 31) : 15 ≤ Int32.ofNat i ↔ 15 ≤ i := zn_le (by decide) h
theorem zke15 {i : Nat} (h : i < 2 ^ 31) : Int32.ofNat i = 15 ↔ i = 15 := zn_eq h (by decide)
theorem zkf15 {i : Nat} (h : i < 2 ^ 31) : (15 : Int32) = Int32.ofNat i ↔ 15 = i := zn_eq (by decide) h
theorem zkd15 {i : Nat} (h : i < 2 ^ 31) : Int32.ofNat i / 15 = Int32.ofNat (i / 15) := zn_div h (by decide) (by decide)
theorem zka16 (i : Nat) : (16 : Int32) + Int32.ofNat i = Int32.ofNat (16 + i) := zn_add 16 i
theorem zkb16 (i : Nat) : Int32.ofNat i + 16 = Int32.ofNat (i + 16) := zn_add i 16
theorem zks16 {i : Nat} (h : 16 ≤ i) : Int32.ofNat i - 16 = Int32.ofNat (i - 16) := zn_sub h
theorem zkt16 {i : Nat} (h : i ≤ 16) : (16 : Int32) - Int32.ofNat i = Int32.ofNat (16 - i) := zn_sub h
theorem zkm16 (i : Nat) : (16 : Int32) * Int32.ofNat i = Int32.ofNat (16 * i) := zn_mul 16 i
theorem zkl16 {i : Nat} (h : i < 2 ^ 31) : Int32.ofNat i < 16 ↔ i < 16 := zn_lt h (by decide)
theorem zkn16 {i : Nat} (h : i < 2 ^ 31) : Int32.ofNat i ≤ 16 ↔ i ≤ 16 := zn_le h (by decide)
theorem zkg16 {i : Nat} (h : i < 2 ^ 31) : 16 < Int32.ofNat i ↔ 16 < i := zn_lt (by decide) h
theorem zkh16 {i : Nat} (h : i < 2 ^ 31) : 16 ≤ Int32.ofNat i ↔ 16 ≤ i := zn_le (by decide) h
theorem zke16 {i : Nat} (h : i < 2 ^ 31) : Int32.ofNat i = 16 ↔ i = 16 := zn_eq h (by decide)
theorem zkf16 {i : Nat} (h : i < 2 ^ 31) : (16 : Int32) = Int32.ofNat i ↔ 16 = i := zn_eq (by decide) h
theorem zkd16 {i : Nat} (h : i < 2 ^ 31) : Int32.ofNat i / 16 = Int32.ofNat (i / 16) := zn_div h (by decide) (by decide)
theorem zka19 (i : Nat) : (19 : Int32) + Int32.ofNat i = Int32.ofNat (19 + i) := zn_add 19 i
theorem zkb19 (i : Nat) : Int32.ofNat i + 19 = Int32.ofNat (i + 19) := zn_add i 19
theorem zks19 {i : Nat} (h : 19 ≤ i) : Int32.ofNat i - 19 = Int32.ofNat (i - 19) := zn_sub h
theorem zkt19 {i : Nat} (h : i ≤ 19) : (19 : Int32) - Int32.ofNat i = Int32.ofNat (19 - i) := zn_sub h
theorem zkm19 (i : Nat) : (19 : Int32) * Int32.ofNat i = Int32.ofNat (19 * i) := zn_mul 19 i
theorem zkl19 {i : Nat} (h : i < 2 ^ 31) : Int32.ofNat i < 19 ↔ i < 19 := zn_lt h (by decide)
theorem zkn19 {i : Nat} (h : i < 2 ^ 31) : Int32.ofNat i ≤ 19 ↔ i ≤ 19 := zn_le h (by decide)
theorem zkg19 {i : Nat} (h : i < 2 ^ 31) : 19 < Int32.ofNat i ↔ 19 < i := zn_lt (by decide) h
theorem zkh19 {i : Nat} (h : i < 2 ^ 31) : 19 ≤ Int32.ofNat i ↔ 19 ≤ i := zn_le (by decide) h
theorem zke19 {i : Nat} (h : i < 2 ^ 31) : Int32.ofNat i = 19 ↔ i = 19 := zn_eq h (by decide)
theorem zkf19 {i : Nat} (h : i < 2 ^ 31) : (19 : Int32) = Int32.ofNat i ↔ 19 = i := zn_eq (by decide) h
theorem zkd19 {i : Nat} (h : i < 2 ^ 31) : Int32.ofNat i / 19 = Int32.ofNat (i / 19) := zn_div h (by decide) (by decide)
theorem zka20 (i : Nat) : (20 : Int32) + Int32.ofNat i = Int32.ofNat (20 + i) := zn_add 20 i
theorem zkb20 (i : Nat) : Int32.ofNat i + 20 = Int32.ofNat (i + 20) := zn_add i 20
theorem zks20 {i : Nat} (h : 20 ≤ i) : Int32.ofNat i - 20 = Int32.ofNat (i - 20) := zn_sub h
theorem zkt20 {i : Nat} (h : i ≤ 20) : (20 : Int32) - Int32.ofNat i = Int32.ofNat (20 - i) := zn_sub h
theorem zkm20 (i : Nat) : (20 : Int32) * Int32.ofNat i = Int32.ofNat (20 * i) := zn_mul 20 i
theorem zkl20 {i : Nat} (h : i < 2 ^ 31) : Int32.ofNat i < 20 ↔ i < 20 := zn_lt h (by decide)
theorem zkn20 {i : Nat} (h : i < 2 ^ 31) : Int32.ofNat i ≤ 20 ↔ i ≤ 20 := zn_le h (by decide)
theorem zkg20 {i : Nat} (h : i < 2 ^ 31) : 20 < Int32.ofNat i ↔ 20 < i := zn_lt (by decide) h
theorem zkh20 {i : Nat} (h : i < 2 ^ 31) : 20 ≤ Int32.ofNat i ↔ 20 ≤ i := zn_le (by decide) h
theorem zke20 {i : Nat} (h : i < 2 ^ 31) : Int32.ofNat i = 20 ↔ i = 20 := zn_eq h (by decide)
theorem zkf20 {i : Nat} (h : i < 2 ^ 31) : (20 : Int32) = Int32.ofNat i ↔ 20 = i := zn_eq (by decide) h
theorem zkd20 {i : Nat} (h : i < 2 ^ 31) : Int32.ofNat i / 20 = Int32.ofNat (i / 20) := zn_div h (by decide) (by decide)
theorem zka24 (i : Nat) : (24 : Int32) + Int32.ofNat i = Int32.ofNat (24 + i) := zn_add 24 i
theorem zkb24 (i : Nat) : Int32.ofNat i + 24 = Int32.ofNat (i + 24) := zn_add i 24
theorem zks24 {i : Nat} (h : 24 ≤ i) : Int32.ofNat i - 24 = Int32.ofNat (i - 24) := zn_sub h
theorem zkt24 {i : Nat} (h : i ≤ 24) : (24 : Int32) - Int32.ofNat i = Int32.ofNat (24 - i) := zn_sub h
theorem zkm24 (i : Nat) : (24 : Int32) * Int32.ofNat i = Int32.ofNat (24 * i) := zn_mul 24 i
theorem zkl24 {i : Nat} (h : i < 2 ^ 31) : Int32.ofNat i < 24 ↔ i < 24 := zn_lt h (by decide)
theorem zkn24 {i : Nat} (h : i < 2 ^ 31) : Int32.ofNat i ≤ 24 ↔ i ≤ 24 := zn_le h (by decide)
theorem zkg24 {i : Nat} (h : i < 2 ^ 31) : 24 < Int32.ofNat i ↔ 24 < i := zn_lt (by decide) h
theorem zkh24 {i : Nat} (h : i < 2 ^ 31) : 24 ≤ Int32.ofNat i ↔ 24 ≤ i := zn_le (by decide) h
theorem zke24 {i : Nat} (h : i < 2 ^ 31) : Int32.ofNat i = 24 ↔ i = 24 := zn_eq h (by decide)
theorem zkf24 {i : Nat} (h : i < 2 ^ 31) : (24 : Int32) = Int32.ofNat i ↔ 24 = i := zn_eq (by decide) h
theorem zkd24 {i : Nat} (h : i < 2 ^ 31) : Int32.ofNat i / 24 = Int32.ofNat (i / 24) := zn_div h (by decide) (by decide)
theorem zka27 (i : Nat) : (27 : Int32) + Int32.ofNat i = Int32.ofNat (27 + i) := zn_add 27 i
theorem zkb27 (i : Nat) : Int32.ofNat i + 27 = Int32.ofNat (i + 27) := zn_add i 27
theorem zks27 {i : Nat} (h : 27 ≤ i) : Int32.ofNat i - 27 = Int32.ofNat (i - 27) := zn_sub h
theorem zkt27 {i : Nat} (h : i ≤ 27) : (27 : Int32) - Int32.ofNat i = Int32.ofNat (27 - i) := zn_sub h
theorem zkm27 (i : Nat) : (27 : Int32) * Int32.ofNat i = Int32.ofNat (27 * i) := zn_mul 27 i
theorem zkl27 {i : Nat} (h : i < 2 ^ 31) : Int32.ofNat i < 27 ↔ i < 27 := zn_lt h (by decide)
theorem zkn27 {i : Nat} (h : i < 2 ^ 31) : Int32.ofNat i ≤ 27 ↔ i ≤ 27 := zn_le h (by decide)
theorem zkg27 {i : Nat} (h : i < 2 ^ 31) : 27 < Int32.ofNat i ↔ 27 < i := zn_lt (by decide) h
theorem zkh27 {i : Nat} (h : i < 2 ^ 31) : 27 ≤ Int32.ofNat i ↔ 27 ≤ i := zn_le (by decide) h
theorem zke27 {i : Nat} (h : i < 2 ^ 31) : Int32.ofNat i = 27 ↔ i = 27 := zn_eq h (by decide)
theorem zkf27 {i : Nat} (h : i < 2 ^ 31) : (27 : Int32) = Int32.ofNat i ↔ 27 = i := zn_eq (by decide) h
theorem zkd27 {i : Nat} (h : i < 2 ^ 31) : Int32.ofNat i / 27 = Int32.ofNat (i / 27) := zn_div h (by decide) (by decide)
theorem zka31 (i : Nat) : (31 : Int32) + Int32.ofNat i = Int32.ofNat (31 + i) := zn_add 31 i
theorem zkb31 (i : Nat) : Int32.ofNat i + 31 = Int32.ofNat (i + 31) := zn_add i 31
theorem zks31 {i : Nat} (h : 31 ≤ i) : Int32.ofNat i - 31 = Int32.ofNat (i - 31) := zn_sub h
theorem zkt31 {i : Nat} (h : i ≤ 31) : (31 : Int32) - Int32.ofNat i = Int32.ofNat (31 - i) := zn_sub h
theorem zkm31 (i : Nat) : (31 : Int32) * Int32.ofNat i = Int32.ofNat (31 * i) := zn_mul 31 i
theorem zkl31 {i : Nat} (h : i < 2 ^ 31) : Int32.ofNat i < 31 ↔ i < 31 := zn_lt h (by decide)
theorem zkn31 {i : Nat} (h : i < 2 ^ 31) : Int32.ofNat i ≤ 31 ↔ i ≤ 31 := zn_le h (by decide)
theorem zkg31 {i : Nat} (h : i < 2 ^ 31) : 31 < Int32.ofNat i ↔ 31 < i := zn_lt (by decide) h
theorem zkh31 {i : Nat} (h : i < 2 ^ 31) : 31 ≤ Int32.ofNat i ↔ 31 ≤ i := zn_le (by decide) h
theorem zke31 {i : Nat} (h : i < 2 ^ 31) : Int32.ofNat i = 31 ↔ i = 31 := zn_eq h (by decide)
theorem zkf31 {i : Nat} (h : i < 2 ^ 31) : (31 : Int32) = Int32.ofNat i ↔ 31 = i := zn_eq (by decide) h
theorem zkd31 {i : Nat} (h : i < 2 ^ 31) : Int32.ofNat i / 31 = Int32.ofNat (i / 31) := zn_div h (by decide) (by decide)
theorem zka32 (i : Nat) : (32 : Int32) + Int32.ofNat i = Int32.ofNat (32 + i) := zn_add 32 i
theorem zkb32 (i : Nat) : Int32.ofNat i + 32 = Int32.ofNat (i + 32) := zn_add i 32
theorem zks32 {i : Nat} (h : 32 ≤ i) : Int32.ofNat i - 32 = Int32.ofNat (i - 32) := zn_sub h
theorem zkt32 {i : Nat} (h : i ≤ 32) : (32 : Int32) - Int32.ofNat i = Int32.ofNat (32 - i) := zn_sub h
theorem zkm32 (i : Nat) : (32 : Int32) * Int32.ofNat i = Int32.ofNat (32 * i) := zn_mul 32 i
theorem zkl32 {i : Nat} (h : i < 2 ^ 31) : Int32.ofNat i < 32 ↔ i < 32 := zn_lt h (by decide)
theorem zkn32 {i : Nat} (h : i < 2 ^ 31) : Int32.ofNat i ≤ 32 ↔ i ≤ 32 := zn_le h (by decide)
theorem zkg32 {i : Nat} (h : i < 2 ^ 31) : 32 < Int32.ofNat i ↔ 32 < i := zn_lt (by decide) h
theorem zkh32 {i : Nat} (h : i < 2 ^ 31) : 32 ≤ Int32.ofNat i ↔ 32 ≤ i := zn_le (by decide) h
theorem zke32 {i : Nat} (h : i < 2 ^ 31) : Int32.ofNat i = 32 ↔ i = 32 := zn_eq h (by decide)
theorem zkf32 {i : Nat} (h : i < 2 ^ 31) : (32 : Int32) = Int32.ofNat i ↔ 32 = i := zn_eq (by decide) h
theorem zkd32 {i : Nat} (h : i < 2 ^ 31) : Int32.ofNat i / 32 = Int32.ofNat (i / 32) := zn_div h (by decide) (by decide)
theorem zka40 (i : Nat) : (40 : Int32) + Int32.ofNat i = Int32.ofNat (40 + i) := zn_add 40 i
theorem zkb40 (i : Nat) : Int32.ofNat i + 40 = Int32.ofNat (i + 40) := zn_add i 40
theorem zks40 {i : Nat} (h : 40 ≤ i) : Int32.ofNat i - 40 = Int32.ofNat (i - 40) := zn_sub h
theorem zkt40 {i : Nat} (h : i ≤ 40) : (40 : Int32) - Int32.ofNat i = Int32.ofNat (40 - i) := zn_sub h
theorem zkm40 (i : Nat) : (40 : Int32) * Int32.ofNat i = Int32.ofNat (40 * i) := zn_mul 40 i
theorem zkl40 {i : Nat} (h : i < 2 ^ 31) : Int32.ofNat i < 40 ↔ i < 40 := zn_lt h (by decide)
theorem zkn40 {i : Nat} (h : i < 2 ^ 31) : Int32.ofNat i ≤ 40 ↔ i ≤ 40 := zn_le h (by decide)
theorem zkg40 {i : Nat} (h : i < 2 ^ 31) : 40 < Int32.ofNat i ↔ 40 < i := zn_lt (by decide) h
theorem zkh40 {i : Nat} (h : i < 2 ^ 31) : 40 ≤ Int32.ofNat i ↔ 40 ≤ i := zn_le (by decide) h
theorem zke40 {i : Nat} (h : i < 2 ^ 31) : Int32.ofNat i = 40 ↔ i = 40 := zn_eq h (by decide)
theorem zkf40 {i : Nat} (h : i < 2 ^ 31) : (40 : Int32) = Int32.ofNat i ↔ 40 = i := zn_eq (by decide) h
theorem zkd40 {i : Nat} (h : i < 2 ^ 31) : Int32.ofNat i / 40 = Int32.ofNat (i / 40) := zn_div h (by decide) (by decide)
theorem zka48 (i : Nat) : (48 : Int32) + Int32.ofNat i = Int32.ofNat (48 + i) := zn_add 48 i
theorem zkb48 (i : Nat) : Int32.ofNat i + 48 = Int32.ofNat (i + 48) := zn_add i 48
theorem zks48 {i : Nat} (h : 48 ≤ i) : Int32.ofNat i - 48 = Int32.ofNat (i - 48) := zn_sub h
theorem zkt48 {i : Nat} (h : i ≤ 48) : (48 : Int32) - Int32.ofNat i = Int32.ofNat (48 - i) := zn_sub h
theorem zkm48 (i : Nat) : (48 : Int32) * Int32.ofNat i = Int32.ofNat (48 * i) := zn_mul 48 i
theorem zkl48 {i : Nat} (h : i < 2 ^ 31) : Int32.ofNat i < 48 ↔ i < 48 := zn_lt h (by decide)
theorem zkn48 {i : Nat} (h : i < 2 ^ 31) : Int32.ofNat i ≤ 48 ↔ i ≤ 48 := zn_le h (by decide)
theorem zkg48 {i : Nat} (h : i < 2 ^ 31) : 48 < Int32.ofNat i ↔ 48 < i := zn_lt (by decide) h
theorem zkh48 {i : Nat} (h : i < 2 ^ 31) : 48 ≤ Int32.ofNat i ↔ 48 ≤ i := zn_le (by decide) h
theorem zke48 {i : Nat} (h : i < 2 ^ 31) : Int32.ofNat i = 48 ↔ i = 48 := zn_eq h (by decide)
theorem zkf48 {i : Nat} (h : i < 2 ^ 31) : (48 : Int32) = Int32.ofNat i ↔ 48 = i := zn_eq (by decide) h
theorem zkd48 {i : Nat} (h : i < 2 ^ 31) : Int32.ofNat i / 48 = Int32.ofNat (i / 48) := zn_div h (by decide) (by decide)
theorem zka50 (i : Nat) : (50 : Int32) + Int32.ofNat i = Int32.ofNat (50 + i) := zn_add 50 i
theorem zkb50 (i : Nat) : Int32.ofNat i + 50 = Int32.ofNat (i + 50) := zn_add i 50
theorem zks50 {i : Nat} (h : 50 ≤ i) : Int32.ofNat i - 50 = Int32.ofNat (i - 50) := zn_sub h
theorem zkt50 {i : Nat} (h : i ≤ 50) : (50 : Int32) - Int32.ofNat i = Int32.ofNat (50 - i) := zn_sub h
theorem zkm50 (i : Nat) : (50 : Int32) * Int32.ofNat i = Int32.ofNat (50 * i) := zn_mul 50 i
theorem zkl50 {i : Nat} (h : i < 2 ^ 31) : Int32.ofNat i < 50 ↔ i < 50 := zn_lt h (by decide)
theorem zkn50 {i : Nat} (h : i < 2 ^ 31) : Int32.ofNat i ≤ 50 ↔ i ≤ 50 := zn_le h (by decide)
theorem zkg50 {i : Nat} (h : i < 2 ^ 31) : 50 < Int32.ofNat i ↔ 50 < i := zn_lt (by decide) h
theorem zkh50 {i : Nat} (h : i < 2 ^ 31) : 50 ≤ Int32.ofNat i ↔ 50 ≤ i := zn_le (by decide) h
theorem zke50 {i : Nat} (h : i < 2 ^ 31) : Int32.ofNat i = 50 ↔ i = 50 := zn_eq h (by decide)
theorem zkf50 {i : Nat} (h : i < 2 ^ 31) : (50 : Int32) = Int32.ofNat i ↔ 50 = i := zn_eq (by decide) h
theorem zkd50 {i : Nat} (h : i < 2 ^ 31) : Int32.ofNat i / 50 = Int32.ofNat (i / 50) := zn_div h (by decide) (by decide)
theorem zka60 (i : Nat) : (60 : Int32) + Int32.ofNat i = Int32.ofNat (60 + i) := zn_add 60 i
theorem zkb60 (i : Nat) : Int32.ofNat i + 60 = Int32.ofNat (i + 60) := zn_add i 60
theorem zks60 {i : Nat} (h : 60 ≤ i) : Int32.ofNat i - 60 = Int32.ofNat (i - 60) := zn_sub h
theorem zkt60 {i : Nat} (h : i ≤ 60) : (60 : Int32) - Int32.ofNat i = Int32.ofNat (60 - i) := zn_sub h
theorem zkm60 (i : Nat) : (60 : Int32) * Int32.ofNat i = Int32.ofNat (60 * i) := zn_mul 60 i
theorem zkl60 {i : Nat} (h : i < 2 ^ 31) : Int32.ofNat i < 60 ↔ i < 60 := zn_lt h (by decide)
theorem zkn60 {i : Nat} (h : i < 2 ^ 31) : Int32.ofNat i ≤ 60 ↔ i ≤ 60 := zn_le h (by decide)
theorem zkg60 {i : Nat} (h : i < 2 ^ 31) : 60 < Int32.ofNat i ↔ 60 < i := zn_lt (by decide) h
theorem zkh60 {i : Nat} (h : i < 2 ^ 31) : 60 ≤ Int32.ofNat i ↔ 60 ≤ i := zn_le (by decide) h
theorem zke60 {i : Nat} (h : i < 2 ^ 31) : Int32.ofNat i = 60 ↔ i = 60 := zn_eq h (by decide)
theorem zkf60 {i : Nat} (h : i < 2 ^ 31) : (60 : Int32) = Int32.ofNat i ↔ 60 = i := zn_eq (by decide) h
theorem zkd60 {i : Nat} (h : i < 2 ^ 31) : Int32.ofNat i / 60 = Int32.ofNat (i / 60) := zn_div h (by decide) (by decide)
theorem zka64 (i : Nat) : (64 : Int32) + Int32.ofNat i = Int32.ofNat (64 + i) := zn_add 64 i
theorem zkb64 (i : Nat) : Int32.ofNat i + 64 = Int32.ofNat (i + 64) := zn_add i 64
theorem zks64 {i : Nat} (h : 64 ≤ i) : Int32.ofNat i - 64 = Int32.ofNat (i - 64) := zn_sub h
theorem zkt64 {i : Nat} (h : i ≤ 64) : (64 : Int32) - Int32.ofNat i = Int32.ofNat (64 - i) := zn_sub h
theorem zkm64 (i : Nat) : (64 : Int32) * Int32.ofNat i = Int32.ofNat (64 * i) := zn_mul 64 i
theorem zkl64 {i : Nat} (h : i < 2 ^ 31) : Int32.ofNat i < 64 ↔ i < 64 := zn_lt h (by decide)
theorem zkn64 {i : Nat} (h : i < 2 ^ 31) : Int32.ofNat i ≤ 64 ↔ i ≤ 64 := zn_le h (by decide)
theorem zkg64 {i : Nat} (h : i < 2 ^ 31) : 64 < Int32.ofNat i ↔ 64 < i := zn_lt (by decide) h
theorem zkh64 {i : Nat} (h : i < 2 ^ 31) : 64 ≤ Int32.ofNat i ↔ 64 ≤ i := zn_le (by decide) h
theorem zke64 {i : Nat} (h : i < 2 ^ 31) : Int32.ofNat i = 64 ↔ i = 64 := zn_eq h (by decide)
theorem zkf64 {i : Nat} (h : i < 2 ^ 31) : (64 : Int32) = Int32.ofNat i ↔ 64 = i := zn_eq (by decide) h
theorem zkd64 {i : Nat} (h : i < 2 ^ 31) : Int32.ofNat i / 64 = Int32.ofNat (i / 64) := zn_div h (by decide) (by decide)
theorem zka99 (i : Nat) : (99 : Int32) + Int32.ofNat i = Int32.ofNat (99 + i) := zn_add 99 i
theorem zkb99 (i : Nat) : Int32.ofNat i + 99 = Int32.ofNat (i + 99) := zn_add i 99
theorem zks99 {i : Nat} (h : 99 ≤ i) : Int32.ofNat i - 99 = Int32.ofNat (i - 99) := zn_sub h
theorem zkt99 {i : Nat} (h : i ≤ 99) : (99 : Int32) - Int32.ofNat i = Int32.ofNat (99 - i) := zn_sub h
theorem zkm99 (i : Nat) : (99 : Int32) * Int32.ofNat i = Int32.ofNat (99 * i) := zn_mul 99 i
theorem zkl99 {i : Nat} (h : i < 2 ^ 31) : Int32.ofNat i < 99 ↔ i < 99 := zn_lt h (by decide)
theorem zkn99 {i : Nat} (h : i < 2 ^ 31) : Int32.ofNat i ≤ 99 ↔ i ≤ 99 := zn_le h (by decide)
theorem zkg99 {i : Nat} (h : i < 2 ^ 31) : 99 < Int32.ofNat i ↔ 99 < i := zn_lt (by decide) h
theorem zkh99 {i : Nat} (h : i < 2 ^ 31) : 99 ≤ Int32.ofNat i ↔ 99 ≤ i := zn_le (by decide) h
theorem zke99 {i : Nat} (h : i < 2 ^ 31) : Int32.ofNat i = 99 ↔ i = 99 := zn_eq h (by decide)
theorem zkf99 {i : Nat} (h : i < 2 ^ 31) : (99 : Int32) = Int32.ofNat i ↔ 99 = i := zn_eq (by decide) h
theorem zkd99 {i : Nat} (h : i < 2 ^ 31) : Int32.ofNat i / 99 = Int32.ofNat (i / 99) := zn_div h (by decide) (by decide)
theorem zka100 (i : Nat) : (100 : Int32) + Int32.ofNat i = Int32.ofNat (100 + i) := zn_add 100 i
theorem zkb100 (i : Nat) : Int32.ofNat i + 100 = Int32.ofNat (i + 100) := zn_add i 100
theorem zks100 {i : Nat} (h : 100 ≤ i) : Int32.ofNat i - 100 = Int32.ofNat (i - 100) := zn_sub h
theorem zkt100 {i : Nat} (h : i ≤ 100) : (100 : Int32) - Int32.ofNat i = Int32.ofNat (100 - i) := zn_sub h
theorem zkm100 (i : Nat) : (100 : Int32) * Int32.ofNat i = Int32.ofNat (100 * i) := zn_mul 100 i
theorem zkl100 {i : Nat} (h : i < 2 ^ 31) : Int32.ofNat i < 100 ↔ i < 100 := zn_lt h (by decide)
theorem zkn100 {i : Nat} (h : i < 2 ^ 31) : Int32.ofNat i ≤ 100 ↔ i ≤ 100 := zn_le h (by decide)
theorem zkg100 {i : Nat} (h : i < 2 ^ 31) : 100 < Int32.ofNat i ↔ 100 < i := zn_lt (by decide) h
theorem zkh100 {i : Nat} (h : i < 2 ^ 31) : 100 ≤ Int32.ofNat i ↔ 100 ≤ i := zn_le (by decide) h
theorem zke100 {i : Nat} (h : i < 2 ^ 31) : Int32.ofNat i = 100 ↔ i = 100 := zn_eq h (by decide)
theorem zkf100 {i : Nat} (h : i < 2 ^ 31) : (100 : Int32) = Int32.ofNat i ↔ 100 = i := zn_eq (by decide) h
theorem zkd100 {i : Nat} (h : i < 2 ^ 31) : Int32.ofNat i / 100 = Int32.ofNat (i / 100) := zn_div h (by decide) (by decide)
theorem zka300 (i : Nat) : (300 : Int32) + Int32.ofNat i = Int32.ofNat (300 + i) := zn_add 300 i
theorem zkb300 (i : Nat) : Int32.ofNat i + 300 = Int32.ofNat (i + 300) := zn_add i 300
theorem zks300 {i : Nat} (h : 300 ≤ i) : Int32.ofNat i - 300 = Int32.ofNat (i - 300) := zn_sub h
theorem zkt300 {i : Nat} (h : i ≤ 300) : (300 : Int32) - Int32.ofNat i = Int32.ofNat (300 - i) := zn_sub h
theorem zkm300 (i : Nat) : (300 : Int32) * Int32.ofNat i = Int32.ofNat (300 * i) := zn_mul 300 i
theorem zkl300 {i : Nat} (h : i < 2 ^ 31) : Int32.ofNat i < 300 ↔ i < 300 := zn_lt h (by decide)
theorem zkn300 {i : Nat} (h : i < 2 ^ 31) : Int32.ofNat i ≤ 300 ↔ i ≤ 300 := zn_le h (by decide)
theorem zkg300 {i : Nat} (h : i < 2 ^ 31) : 300 < Int32.ofNat i ↔ 300 < i := zn_lt (by decide) h
theorem zkh300 {i : Nat} (h : i < 2 ^ 31) : 300 ≤ Int32.ofNat i ↔ 300 ≤ i := zn_le (by decide) h
theorem zke300 {i : Nat} (h : i < 2 ^ 31) : Int32.ofNat i = 300 ↔ i = 300 := zn_eq h (by decide)
theorem zkf300 {i : Nat} (h : i < 2 ^ 31) : (300 : Int32) = Int32.ofNat i ↔ 300 = i := zn_eq (by decide) h
theorem zkd300 {i : Nat} (h : i < 2 ^ 31) : Int32.ofNat i / 300 = Int32.ofNat (i / 300) := zn_div h (by decide) (by decide)
theorem zka302 (i : Nat) : (302 : Int32) + Int32.ofNat i = Int32.ofNat (302 + i) := zn_add 302 i
theorem zkb302 (i : Nat) : Int32.ofNat i + 302 = Int32.ofNat (i + 302) := zn_add i 302
theorem zks302 {i : Nat} (h : 302 ≤ i) : Int32.ofNat i - 302 = Int32.ofNat (i - 302) := zn_sub h
theorem zkt302 {i : Nat} (h : i ≤ 302) : (302 : Int32) - Int32.ofNat i = Int32.ofNat (302 - i) := zn_sub h
theorem zkm302 (i : Nat) : (302 : Int32) * Int32.ofNat i = Int32.ofNat (302 * i) := zn_mul 302 i
theorem zkl302 {i : Nat} (h : i < 2 ^ 31) : Int32.ofNat i < 302 ↔ i < 302 := zn_lt h (by decide)
theorem zkn302 {i : Nat} (h : i < 2 ^ 31) : Int32.ofNat i ≤ 302 ↔ i ≤ 302 := zn_le h (by decide)
theorem zkg302 {i : Nat} (h : i < 2 ^ 31) : 302 < Int32.ofNat i ↔ 302 < i := zn_lt (by decide) h
theorem zkh302 {i : Nat} (h : i < 2 ^ 31) : 302 ≤ Int32.ofNat i ↔ 302 ≤ i := zn_le (by decide) h
theorem zke302 {i : Nat} (h : i < 2 ^ 31) : Int32.ofNat i = 302 ↔ i = 302 := zn_eq h (by decide)
theorem zkf302 {i : Nat} (h : i < 2 ^ 31) : (302 : Int32) = Int32.ofNat i ↔ 302 = i := zn_eq (by decide) h
theorem zkd302 {i : Nat} (h : i < 2 ^ 31) : Int32.ofNat i / 302 = Int32.ofNat (i / 302) := zn_div h (by decide) (by decide)
theorem zka320 (i : Nat) : (320 : Int32) + Int32.ofNat i = Int32.ofNat (320 + i) := zn_add 320 i
theorem zkb320 (i : Nat) : Int32.ofNat i + 320 = Int32.ofNat (i + 320) := zn_add i 320
theorem zks320 {i : Nat} (h : 320 ≤ i) : Int32.ofNat i - 320 = Int32.ofNat (i - 320) := zn_sub h
theorem zkt320 {i : Nat} (h : i ≤ 320) : (320 : Int32) - Int32.ofNat i = Int32.ofNat (320 - i) := zn_sub h
theorem zkm320 (i : Nat) : (320 : Int32) * Int32.ofNat i = Int32.ofNat (320 * i) := zn_mul 320 i
theorem zkl320 {i : Nat} (h : i < 2 ^ 31) : Int32.ofNat i < 320 ↔ i < 320 := zn_lt h (by decide)
theorem zkn320 {i : Nat} (h : i < 2 ^ 31) : Int32.ofNat i ≤ 320 ↔ i ≤ 320 := zn_le h (by decide)
theorem zkg320 {i : Nat} (h : i < 2 ^ 31) : 320 < Int32.ofNat i ↔ 320 < i := zn_lt (by decide) h
theorem zkh320 {i : Nat} (h : i < 2 ^ 31) : 320 ≤ Int32.ofNat i ↔ 320 ≤ i := zn_le (by decide) h
theorem zke320 {i : Nat} (h : i < 2 ^ 31) : Int32.ofNat i = 320 ↔ i = 320 := zn_eq h (by decide)
theorem zkf320 {i : Nat} (h : i < 2 ^ 31) : (320 : Int32) = Int32.ofNat i ↔ 320 = i := zn_eq (by decide) h
theorem zkd320 {i : Nat} (h : i < 2 ^ 31) : Int32.ofNat i / 320 = Int32.ofNat (i / 320) := zn_div h (by decide) (by decide)
theorem zka512 (i : Nat) : (512 : Int32) + Int32.ofNat i = Int32.ofNat (512 + i) := zn_add 512 i
theorem zkb512 (i : Nat) : Int32.ofNat i + 512 = Int32.ofNat (i + 512) := zn_add i 512
theorem zks512 {i : Nat} (h : 512 ≤ i) : Int32.ofNat i - 512 = Int32.ofNat (i - 512) := zn_sub h
theorem zkt512 {i : Nat} (h : i ≤ 512) : (512 : Int32) - Int32.ofNat i = Int32.ofNat (512 - i) := zn_sub h
theorem zkm512 (i : Nat) : (512 : Int32) * Int32.ofNat i = Int32.ofNat (512 * i) := zn_mul 512 i
theorem zkl512 {i : Nat} (h : i < 2 ^ 31) : Int32.ofNat i < 512 ↔ i < 512 := zn_lt h (by decide)
theorem zkn512 {i : Nat} (h : i < 2 ^ 31) : Int32.ofNat i ≤ 512 ↔ i ≤ 512 := zn_le h (by decide)
theorem zkg512 {i : Nat} (h : i < 2 ^ 31) : 512 < Int32.ofNat i ↔ 512 < i := zn_lt (by decide) h
theorem zkh512 {i : Nat} (h : i < 2 ^ 31) : 512 ≤ Int32.ofNat i ↔ 512 ≤ i := zn_le (by decide) h
theorem zke512 {i : Nat} (h : i < 2 ^ 31) : Int32.ofNat i = 512 ↔ i = 512 := zn_eq h (by decide)
theorem zkf512 {i : Nat} (h : i < 2 ^ 31) : (512 : Int32) = Int32.ofNat i ↔ 512 = i := zn_eq (by decide) h
theorem zkd512 {i : Nat} (h : i < 2 ^ 31) : Int32.ofNat i / 512 = Int32.ofNat (i / 512) := zn_div h (by decide) (by decide)
theorem zka599 (i : Nat) : (599 : Int32) + Int32.ofNat i = Int32.ofNat (599 + i) := zn_add 599 i
theorem zkb599 (i : Nat) : Int32.ofNat i + 599 = Int32.ofNat (i + 599) := zn_add i 599
theorem zks599 {i : Nat} (h : 599 ≤ i) : Int32.ofNat i - 599 = Int32.ofNat (i - 599) := zn_sub h
theorem zkt599 {i : Nat} (h : i ≤ 599) : (599 : Int32) - Int32.ofNat i = Int32.ofNat (599 - i) := zn_sub h
theorem zkm599 (i : Nat) : (599 : Int32) * Int32.ofNat i = Int32.ofNat (599 * i) := zn_mul 599 i
theorem zkl599 {i : Nat} (h : i < 2 ^ 31) : Int32.ofNat i < 599 ↔ i < 599 := zn_lt h (by decide)
theorem zkn599 {i : Nat} (h : i < 2 ^ 31) : Int32.ofNat i ≤ 599 ↔ i ≤ 599 := zn_le h (by decide)
theorem zkg599 {i : Nat} (h : i < 2 ^ 31) : 599 < Int32.ofNat i ↔ 599 < i := zn_lt (by decide) h
theorem zkh599 {i : Nat} (h : i < 2 ^ 31) : 599 ≤ Int32.ofNat i ↔ 599 ≤ i := zn_le (by decide) h
theorem zke599 {i : Nat} (h : i < 2 ^ 31) : Int32.ofNat i = 599 ↔ i = 599 := zn_eq h (by decide)
theorem zkf599 {i : Nat} (h : i < 2 ^ 31) : (599 : Int32) = Int32.ofNat i ↔ 599 = i := zn_eq (by decide) h
theorem zkd599 {i : Nat} (h : i < 2 ^ 31) : Int32.ofNat i / 599 = Int32.ofNat (i / 599) := zn_div h (by decide) (by decide)
theorem zka600 (i : Nat) : (600 : Int32) + Int32.ofNat i = Int32.ofNat (600 + i) := zn_add 600 i
theorem zkb600 (i : Nat) : Int32.ofNat i + 600 = Int32.ofNat (i + 600) := zn_add i 600
theorem zks600 {i : Nat} (h : 600 ≤ i) : Int32.ofNat i - 600 = Int32.ofNat (i - 600) := zn_sub h
theorem zkt600 {i : Nat} (h : i ≤ 600) : (600 : Int32) - Int32.ofNat i = Int32.ofNat (600 - i) := zn_sub h
theorem zkm600 (i : Nat) : (600 : Int32) * Int32.ofNat i = Int32.ofNat (600 * i) := zn_mul 600 i
theorem zkl600 {i : Nat} (h : i < 2 ^ 31) : Int32.ofNat i < 600 ↔ i < 600 := zn_lt h (by decide)
theorem zkn600 {i : Nat} (h : i < 2 ^ 31) : Int32.ofNat i ≤ 600 ↔ i ≤ 600 := zn_le h (by decide)
theorem zkg600 {i : Nat} (h : i < 2 ^ 31) : 600 < Int32.ofNat i ↔ 600 < i := zn_lt (by decide) h
theorem zkh600 {i : Nat} (h : i < 2 ^ 31) : 600 ≤ Int32.ofNat i ↔ 600 ≤ i := zn_le (by decide) h
theorem zke600 {i : Nat} (h : i < 2 ^ 31) : Int32.ofNat i = 600 ↔ i = 600 := zn_eq h (by decide)
theorem zkf600 {i : Nat} (h : i < 2 ^ 31) : (600 : Int32) = Int32.ofNat i ↔ 600 = i := zn_eq (by decide) h
theorem zkd600 {i : Nat} (h : i < 2 ^ 31) : Int32.ofNat i / 600 = Int32.ofNat (i / 600) := zn_div h (by decide) (by decide)
theorem zka601 (i : Nat) : (601 : Int32) + Int32.ofNat i = Int32.ofNat (601 + i) := zn_add 601 i
theorem zkb601 (i : Nat) : Int32.ofNat i + 601 = Int32.ofNat (i + 601) := zn_add i 601
theorem zks601 {i : Nat} (h : 601 ≤ i) : Int32.ofNat i - 601 = Int32.ofNat (i - 601) := zn_sub h
theorem zkt601 {i : Nat} (h : i ≤ 601) : (601 : Int32) - Int32.ofNat i = Int32.ofNat (601 - i) := zn_sub h
theorem zkm601 (i : Nat) : (601 : Int32) * Int32.ofNat i = Int32.ofNat (601 * i) := zn_mul 601 i
theorem zkl601 {i : Nat} (h : i < 2 ^ 31) : Int32.ofNat i < 601 ↔ i < 601 := zn_lt h (by decide)
theorem zkn601 {i : Nat} (h : i < 2 ^ 31) : Int32.ofNat i ≤ 601 ↔ i ≤ 601 := zn_le h (by decide)
theorem zkg601 {i : Nat} (h : i < 2 ^ 31) : 601 < Int32.ofNat i ↔ 601 < i := zn_lt (by decide) h
theorem zkh601 {i : Nat} (h : i < 2 ^ 31) : 601 ≤ Int32.ofNat i ↔ 601 ≤ i := zn_le (by decide) h
theorem zke601 {i : Nat} (h : i < 2 ^ 31) : Int32.ofNat i = 601 ↔ i = 601 := zn_eq h (by decide)
theorem zkf601 {i : Nat} (h : i < 2 ^ 31) : (601 : Int32) = Int32.ofNat i ↔ 601 = i := zn_eq (by decide) h
theorem zkd601 {i : Nat} (h : i < 2 ^ 31) : Int32.ofNat i / 601 = Int32.ofNat (i / 601) := zn_div h (by decide) (by decide)
theorem zka620 (i : Nat) : (620 : Int32) + Int32.ofNat i = Int32.ofNat (620 + i) := zn_add 620 i
theorem zkb620 (i : Nat) : Int32.ofNat i + 620 = Int32.ofNat (i + 620) := zn_add i 620
theorem zks620 {i : Nat} (h : 620 ≤ i) : Int32.ofNat i - 620 = Int32.ofNat (i - 620) := zn_sub h
theorem zkt620 {i : Nat} (h : i ≤ 620) : (620 : Int32) - Int32.ofNat i = Int32.ofNat (620 - i) := zn_sub h
theorem zkm620 (i : Nat) : (620 : Int32) * Int32.ofNat i = Int32.ofNat (620 * i) := zn_mul 620 i
theorem zkl620 {i : Nat} (h : i < 2 ^ 31) : Int32.ofNat i < 620 ↔ i < 620 := zn_lt h (by decide)
theorem zkn620 {i : Nat} (h : i < 2 ^ 31) : Int32.ofNat i ≤ 620 ↔ i ≤ 620 := zn_le h (by decide)
theorem zkg620 {i : Nat} (h : i < 2 ^ 31) : 620 < Int32.ofNat i ↔ 620 < i := zn_lt (by decide) h
theorem zkh620 {i : Nat} (h : i < 2 ^ 31) : 620 ≤ Int32.ofNat i ↔ 620 ≤ i := zn_le (by decide) h
theorem zke620 {i : Nat} (h : i < 2 ^ 31) : Int32.ofNat i = 620 ↔ i = 620 := zn_eq h (by decide)
theorem zkf620 {i : Nat} (h : i < 2 ^ 31) : (620 : Int32) = Int32.ofNat i ↔ 620 = i := zn_eq (by decide) h
theorem zkd620 {i : Nat} (h : i < 2 ^ 31) : Int32.ofNat i / 620 = Int32.ofNat (i / 620) := zn_div h (by decide) (by decide)
theorem zka920 (i : Nat) : (920 : Int32) + Int32.ofNat i = Int32.ofNat (920 + i) := zn_add 920 i
theorem zkb920 (i : Nat) : Int32.ofNat i + 920 = Int32.ofNat (i + 920) := zn_add i 920
theorem zks920 {i : Nat} (h : 920 ≤ i) : Int32.ofNat i - 920 = Int32.ofNat (i - 920) := zn_sub h
theorem zkt920 {i : Nat} (h : i ≤ 920) : (920 : Int32) - Int32.ofNat i = Int32.ofNat (920 - i) := zn_sub h
theorem zkm920 (i : Nat) : (920 : Int32) * Int32.ofNat i = Int32.ofNat (920 * i) := zn_mul 920 i
theorem zkl920 {i : Nat} (h : i < 2 ^ 31) : Int32.ofNat i < 920 ↔ i < 920 := zn_lt h (by decide)
theorem zkn920 {i : Nat} (h : i < 2 ^ 31) : Int32.ofNat i ≤ 920 ↔ i ≤ 920 := zn_le h (by decide)
theorem zkg920 {i : Nat} (h : i < 2 ^ 31) : 920 < Int32.ofNat i ↔ 920 < i := zn_lt (by decide) h
theorem zkh920 {i : Nat} (h : i < 2 ^ 31) : 920 ≤ Int32.ofNat i ↔ 920 ≤ i := zn_le (by decide) h
theorem zke920 {i : Nat} (h : i < 2 ^ 31) : Int32.ofNat i = 920 ↔ i = 920 := zn_eq h (by decide)
theorem zkf920 {i : Nat} (h : i < 2 ^ 31) : (920 : Int32) = Int32.ofNat i ↔ 920 = i := zn_eq (by decide) h
theorem zkd920 {i : Nat} (h : i < 2 ^ 31) : Int32.ofNat i / 920 = Int32.ofNat (i / 920) := zn_div h (by decide) (by decide)
theorem zka999 (i : Nat) : (999 : Int32) + Int32.ofNat i = Int32.ofNat (999 + i) := zn_add 999 i
theorem zkb999 (i : Nat) : Int32.ofNat i + 999 = Int32.ofNat (i + 999) := zn_add i 999
theorem zks999 {i : Nat} (h : 999 ≤ i) : Int32.ofNat i - 999 = Int32.ofNat (i - 999) := zn_sub h
theorem zkt999 {i : Nat} (h : i ≤ 999) : (999 : Int32) - Int32.ofNat i = Int32.ofNat (999 - i) := zn_sub h
theorem zkm999 (i : Nat) : (999 : Int32) * Int32.ofNat i = Int32.ofNat (999 * i) := zn_mul 999 i
theorem zkl999 {i : Nat} (h : i < 2 ^ 31) : Int32.ofNat i < 999 ↔ i < 999 := zn_lt h (by decide)
theorem zkn999 {i : Nat} (h : i < 2 ^ 31) : Int32.ofNat i ≤ 999 ↔ i ≤ 999 := zn_le h (by decide)
theorem zkg999 {i : Nat} (h : i < 2 ^ 31) : 999 < Int32.ofNat i ↔ 999 < i := zn_lt (by decide) h
theorem zkh999 {i : Nat} (h : i < 2 ^ 31) : 999 ≤ Int32.ofNat i ↔ 999 ≤ i := zn_le (by decide) h
theorem zke999 {i : Nat} (h : i < 2 ^ 31) : Int32.ofNat i = 999 ↔ i = 999 := zn_eq h (by decide)
theorem zkf999 {i : Nat} (h : i < 2 ^ 31) : (999 : Int32) = Int32.ofNat i ↔ 999 = i := zn_eq (by decide) h
theorem zkd999 {i : Nat} (h : i < 2 ^ 31) : Int32.ofNat i / 999 = Int32.ofNat (i / 999) := zn_div h (by decide) (by decide)
theorem zka1000 (i : Nat) : (1000 : Int32) + Int32.ofNat i = Int32.ofNat (1000 + i) := zn_add 1000 i
theorem zkb1000 (i : Nat) : Int32.ofNat i + 1000 = Int32.ofNat (i + 1000) := zn_add i 1000
theorem zks1000 {i : Nat} (h : 1000 ≤ i) : Int32.ofNat i - 1000 = Int32.ofNat (i - 1000) := zn_sub h
theorem zkt1000 {i : Nat} (h : i ≤ 1000) : (1000 : Int32) - Int32.ofNat i = Int32.ofNat (1000 - i) := zn_sub h
theorem zkm1000 (i : Nat) : (1000 : Int32) * Int32.ofNat i = Int32.ofNat (1000 * i) := zn_mul 1000 i
theorem zkl1000 {i : Nat} (h : i < 2 ^ 31) : Int32.ofNat i < 1000 ↔ i < 1000 := zn_lt h (by decide)
theorem zkn1000 {i : Nat} (h : i < 2 ^ 31) : Int32.ofNat i ≤ 1000 ↔ i ≤ 1000 := zn_le h (by decide)
theorem zkg1000 {i : Nat} (h : i < 2 ^ 31) : 1000 < Int32.ofNat i ↔ 1000 < i := zn_lt (by decide) h
theorem zkh1000 {i : Nat} (h : i < 2 ^ 31) : 1000 ≤ Int32.ofNat i ↔ 1000 ≤ i := zn_le (by decide) h
theorem zke1000 {i : Nat} (h : i < 2 ^ 31) : Int32.ofNat i = 1000 ↔ i = 1000 := zn_eq h (by decide)
theorem zkf1000 {i : Nat} (h : i < 2 ^ 31) : (1000 : Int32) = Int32.ofNat i ↔ 1000 = i := zn_eq (by decide) h
theorem zkd1000 {i : Nat} (h : i < 2 ^ 31) : Int32.ofNat i / 1000 = Int32.ofNat (i / 1000) := zn_div h (by decide) (by decide)
theorem zka1024 (i : Nat) : (1024 : Int32) + Int32.ofNat i = Int32.ofNat (1024 + i) := zn_add 1024 i
theorem zkb1024 (i : Nat) : Int32.ofNat i + 1024 = Int32.ofNat (i + 1024) := zn_add i 1024
theorem zks1024 {i : Nat} (h : 1024 ≤ i) : Int32.ofNat i - 1024 = Int32.ofNat (i - 1024) := zn_sub h
theorem zkt1024 {i : Nat} (h : i ≤ 1024) : (1024 : Int32) - Int32.ofNat i = Int32.ofNat (1024 - i) := zn_sub h
theorem zkm1024 (i : Nat) : (1024 : Int32) * Int32.ofNat i = Int32.ofNat (1024 * i) := zn_mul 1024 i
theorem zkl1024 {i : Nat} (h : i < 2 ^ 31) : Int32.ofNat i < 1024 ↔ i < 1024 := zn_lt h (by decide)
theorem zkn1024 {i : Nat} (h : i < 2 ^ 31) : Int32.ofNat i ≤ 1024 ↔ i ≤ 1024 := zn_le h (by decide)
theorem zkg1024 {i : Nat} (h : i < 2 ^ 31) : 1024 < Int32.ofNat i ↔ 1024 < i := zn_lt (by decide) h
theorem zkh1024 {i : Nat} (h : i < 2 ^ 31) : 1024 ≤ Int32.ofNat i ↔ 1024 ≤ i := zn_le (by decide) h
theorem zke1024 {i : Nat} (h : i < 2 ^ 31) : Int32.ofNat i = 1024 ↔ i = 1024 := zn_eq h (by decide)
theorem zkf1024 {i : Nat} (h : i < 2 ^ 31) : (1024 : Int32) = Int32.ofNat i ↔ 1024 = i := zn_eq (by decide) h
theorem zkd1024 {i : Nat} (h : i < 2 ^ 31) : Int32.ofNat i / 1024 = Int32.ofNat (i / 1024) := zn_div h (by decide) (by decide)
theorem zka1220 (i : Nat) : (1220 : Int32) + Int32.ofNat i = Int32.ofNat (1220 + i) := zn_add 1220 i
theorem zkb1220 (i : Nat) : Int32.ofNat i + 1220 = Int32.ofNat (i + 1220) := zn_add i 1220
theorem zks1220 {i : Nat} (h : 1220 ≤ i) : Int32.ofNat i - 1220 = Int32.ofNat (i - 1220) := zn_sub h
theorem zkt1220 {i : Nat} (h : i ≤ 1220) : (1220 : Int32) - Int32.ofNat i = Int32.ofNat (1220 - i) := zn_sub h
theorem zkm1220 (i : Nat) : (1220 : Int32) * Int32.ofNat i = Int32.ofNat (1220 * i) := zn_mul 1220 i
theorem zkl1220 {i : Nat} (h : i < 2 ^ 31) : Int32.ofNat i < 1220 ↔ i < 1220 := zn_lt h (by decide)
theorem zkn1220 {i : Nat} (h : i < 2 ^ 31) : Int32.ofNat i ≤ 1220 ↔ i ≤ 1220 := zn_le h (by decide)
theorem zkg1220 {i : Nat} (h : i < 2 ^ 31) : 1220 < Int32.ofNat i ↔ 1220 < i := zn_lt (by decide) h
theorem zkh1220 {i : Nat} (h : i < 2 ^ 31) : 1220 ≤ Int32.ofNat i ↔ 1220 ≤ i := zn_le (by decide) h
theorem zke1220 {i : Nat} (h : i < 2 ^ 31) : Int32.ofNat i = 1220 ↔ i = 1220 := zn_eq h (by decide)
theorem zkf1220 {i : Nat} (h : i < 2 ^ 31) : (1220 : Int32) = Int32.ofNat i ↔ 1220 = i := zn_eq (by decide) h
theorem zkd1220 {i : Nat} (h : i < 2 ^ 31) : Int32.ofNat i / 1220 = Int32.ofNat (i / 1220) := zn_div h (by decide) (by decide)
theorem zka1260 (i : Nat) : (1260 : Int32) + Int32.ofNat i = Int32.ofNat (1260 + i) := zn_add 1260 i
theorem zkb1260 (i : Nat) : Int32.ofNat i + 1260 = Int32.ofNat (i + 1260) := zn_add i 1260
theorem zks1260 {i : Nat} (h : 1260 ≤ i) : Int32.ofNat i - 1260 = Int32.ofNat (i - 1260) := zn_sub h
theorem zkt1260 {i : Nat} (h : i ≤ 1260) : (1260 : Int32) - Int32.ofNat i = Int32.ofNat (1260 - i) := zn_sub h
theorem zkm1260 (i : Nat) : (1260 : Int32) * Int32.ofNat i = Int32.ofNat (1260 * i) := zn_mul 1260 i
theorem zkl1260 {i : Nat} (h : i < 2 ^ 31) : Int32.ofNat i < 1260 ↔ i < 1260 := zn_lt h (by decide)
theorem zkn1260 {i : Nat} (h : i < 2 ^ 31) : Int32.ofNat i ≤ 1260 ↔ i ≤ 1260 := zn_le h (by decide)
theorem zkg1260 {i : Nat} (h : i < 2 ^ 31) : 1260 < Int32.ofNat i ↔ 1260 < i := zn_lt (by decide) h
theorem zkh1260 {i : Nat} (h : i < 2 ^ 31) : 1260 ≤ Int32.ofNat i ↔ 1260 ≤ i := zn_le (by decide) h
theorem zke1260 {i : Nat} (h : i < 2 ^ 31) : Int32.ofNat i = 1260 ↔ i = 1260 := zn_eq h (by decide)
theorem zkf1260 {i : Nat} (h : i < 2 ^ 31) : (1260 : Int32) = Int32.ofNat i ↔ 1260 = i := zn_eq (by decide) h
theorem zkd1260 {i : Nat} (h : i < 2 ^ 31) : Int32.ofNat i / 1260 = Int32.ofNat (i / 1260) := zn_div h (by decide) (by decide)
theorem zka1300 (i : Nat) : (1300 : Int32) + Int32.ofNat i = Int32.ofNat (1300 + i) := zn_add 1300 i
theorem zkb1300 (i : Nat) : Int32.ofNat i + 1300 = Int32.ofNat (i + 1300) := zn_add i 1300
theorem zks1300 {i : Nat} (h : 1300 ≤ i) : Int32.ofNat i - 1300 = Int32.ofNat (i - 1300) := zn_sub h
theorem zkt1300 {i : Nat} (h : i ≤ 1300) : (1300 : Int32) - Int32.ofNat i = Int32.ofNat (1300 - i) := zn_sub h
theorem zkm1300 (i : Nat) : (1300 : Int32) * Int32.ofNat i = Int32.ofNat (1300 * i) := zn_mul 1300 i
theorem zkl1300 {i : Nat} (h : i < 2 ^ 31) : Int32.ofNat i < 1300 ↔ i < 1300 := zn_lt h (by decide)
theorem zkn1300 {i : Nat} (h : i < 2 ^ 31) : Int32.ofNat i ≤ 1300 ↔ i ≤ 1300 := zn_le h (by decide)
theorem zkg1300 {i : Nat} (h : i < 2 ^ 31) : 1300 < Int32.ofNat i ↔ 1300 < i := zn_lt (by decide) h
theorem zkh1300 {i : Nat} (h : i < 2 ^ 31) : 1300 ≤ Int32.ofNat i ↔ 1300 ≤ i := zn_le (by decide) h
theorem zke1300 {i : Nat} (h : i < 2 ^ 31) : Int32.ofNat i = 1300 ↔ i = 1300 := zn_eq h (by decide)
theorem zkf1300 {i : Nat} (h : i < 2 ^ 31) : (1300 : Int32) = Int32.ofNat i ↔ 1300 = i := zn_eq (by decide) h
theorem zkd1300 {i : Nat} (h : i < 2 ^ 31) : Int32.ofNat i / 1300 = Int32.ofNat (i / 1300) := zn_div h (by decide) (by decide)
theorem zka1500 (i : Nat) : (1500 : Int32) + Int32.ofNat i = Int32.ofNat (1500 + i) := zn_add 1500 i
theorem zkb1500 (i : Nat) : Int32.ofNat i + 1500 = Int32.ofNat (i + 1500) := zn_add i 1500
theorem zks1500 {i : Nat} (h : 1500 ≤ i) : Int32.ofNat i - 1500 = Int32.ofNat (i - 1500) := zn_sub h
theorem zkt1500 {i : Nat} (h : i ≤ 1500) : (1500 : Int32) - Int32.ofNat i = Int32.ofNat (1500 - i) := zn_sub h
theorem zkm1500 (i : Nat) : (1500 : Int32) * Int32.ofNat i = Int32.ofNat (1500 * i) := zn_mul 1500 i
theorem zkl1500 {i : Nat} (h : i < 2 ^ 31) : Int32.ofNat i < 1500 ↔ i < 1500 := zn_lt h (by decide)
theorem zkn1500 {i : Nat} (h : i < 2 ^ 31) : Int32.ofNat i ≤ 1500 ↔ i ≤ 1500 := zn_le h (by decide)
theorem zkg1500 {i : Nat} (h : i < 2 ^ 31) : 1500 < Int32.ofNat i ↔ 1500 < i := zn_lt (by decide) h
theorem zkh1500 {i : Nat} (h : i < 2 ^ 31) : 1500 ≤ Int32.ofNat i ↔ 1500 ≤ i := zn_le (by decide) h
theorem zke1500 {i : Nat} (h : i < 2 ^ 31) : Int32.ofNat i = 1500 ↔ i = 1500 := zn_eq h (by decide)
theorem zkf1500 {i : Nat} (h : i < 2 ^ 31) : (1500 : Int32) = Int32.ofNat i ↔ 1500 = i := zn_eq (by decide) h
theorem zkd1500 {i : Nat} (h : i < 2 ^ 31) : Int32.ofNat i / 1500 = Int32.ofNat (i / 1500) := zn_div h (by decide) (by decide)
theorem zka1540 (i : Nat) : (1540 : Int32) + Int32.ofNat i = Int32.ofNat (1540 + i) := zn_add 1540 i
theorem zkb1540 (i : Nat) : Int32.ofNat i + 1540 = Int32.ofNat (i + 1540) := zn_add i 1540
theorem zks1540 {i : Nat} (h : 1540 ≤ i) : Int32.ofNat i - 1540 = Int32.ofNat (i - 1540) := zn_sub h
theorem zkt1540 {i : Nat} (h : i ≤ 1540) : (1540 : Int32) - Int32.ofNat i = Int32.ofNat (1540 - i) := zn_sub h
theorem zkm1540 (i : Nat) : (1540 : Int32) * Int32.ofNat i = Int32.ofNat (1540 * i) := zn_mul 1540 i
theorem zkl1540 {i : Nat} (h : i < 2 ^ 31) : Int32.ofNat i < 1540 ↔ i < 1540 := zn_lt h (by decide)
theorem zkn1540 {i : Nat} (h : i < 2 ^ 31) : Int32.ofNat i ≤ 1540 ↔ i ≤ 1540 := zn_le h (by decide)
theorem zkg1540 {i : Nat} (h : i < 2 ^ 31) : 1540 < Int32.ofNat i ↔ 1540 < i := zn_lt (by decide) h
theorem zkh1540 {i : Nat} (h : i < 2 ^ 31) : 1540 ≤ Int32.ofNat i ↔ 1540 ≤ i := zn_le (by decide) h
theorem zke1540 {i : Nat} (h : i < 2 ^ 31) : Int32.ofNat i = 1540 ↔ i = 1540 := zn_eq h (by decide)
theorem zkf1540 {i : Nat} (h : i < 2 ^ 31) : (1540 : Int32) = Int32.ofNat i ↔ 1540 = i := zn_eq (by decide) h
theorem zkd1540 {i : Nat} (h : i < 2 ^ 31) : Int32.ofNat i / 1540 = Int32.ofNat (i / 1540) := zn_div h (by decide) (by decide)
theorem zka1604 (i : Nat) : (1604 : Int32) + Int32.ofNat i = Int32.ofNat (1604 + i) := zn_add 1604 i
theorem zkb1604 (i : Nat) : Int32.ofNat i + 1604 = Int32.ofNat (i + 1604) := zn_add i 1604
theorem zks1604 {i : Nat} (h : 1604 ≤ i) : Int32.ofNat i - 1604 = Int32.ofNat (i - 1604) := zn_sub h
theorem zkt1604 {i : Nat} (h : i ≤ 1604) : (1604 : Int32) - Int32.ofNat i = Int32.ofNat (1604 - i) := zn_sub h
theorem zkm1604 (i : Nat) : (1604 : Int32) * Int32.ofNat i = Int32.ofNat (1604 * i) := zn_mul 1604 i
theorem zkl1604 {i : Nat} (h : i < 2 ^ 31) : Int32.ofNat i < 1604 ↔ i < 1604 := zn_lt h (by decide)
theorem zkn1604 {i : Nat} (h : i < 2 ^ 31) : Int32.ofNat i ≤ 1604 ↔ i ≤ 1604 := zn_le h (by decide)
theorem zkg1604 {i : Nat} (h : i < 2 ^ 31) : 1604 < Int32.ofNat i ↔ 1604 < i := zn_lt (by decide) h
theorem zkh1604 {i : Nat} (h : i < 2 ^ 31) : 1604 ≤ Int32.ofNat i ↔ 1604 ≤ i := zn_le (by decide) h
theorem zke1604 {i : Nat} (h : i < 2 ^ 31) : Int32.ofNat i = 1604 ↔ i = 1604 := zn_eq h (by decide)
theorem zkf1604 {i : Nat} (h : i < 2 ^ 31) : (1604 : Int32) = Int32.ofNat i ↔ 1604 = i := zn_eq (by decide) h
theorem zkd1604 {i : Nat} (h : i < 2 ^ 31) : Int32.ofNat i / 1604 = Int32.ofNat (i / 1604) := zn_div h (by decide) (by decide)
theorem zka1668 (i : Nat) : (1668 : Int32) + Int32.ofNat i = Int32.ofNat (1668 + i) := zn_add 1668 i
theorem zkb1668 (i : Nat) : Int32.ofNat i + 1668 = Int32.ofNat (i + 1668) := zn_add i 1668
theorem zks1668 {i : Nat} (h : 1668 ≤ i) : Int32.ofNat i - 1668 = Int32.ofNat (i - 1668) := zn_sub h
theorem zkt1668 {i : Nat} (h : i ≤ 1668) : (1668 : Int32) - Int32.ofNat i = Int32.ofNat (1668 - i) := zn_sub h
theorem zkm1668 (i : Nat) : (1668 : Int32) * Int32.ofNat i = Int32.ofNat (1668 * i) := zn_mul 1668 i
theorem zkl1668 {i : Nat} (h : i < 2 ^ 31) : Int32.ofNat i < 1668 ↔ i < 1668 := zn_lt h (by decide)
theorem zkn1668 {i : Nat} (h : i < 2 ^ 31) : Int32.ofNat i ≤ 1668 ↔ i ≤ 1668 := zn_le h (by decide)
theorem zkg1668 {i : Nat} (h : i < 2 ^ 31) : 1668 < Int32.ofNat i ↔ 1668 < i := zn_lt (by decide) h
theorem zkh1668 {i : Nat} (h : i < 2 ^ 31) : 1668 ≤ Int32.ofNat i ↔ 1668 ≤ i := zn_le (by decide) h
theorem zke1668 {i : Nat} (h : i < 2 ^ 31) : Int32.ofNat i = 1668 ↔ i = 1668 := zn_eq h (by decide)
theorem zkf1668 {i : Nat} (h : i < 2 ^ 31) : (1668 : Int32) = Int32.ofNat i ↔ 1668 = i := zn_eq (by decide) h
theorem zkd1668 {i : Nat} (h : i < 2 ^ 31) : Int32.ofNat i / 1668 = Int32.ofNat (i / 1668) := zn_div h (by decide) (by decide)
theorem zka2000 (i : Nat) : (2000 : Int32) + Int32.ofNat i = Int32.ofNat (2000 + i) := zn_add 2000 i
theorem zkb2000 (i : Nat) : Int32.ofNat i + 2000 = Int32.ofNat (i + 2000) := zn_add i 2000
theorem zks2000 {i : Nat} (h : 2000 ≤ i) : Int32.ofNat i - 2000 = Int32.ofNat (i - 2000) := zn_sub h
theorem zkt2000 {i : Nat} (h : i ≤ 2000) : (2000 : Int32) - Int32.ofNat i = Int32.ofNat (2000 - i) := zn_sub h
theorem zkm2000 (i : Nat) : (2000 : Int32) * Int32.ofNat i = Int32.ofNat (2000 * i) := zn_mul 2000 i
theorem zkl2000 {i : Nat} (h : i < 2 ^ 31) : Int32.ofNat i < 2000 ↔ i < 2000 := zn_lt h (by decide)
theorem zkn2000 {i : Nat} (h : i < 2 ^ 31) : Int32.ofNat i ≤ 2000 ↔ i ≤ 2000 := zn_le h (by decide)
theorem zkg2000 {i : Nat} (h : i < 2 ^ 31) : 2000 < Int32.ofNat i ↔ 2000 < i := zn_lt (by decide) h
theorem zkh2000 {i : Nat} (h : i < 2 ^ 31) : 2000 ≤ Int32.ofNat i ↔ 2000 ≤ i := zn_le (by decide) h
theorem zke2000 {i : Nat} (h : i < 2 ^ 31) : Int32.ofNat i = 2000 ↔ i = 2000 := zn_eq h (by decide)
theorem zkf2000 {i : Nat} (h : i < 2 ^ 31) : (2000 : Int32) = Int32.ofNat i ↔ 2000 = i := zn_eq (by decide) h
theorem zkd2000 {i : Nat} (h : i < 2 ^ 31) : Int32.ofNat i / 2000 = Int32.ofNat (i / 2000) := zn_div h (by decide) (by decide)
theorem zka4999 (i : Nat) : (4999 : Int32) + Int32.ofNat i = Int32.ofNat (4999 + i) := zn_add 4999 i
theorem zkb4999 (i : Nat) : Int32.ofNat i + 4999 = Int32.ofNat (i + 4999) := zn_add i 4999
theorem zks4999 {i : Nat} (h : 4999 ≤ i) : Int32.ofNat i - 4999 = Int32.ofNat (i - 4999) := zn_sub h
theorem zkt4999 {i : Nat} (h : i ≤ 4999) : (4999 : Int32) - Int32.ofNat i = Int32.ofNat (4999 - i) := zn_sub h
theorem zkm4999 (i : Nat) : (4999 : Int32) * Int32.ofNat i = Int32.ofNat (4999 * i) := zn_mul 4999 i
theorem zkl4999 {i : Nat} (h : i < 2 ^ 31) : Int32.ofNat i < 4999 ↔ i < 4999 := zn_lt h (by decide)
theorem zkn4999 {i : Nat} (h : i < 2 ^ 31) : Int32.ofNat i ≤ 4999 ↔ i ≤ 4999 := zn_le h (by decide)
theorem zkg4999 {i : Nat} (h : i < 2 ^ 31) : 4999 < Int32.ofNat i ↔ 4999 < i := zn_lt (by decide) h
theorem zkh4999 {i : Nat} (h : i < 2 ^ 31) : 4999 ≤ Int32.ofNat i ↔ 4999 ≤ i := zn_le (by decide) h
theorem zke4999 {i : Nat} (h : i < 2 ^ 31) : Int32.ofNat i = 4999 ↔ i = 4999 := zn_eq h (by decide)
theorem zkf4999 {i : Nat} (h : i < 2 ^ 31) : (4999 : Int32) = Int32.ofNat i ↔ 4999 = i := zn_eq (by decide) h
theorem zkd4999 {i : Nat} (h : i < 2 ^ 31) : Int32.ofNat i / 4999 = Int32.ofNat (i / 4999) := zn_div h (by decide) (by decide)
theorem zka5000 (i : Nat) : (5000 : Int32) + Int32.ofNat i = Int32.ofNat (5000 + i) := zn_add 5000 i
theorem zkb5000 (i : Nat) : Int32.ofNat i + 5000 = Int32.ofNat (i + 5000) := zn_add i 5000
theorem zks5000 {i : Nat} (h : 5000 ≤ i) : Int32.ofNat i - 5000 = Int32.ofNat (i - 5000) := zn_sub h
theorem zkt5000 {i : Nat} (h : i ≤ 5000) : (5000 : Int32) - Int32.ofNat i = Int32.ofNat (5000 - i) := zn_sub h
theorem zkm5000 (i : Nat) : (5000 : Int32) * Int32.ofNat i = Int32.ofNat (5000 * i) := zn_mul 5000 i
theorem zkl5000 {i : Nat} (h : i < 2 ^ 31) : Int32.ofNat i < 5000 ↔ i < 5000 := zn_lt h (by decide)
theorem zkn5000 {i : Nat} (h : i < 2 ^ 31) : Int32.ofNat i ≤ 5000 ↔ i ≤ 5000 := zn_le h (by decide)
theorem zkg5000 {i : Nat} (h : i < 2 ^ 31) : 5000 < Int32.ofNat i ↔ 5000 < i := zn_lt (by decide) h
theorem zkh5000 {i : Nat} (h : i < 2 ^ 31) : 5000 ≤ Int32.ofNat i ↔ 5000 ≤ i := zn_le (by decide) h
theorem zke5000 {i : Nat} (h : i < 2 ^ 31) : Int32.ofNat i = 5000 ↔ i = 5000 := zn_eq h (by decide)
theorem zkf5000 {i : Nat} (h : i < 2 ^ 31) : (5000 : Int32) = Int32.ofNat i ↔ 5000 = i := zn_eq (by decide) h
theorem zkd5000 {i : Nat} (h : i < 2 ^ 31) : Int32.ofNat i / 5000 = Int32.ofNat (i / 5000) := zn_div h (by decide) (by decide)
theorem zkm1 {i : Nat} (h : 1 ≤ i) : Int32.ofNat i + (-1) = Int32.ofNat (i - 1) := by
  rw [← zn_sub1 h, Int32.sub_eq_add_neg]
