/-! methods as data; a word of the tables by its place; the checks -/
def lwG : List Cond := lw_tbl.filter goodWord
theorem lwG_of {w : Cond} {i : Nat} (h : lw_tbl[i]? = some w) (g : goodWord w = true) : w ∈ lwG := List.mem_filter.mpr ⟨List.mem_of_getElem? h, g⟩
theorem lwG_good : ∀ w ∈ lwG, goodWord w = true := fun _ h => (List.mem_filter.mp h).2
theorem lwG_in : ∀ w ∈ lwG, w ∈ lw_tbl := fun _ h => (List.mem_filter.mp h).1
/-- words that a call takes, its class, its locals -/
def xnar (f : Nat) : Nat := bif Nat.blt f 90 then (bif Nat.blt f 45 then (bif Nat.blt f 22 then (bif Nat.blt f 11 then (bif Nat.blt f 5 then (bif Nat.blt f 2 then (bif Nat.blt f 1 then (1) else (2)) else (bif Nat.blt f 3 then (2) else (bif Nat.blt f 4 then (2) else (2)))) else (bif Nat.blt f 8 then (bif Nat.blt f 6 then (2) else (bif Nat.blt f 7 then (1) else (1))) else (bif Nat.blt f 9 then (4) else (bif Nat.blt f 10 then (4) else (2))))) else (bif Nat.blt f 16 then (bif Nat.blt f 13 then (bif Nat.blt f 12 then (3) else (2)) else (bif Nat.blt f 14 then (2) else (bif Nat.blt f 15 then (2) else (3)))) else (bif Nat.blt f 19 then (bif Nat.blt f 17 then (3) else (bif Nat.blt f 18 then (3) else (2))) else (bif Nat.blt f 20 then (4) else (bif Nat.blt f 21 then (4) else (4)))))) else (bif Nat.blt f 33 then (bif Nat.blt f 27 then (bif Nat.blt f 24 then (bif Nat.blt f 23 then (3) else (2)) else (bif Nat.blt f 25 then (2) else (bif Nat.blt f 26 then (3) else (3)))) else (bif Nat.blt f 30 then (bif Nat.blt f 28 then (1) else (bif Nat.blt f 29 then (3) else (3))) else (bif Nat.blt f 31 then (1) else (bif Nat.blt f 32 then (2) else (4))))) else (bif Nat.blt f 39 then (bif Nat.blt f 36 then (bif Nat.blt f 34 then (4) else (bif Nat.blt f 35 then (2) else (3))) else (bif Nat.blt f 37 then (2) else (bif Nat.blt f 38 then (3) else (4)))) else (bif Nat.blt f 42 then (bif Nat.blt f 40 then (2) else (bif Nat.blt f 41 then (3) else (2))) else (bif Nat.blt f 43 then (1) else (bif Nat.blt f 44 then (1) else (2))))))) else (bif Nat.blt f 67 then (bif Nat.blt f 56 then (bif Nat.blt f 50 then (bif Nat.blt f 47 then (bif Nat.blt f 46 then (2) else (4)) else (bif Nat.blt f 48 then (5) else (bif Nat.blt f 49 then (3) else (3)))) else (bif Nat.blt f 53 then (bif Nat.blt f 51 then (4) else (bif Nat.blt f 52 then (3) else (2))) else (bif Nat.blt f 54 then (2) else (bif Nat.blt f 55 then (2) else (2))))) else (bif Nat.blt f 61 then (bif Nat.blt f 58 then (bif Nat.blt f 57 then (3) else (2)) else (bif Nat.blt f 59 then (2) else (bif Nat.blt f 60 then (3) else (2)))) else (bif Nat.blt f 64 then (bif Nat.blt f 62 then (2) else (bif Nat.blt f 63 then (3) else (4))) else (bif Nat.blt f 65 then (4) else (bif Nat.blt f 66 then (4) else (3)))))) else (bif Nat.blt f 78 then (bif Nat.blt f 72 then (bif Nat.blt f 69 then (bif Nat.blt f 68 then (4) else (2)) else (bif Nat.blt f 70 then (3) else (bif Nat.blt f 71 then (4) else (3)))) else (bif Nat.blt f 75 then (bif Nat.blt f 73 then (3) else (bif Nat.blt f 74 then (4) else (2))) else (bif Nat.blt f 76 then (3) else (bif Nat.blt f 77 then (4) else (4))))) else (bif Nat.blt f 84 then (bif Nat.blt f 81 then (bif Nat.blt f 79 then (1) else (bif Nat.blt f 80 then (4) else (2))) else (bif Nat.blt f 82 then (4) else (bif Nat.blt f 83 then (6) else (3)))) else (bif Nat.blt f 87 then (bif Nat.blt f 85 then (3) else (bif Nat.blt f 86 then (2) else (2))) else (bif Nat.blt f 88 then (3) else (bif Nat.blt f 89 then (3) else (3)))))))) else (bif Nat.blt f 135 then (bif Nat.blt f 112 then (bif Nat.blt f 101 then (bif Nat.blt f 95 then (bif Nat.blt f 92 then (bif Nat.blt f 91 then (2) else (2)) else (bif Nat.blt f 93 then (2) else (bif Nat.blt f 94 then (2) else (1)))) else (bif Nat.blt f 98 then (bif Nat.blt f 96 then (1) else (bif Nat.blt f 97 then (1) else (1))) else (bif Nat.blt f 99 then (3) else (bif Nat.blt f 100 then (2) else (2))))) else (bif Nat.blt f 106 then (bif Nat.blt f 103 then (bif Nat.blt f 102 then (1) else (1)) else (bif Nat.blt f 104 then (6) else (bif Nat.blt f 105 then (3) else (2)))) else (bif Nat.blt f 109 then (bif Nat.blt f 107 then (2) else (bif Nat.blt f 108 then (2) else (2))) else (bif Nat.blt f 110 then (2) else (bif Nat.blt f 111 then (3) else (1)))))) else (bif Nat.blt f 123 then (bif Nat.blt f 117 then (bif Nat.blt f 114 then (bif Nat.blt f 113 then (1) else (2)) else (bif Nat.blt f 115 then (2) else (bif Nat.blt f 116 then (2) else (1)))) else (bif Nat.blt f 120 then (bif Nat.blt f 118 then (1) else (bif Nat.blt f 119 then (1) else (3))) else (bif Nat.blt f 121 then (4) else (bif Nat.blt f 122 then (3) else (3))))) else (bif Nat.blt f 129 then (bif Nat.blt f 126 then (bif Nat.blt f 124 then (4) else (bif Nat.blt f 125 then (3) else (4))) else (bif Nat.blt f 127 then (4) else (bif Nat.blt f 128 then (4) else (4)))) else (bif Nat.blt f 132 then (bif Nat.blt f 130 then (6) else (bif Nat.blt f 131 then (3) else (3))) else (bif Nat.blt f 133 then (2) else (bif Nat.blt f 134 then (2) else (3))))))) else (bif Nat.blt f 157 then (bif Nat.blt f 146 then (bif Nat.blt f 140 then (bif Nat.blt f 137 then (bif Nat.blt f 136 then (3) else (3)) else (bif Nat.blt f 138 then (2) else (bif Nat.blt f 139 then (4) else (3)))) else (bif Nat.blt f 143 then (bif Nat.blt f 141 then (2) else (bif Nat.blt f 142 then (2) else (2))) else (bif Nat.blt f 144 then (1) else (bif Nat.blt f 145 then (1) else (3))))) else (bif Nat.blt f 151 then (bif Nat.blt f 148 then (bif Nat.blt f 147 then (1) else (3)) else (bif Nat.blt f 149 then (3) else (bif Nat.blt f 150 then (5) else (2)))) else (bif Nat.blt f 154 then (bif Nat.blt f 152 then (1) else (bif Nat.blt f 153 then (2) else (2))) else (bif Nat.blt f 155 then (2) else (bif Nat.blt f 156 then (1) else (1)))))) else (bif Nat.blt f 168 then (bif Nat.blt f 162 then (bif Nat.blt f 159 then (bif Nat.blt f 158 then (1) else (3)) else (bif Nat.blt f 160 then (3) else (bif Nat.blt f 161 then (3) else (1)))) else (bif Nat.blt f 165 then (bif Nat.blt f 163 then (3) else (bif Nat.blt f 164 then (2) else (2))) else (bif Nat.blt f 166 then (2) else (bif Nat.blt f 167 then (3) else (3))))) else (bif Nat.blt f 174 then (bif Nat.blt f 171 then (bif Nat.blt f 169 then (2) else (bif Nat.blt f 170 then (1) else (6))) else (bif Nat.blt f 172 then (3) else (bif Nat.blt f 173 then (2) else (2)))) else (bif Nat.blt f 177 then (bif Nat.blt f 175 then (1) else (bif Nat.blt f 176 then (2) else (2))) else (bif Nat.blt f 178 then (2) else (bif Nat.blt f 179 then (3) else (2))))))))
def xmo (f : Nat) : Nat := bif Nat.blt f 90 then (bif Nat.blt f 45 then (bif Nat.blt f 22 then (bif Nat.blt f 11 then (bif Nat.blt f 5 then (bif Nat.blt f 2 then (bif Nat.blt f 1 then (11) else (0)) else (bif Nat.blt f 3 then (0) else (bif Nat.blt f 4 then (0) else (0)))) else (bif Nat.blt f 8 then (bif Nat.blt f 6 then (1) else (bif Nat.blt f 7 then (1) else (1))) else (bif Nat.blt f 9 then (2) else (bif Nat.blt f 10 then (2) else (2))))) else (bif Nat.blt f 16 then (bif Nat.blt f 13 then (bif Nat.blt f 12 then (2) else (2)) else (bif Nat.blt f 14 then (2) else (bif Nat.blt f 15 then (2) else (8)))) else (bif Nat.blt f 19 then (bif Nat.blt f 17 then (2) else (bif Nat.blt f 18 then (3) else (2))) else (bif Nat.blt f 20 then (2) else (bif Nat.blt f 21 then (2) else (2)))))) else (bif Nat.blt f 33 then (bif Nat.blt f 27 then (bif Nat.blt f 24 then (bif Nat.blt f 23 then (2) else (2)) else (bif Nat.blt f 25 then (7) else (bif Nat.blt f 26 then (9) else (7)))) else (bif Nat.blt f 30 then (bif Nat.blt f 28 then (9) else (bif Nat.blt f 29 then (3) else (3))) else (bif Nat.blt f 31 then (3) else (bif Nat.blt f 32 then (8) else (4))))) else (bif Nat.blt f 39 then (bif Nat.blt f 36 then (bif Nat.blt f 34 then (4) else (bif Nat.blt f 35 then (4) else (4))) else (bif Nat.blt f 37 then (5) else (bif Nat.blt f 38 then (5) else (5)))) else (bif Nat.blt f 42 then (bif Nat.blt f 40 then (5) else (bif Nat.blt f 41 then (5) else (5))) else (bif Nat.blt f 43 then (5) else (bif Nat.blt f 44 then (5) else (5))))))) else (bif Nat.blt f 67 then (bif Nat.blt f 56 then (bif Nat.blt f 50 then (bif Nat.blt f 47 then (bif Nat.blt f 46 then (5) else (6)) else (bif Nat.blt f 48 then (6) else (bif Nat.blt f 49 then (6) else (6)))) else (bif Nat.blt f 53 then (bif Nat.blt f 51 then (6) else (bif Nat.blt f 52 then (6) else (6))) else (bif Nat.blt f 54 then (6) else (bif Nat.blt f 55 then (6) else (6))))) else (bif Nat.blt f 61 then (bif Nat.blt f 58 then (bif Nat.blt f 57 then (6) else (6)) else (bif Nat.blt f 59 then (6) else (bif Nat.blt f 60 then (6) else (6)))) else (bif Nat.blt f 64 then (bif Nat.blt f 62 then (7) else (bif Nat.blt f 63 then (7) else (7))) else (bif Nat.blt f 65 then (7) else (bif Nat.blt f 66 then (7) else (8)))))) else (bif Nat.blt f 78 then (bif Nat.blt f 72 then (bif Nat.blt f 69 then (bif Nat.blt f 68 then (8) else (9)) else (bif Nat.blt f 70 then (9) else (bif Nat.blt f 71 then (9) else (9)))) else (bif Nat.blt f 75 then (bif Nat.blt f 73 then (9) else (bif Nat.blt f 74 then (9) else (9))) else (bif Nat.blt f 76 then (9) else (bif Nat.blt f 77 then (9) else (9))))) else (bif Nat.blt f 84 then (bif Nat.blt f 81 then (bif Nat.blt f 79 then (9) else (bif Nat.blt f 80 then (9) else (9))) else (bif Nat.blt f 82 then (9) else (bif Nat.blt f 83 then (9) else (9)))) else (bif Nat.blt f 87 then (bif Nat.blt f 85 then (9) else (bif Nat.blt f 86 then (9) else (9))) else (bif Nat.blt f 88 then (9) else (bif Nat.blt f 89 then (9) else (9)))))))) else (bif Nat.blt f 135 then (bif Nat.blt f 112 then (bif Nat.blt f 101 then (bif Nat.blt f 95 then (bif Nat.blt f 92 then (bif Nat.blt f 91 then (9) else (9)) else (bif Nat.blt f 93 then (9) else (bif Nat.blt f 94 then (9) else (9)))) else (bif Nat.blt f 98 then (bif Nat.blt f 96 then (9) else (bif Nat.blt f 97 then (9) else (9))) else (bif Nat.blt f 99 then (9) else (bif Nat.blt f 100 then (9) else (9))))) else (bif Nat.blt f 106 then (bif Nat.blt f 103 then (bif Nat.blt f 102 then (9) else (9)) else (bif Nat.blt f 104 then (9) else (bif Nat.blt f 105 then (9) else (9)))) else (bif Nat.blt f 109 then (bif Nat.blt f 107 then (9) else (bif Nat.blt f 108 then (9) else (9))) else (bif Nat.blt f 110 then (9) else (bif Nat.blt f 111 then (9) else (9)))))) else (bif Nat.blt f 123 then (bif Nat.blt f 117 then (bif Nat.blt f 114 then (bif Nat.blt f 113 then (9) else (9)) else (bif Nat.blt f 115 then (10) else (bif Nat.blt f 116 then (10) else (10)))) else (bif Nat.blt f 120 then (bif Nat.blt f 118 then (10) else (bif Nat.blt f 119 then (10) else (10))) else (bif Nat.blt f 121 then (10) else (bif Nat.blt f 122 then (10) else (10))))) else (bif Nat.blt f 129 then (bif Nat.blt f 126 then (bif Nat.blt f 124 then (10) else (bif Nat.blt f 125 then (10) else (10))) else (bif Nat.blt f 127 then (10) else (bif Nat.blt f 128 then (10) else (10)))) else (bif Nat.blt f 132 then (bif Nat.blt f 130 then (10) else (bif Nat.blt f 131 then (10) else (10))) else (bif Nat.blt f 133 then (10) else (bif Nat.blt f 134 then (10) else (10))))))) else (bif Nat.blt f 157 then (bif Nat.blt f 146 then (bif Nat.blt f 140 then (bif Nat.blt f 137 then (bif Nat.blt f 136 then (10) else (10)) else (bif Nat.blt f 138 then (10) else (bif Nat.blt f 139 then (10) else (10)))) else (bif Nat.blt f 143 then (bif Nat.blt f 141 then (10) else (bif Nat.blt f 142 then (10) else (10))) else (bif Nat.blt f 144 then (10) else (bif Nat.blt f 145 then (10) else (10))))) else (bif Nat.blt f 151 then (bif Nat.blt f 148 then (bif Nat.blt f 147 then (10) else (10)) else (bif Nat.blt f 149 then (10) else (bif Nat.blt f 150 then (10) else (10)))) else (bif Nat.blt f 154 then (bif Nat.blt f 152 then (10) else (bif Nat.blt f 153 then (10) else (10))) else (bif Nat.blt f 155 then (10) else (bif Nat.blt f 156 then (10) else (10)))))) else (bif Nat.blt f 168 then (bif Nat.blt f 162 then (bif Nat.blt f 159 then (bif Nat.blt f 158 then (10) else (10)) else (bif Nat.blt f 160 then (10) else (bif Nat.blt f 161 then (10) else (10)))) else (bif Nat.blt f 165 then (bif Nat.blt f 163 then (10) else (bif Nat.blt f 164 then (10) else (10))) else (bif Nat.blt f 166 then (10) else (bif Nat.blt f 167 then (10) else (10))))) else (bif Nat.blt f 174 then (bif Nat.blt f 171 then (bif Nat.blt f 169 then (10) else (bif Nat.blt f 170 then (10) else (10))) else (bif Nat.blt f 172 then (10) else (bif Nat.blt f 173 then (10) else (10)))) else (bif Nat.blt f 177 then (bif Nat.blt f 175 then (10) else (bif Nat.blt f 176 then (10) else (10))) else (bif Nat.blt f 178 then (10) else (bif Nat.blt f 179 then (10) else (10))))))))
def xml (f : Nat) : Nat := bif Nat.blt f 90 then (bif Nat.blt f 45 then (bif Nat.blt f 22 then (bif Nat.blt f 11 then (bif Nat.blt f 5 then (bif Nat.blt f 2 then (bif Nat.blt f 1 then (4) else (2)) else (bif Nat.blt f 3 then (4) else (bif Nat.blt f 4 then (2) else (5)))) else (bif Nat.blt f 8 then (bif Nat.blt f 6 then (2) else (bif Nat.blt f 7 then (2) else (3))) else (bif Nat.blt f 9 then (5) else (bif Nat.blt f 10 then (5) else (4))))) else (bif Nat.blt f 16 then (bif Nat.blt f 13 then (bif Nat.blt f 12 then (3) else (2)) else (bif Nat.blt f 14 then (4) else (bif Nat.blt f 15 then (4) else (3)))) else (bif Nat.blt f 19 then (bif Nat.blt f 17 then (3) else (bif Nat.blt f 18 then (6) else (2))) else (bif Nat.blt f 20 then (4) else (bif Nat.blt f 21 then (8) else (10)))))) else (bif Nat.blt f 33 then (bif Nat.blt f 27 then (bif Nat.blt f 24 then (bif Nat.blt f 23 then (7) else (3)) else (bif Nat.blt f 25 then (2) else (bif Nat.blt f 26 then (3) else (3)))) else (bif Nat.blt f 30 then (bif Nat.blt f 28 then (1) else (bif Nat.blt f 29 then (4) else (6))) else (bif Nat.blt f 31 then (1) else (bif Nat.blt f 32 then (4) else (7))))) else (bif Nat.blt f 39 then (bif Nat.blt f 36 then (bif Nat.blt f 34 then (5) else (bif Nat.blt f 35 then (2) else (4))) else (bif Nat.blt f 37 then (2) else (bif Nat.blt f 38 then (3) else (5)))) else (bif Nat.blt f 42 then (bif Nat.blt f 40 then (2) else (bif Nat.blt f 41 then (3) else (2))) else (bif Nat.blt f 43 then (3) else (bif Nat.blt f 44 then (3) else (5))))))) else (bif Nat.blt f 67 then (bif Nat.blt f 56 then (bif Nat.blt f 50 then (bif Nat.blt f 47 then (bif Nat.blt f 46 then (5) else (5)) else (bif Nat.blt f 48 then (6) else (bif Nat.blt f 49 then (3) else (6)))) else (bif Nat.blt f 53 then (bif Nat.blt f 51 then (5) else (bif Nat.blt f 52 then (3) else (3))) else (bif Nat.blt f 54 then (4) else (bif Nat.blt f 55 then (4) else (5))))) else (bif Nat.blt f 61 then (bif Nat.blt f 58 then (bif Nat.blt f 57 then (4) else (4)) else (bif Nat.blt f 59 then (3) else (bif Nat.blt f 60 then (3) else (3)))) else (bif Nat.blt f 64 then (bif Nat.blt f 62 then (2) else (bif Nat.blt f 63 then (4) else (4))) else (bif Nat.blt f 65 then (5) else (bif Nat.blt f 66 then (5) else (3)))))) else (bif Nat.blt f 78 then (bif Nat.blt f 72 then (bif Nat.blt f 69 then (bif Nat.blt f 68 then (5) else (2)) else (bif Nat.blt f 70 then (3) else (bif Nat.blt f 71 then (4) else (3)))) else (bif Nat.blt f 75 then (bif Nat.blt f 73 then (4) else (bif Nat.blt f 74 then (4) else (2))) else (bif Nat.blt f 76 then (4) else (bif Nat.blt f 77 then (4) else (4))))) else (bif Nat.blt f 84 then (bif Nat.blt f 81 then (bif Nat.blt f 79 then (1) else (bif Nat.blt f 80 then (4) else (2))) else (bif Nat.blt f 82 then (6) else (bif Nat.blt f 83 then (6) else (3)))) else (bif Nat.blt f 87 then (bif Nat.blt f 85 then (3) else (bif Nat.blt f 86 then (2) else (3))) else (bif Nat.blt f 88 then (3) else (bif Nat.blt f 89 then (3) else (4)))))))) else (bif Nat.blt f 135 then (bif Nat.blt f 112 then (bif Nat.blt f 101 then (bif Nat.blt f 95 then (bif Nat.blt f 92 then (bif Nat.blt f 91 then (6) else (2)) else (bif Nat.blt f 93 then (2) else (bif Nat.blt f 94 then (2) else (1)))) else (bif Nat.blt f 98 then (bif Nat.blt f 96 then (1) else (bif Nat.blt f 97 then (1) else (3))) else (bif Nat.blt f 99 then (3) else (bif Nat.blt f 100 then (2) else (3))))) else (bif Nat.blt f 106 then (bif Nat.blt f 103 then (bif Nat.blt f 102 then (1) else (1)) else (bif Nat.blt f 104 then (7) else (bif Nat.blt f 105 then (3) else (2)))) else (bif Nat.blt f 109 then (bif Nat.blt f 107 then (3) else (bif Nat.blt f 108 then (2) else (2))) else (bif Nat.blt f 110 then (2) else (bif Nat.blt f 111 then (4) else (3)))))) else (bif Nat.blt f 123 then (bif Nat.blt f 117 then (bif Nat.blt f 114 then (bif Nat.blt f 113 then (3) else (2)) else (bif Nat.blt f 115 then (2) else (bif Nat.blt f 116 then (2) else (1)))) else (bif Nat.blt f 120 then (bif Nat.blt f 118 then (1) else (bif Nat.blt f 119 then (1) else (3))) else (bif Nat.blt f 121 then (5) else (bif Nat.blt f 122 then (3) else (4))))) else (bif Nat.blt f 129 then (bif Nat.blt f 126 then (bif Nat.blt f 124 then (5) else (bif Nat.blt f 125 then (4) else (5))) else (bif Nat.blt f 127 then (5) else (bif Nat.blt f 128 then (5) else (5)))) else (bif Nat.blt f 132 then (bif Nat.blt f 130 then (7) else (bif Nat.blt f 131 then (3) else (3))) else (bif Nat.blt f 133 then (2) else (bif Nat.blt f 134 then (2) else (3))))))) else (bif Nat.blt f 157 then (bif Nat.blt f 146 then (bif Nat.blt f 140 then (bif Nat.blt f 137 then (bif Nat.blt f 136 then (3) else (4)) else (bif Nat.blt f 138 then (5) else (bif Nat.blt f 139 then (4) else (9)))) else (bif Nat.blt f 143 then (bif Nat.blt f 141 then (3) else (bif Nat.blt f 142 then (7) else (2))) else (bif Nat.blt f 144 then (2) else (bif Nat.blt f 145 then (5) else (4))))) else (bif Nat.blt f 151 then (bif Nat.blt f 148 then (bif Nat.blt f 147 then (10) else (5)) else (bif Nat.blt f 149 then (3) else (bif Nat.blt f 150 then (11) else (10)))) else (bif Nat.blt f 154 then (bif Nat.blt f 152 then (3) else (bif Nat.blt f 153 then (4) else (2))) else (bif Nat.blt f 155 then (5) else (bif Nat.blt f 156 then (1) else (1)))))) else (bif Nat.blt f 168 then (bif Nat.blt f 162 then (bif Nat.blt f 159 then (bif Nat.blt f 158 then (3) else (5)) else (bif Nat.blt f 160 then (5) else (bif Nat.blt f 161 then (10) else (5)))) else (bif Nat.blt f 165 then (bif Nat.blt f 163 then (6) else (bif Nat.blt f 164 then (2) else (2))) else (bif Nat.blt f 166 then (2) else (bif Nat.blt f 167 then (3) else (6))))) else (bif Nat.blt f 174 then (bif Nat.blt f 171 then (bif Nat.blt f 169 then (7) else (bif Nat.blt f 170 then (1) else (6))) else (bif Nat.blt f 172 then (3) else (bif Nat.blt f 173 then (2) else (3)))) else (bif Nat.blt f 177 then (bif Nat.blt f 175 then (1) else (bif Nat.blt f 176 then (8) else (2))) else (bif Nat.blt f 178 then (2) else (bif Nat.blt f 179 then (3) else (4))))))))
def xst (f : Nat) : Bool := bif Nat.blt f 90 then (bif Nat.blt f 45 then (bif Nat.blt f 22 then (bif Nat.blt f 11 then (bif Nat.blt f 5 then (bif Nat.blt f 2 then (bif Nat.blt f 1 then (true) else (false)) else (bif Nat.blt f 3 then (false) else (bif Nat.blt f 4 then (false) else (false)))) else (bif Nat.blt f 8 then (bif Nat.blt f 6 then (false) else (bif Nat.blt f 7 then (false) else (false))) else (bif Nat.blt f 9 then (false) else (bif Nat.blt f 10 then (false) else (false))))) else (bif Nat.blt f 16 then (bif Nat.blt f 13 then (bif Nat.blt f 12 then (false) else (false)) else (bif Nat.blt f 14 then (false) else (bif Nat.blt f 15 then (false) else (false)))) else (bif Nat.blt f 19 then (bif Nat.blt f 17 then (false) else (bif Nat.blt f 18 then (false) else (false))) else (bif Nat.blt f 20 then (false) else (bif Nat.blt f 21 then (false) else (false)))))) else (bif Nat.blt f 33 then (bif Nat.blt f 27 then (bif Nat.blt f 24 then (bif Nat.blt f 23 then (false) else (false)) else (bif Nat.blt f 25 then (false) else (bif Nat.blt f 26 then (true) else (false)))) else (bif Nat.blt f 30 then (bif Nat.blt f 28 then (true) else (bif Nat.blt f 29 then (false) else (false))) else (bif Nat.blt f 31 then (false) else (bif Nat.blt f 32 then (false) else (false))))) else (bif Nat.blt f 39 then (bif Nat.blt f 36 then (bif Nat.blt f 34 then (false) else (bif Nat.blt f 35 then (false) else (false))) else (bif Nat.blt f 37 then (false) else (bif Nat.blt f 38 then (false) else (false)))) else (bif Nat.blt f 42 then (bif Nat.blt f 40 then (false) else (bif Nat.blt f 41 then (false) else (false))) else (bif Nat.blt f 43 then (false) else (bif Nat.blt f 44 then (false) else (false))))))) else (bif Nat.blt f 67 then (bif Nat.blt f 56 then (bif Nat.blt f 50 then (bif Nat.blt f 47 then (bif Nat.blt f 46 then (false) else (false)) else (bif Nat.blt f 48 then (false) else (bif Nat.blt f 49 then (false) else (false)))) else (bif Nat.blt f 53 then (bif Nat.blt f 51 then (true) else (bif Nat.blt f 52 then (false) else (false))) else (bif Nat.blt f 54 then (false) else (bif Nat.blt f 55 then (false) else (false))))) else (bif Nat.blt f 61 then (bif Nat.blt f 58 then (bif Nat.blt f 57 then (false) else (false)) else (bif Nat.blt f 59 then (false) else (bif Nat.blt f 60 then (false) else (false)))) else (bif Nat.blt f 64 then (bif Nat.blt f 62 then (false) else (bif Nat.blt f 63 then (false) else (false))) else (bif Nat.blt f 65 then (false) else (bif Nat.blt f 66 then (false) else (false)))))) else (bif Nat.blt f 78 then (bif Nat.blt f 72 then (bif Nat.blt f 69 then (bif Nat.blt f 68 then (false) else (false)) else (bif Nat.blt f 70 then (false) else (bif Nat.blt f 71 then (false) else (false)))) else (bif Nat.blt f 75 then (bif Nat.blt f 73 then (false) else (bif Nat.blt f 74 then (false) else (true))) else (bif Nat.blt f 76 then (false) else (bif Nat.blt f 77 then (false) else (false))))) else (bif Nat.blt f 84 then (bif Nat.blt f 81 then (bif Nat.blt f 79 then (true) else (bif Nat.blt f 80 then (false) else (false))) else (bif Nat.blt f 82 then (false) else (bif Nat.blt f 83 then (false) else (false)))) else (bif Nat.blt f 87 then (bif Nat.blt f 85 then (false) else (bif Nat.blt f 86 then (false) else (false))) else (bif Nat.blt f 88 then (false) else (bif Nat.blt f 89 then (false) else (false)))))))) else (bif Nat.blt f 135 then (bif Nat.blt f 112 then (bif Nat.blt f 101 then (bif Nat.blt f 95 then (bif Nat.blt f 92 then (bif Nat.blt f 91 then (false) else (false)) else (bif Nat.blt f 93 then (false) else (bif Nat.blt f 94 then (false) else (false)))) else (bif Nat.blt f 98 then (bif Nat.blt f 96 then (false) else (bif Nat.blt f 97 then (false) else (false))) else (bif Nat.blt f 99 then (false) else (bif Nat.blt f 100 then (false) else (false))))) else (bif Nat.blt f 106 then (bif Nat.blt f 103 then (bif Nat.blt f 102 then (false) else (true)) else (bif Nat.blt f 104 then (false) else (bif Nat.blt f 105 then (false) else (false)))) else (bif Nat.blt f 109 then (bif Nat.blt f 107 then (false) else (bif Nat.blt f 108 then (false) else (false))) else (bif Nat.blt f 110 then (false) else (bif Nat.blt f 111 then (false) else (true)))))) else (bif Nat.blt f 123 then (bif Nat.blt f 117 then (bif Nat.blt f 114 then (bif Nat.blt f 113 then (true) else (false)) else (bif Nat.blt f 115 then (false) else (bif Nat.blt f 116 then (false) else (true)))) else (bif Nat.blt f 120 then (bif Nat.blt f 118 then (true) else (bif Nat.blt f 119 then (true) else (false))) else (bif Nat.blt f 121 then (false) else (bif Nat.blt f 122 then (false) else (false))))) else (bif Nat.blt f 129 then (bif Nat.blt f 126 then (bif Nat.blt f 124 then (false) else (bif Nat.blt f 125 then (false) else (false))) else (bif Nat.blt f 127 then (false) else (bif Nat.blt f 128 then (false) else (false)))) else (bif Nat.blt f 132 then (bif Nat.blt f 130 then (false) else (bif Nat.blt f 131 then (false) else (false))) else (bif Nat.blt f 133 then (false) else (bif Nat.blt f 134 then (false) else (false))))))) else (bif Nat.blt f 157 then (bif Nat.blt f 146 then (bif Nat.blt f 140 then (bif Nat.blt f 137 then (bif Nat.blt f 136 then (false) else (false)) else (bif Nat.blt f 138 then (false) else (bif Nat.blt f 139 then (false) else (false)))) else (bif Nat.blt f 143 then (bif Nat.blt f 141 then (false) else (bif Nat.blt f 142 then (false) else (false))) else (bif Nat.blt f 144 then (false) else (bif Nat.blt f 145 then (false) else (false))))) else (bif Nat.blt f 151 then (bif Nat.blt f 148 then (bif Nat.blt f 147 then (false) else (false)) else (bif Nat.blt f 149 then (false) else (bif Nat.blt f 150 then (false) else (false)))) else (bif Nat.blt f 154 then (bif Nat.blt f 152 then (false) else (bif Nat.blt f 153 then (false) else (false))) else (bif Nat.blt f 155 then (false) else (bif Nat.blt f 156 then (false) else (false)))))) else (bif Nat.blt f 168 then (bif Nat.blt f 162 then (bif Nat.blt f 159 then (bif Nat.blt f 158 then (false) else (false)) else (bif Nat.blt f 160 then (false) else (bif Nat.blt f 161 then (false) else (false)))) else (bif Nat.blt f 165 then (bif Nat.blt f 163 then (false) else (bif Nat.blt f 164 then (false) else (false))) else (bif Nat.blt f 166 then (false) else (bif Nat.blt f 167 then (false) else (false))))) else (bif Nat.blt f 174 then (bif Nat.blt f 171 then (bif Nat.blt f 169 then (false) else (bif Nat.blt f 170 then (false) else (false))) else (bif Nat.blt f 172 then (false) else (bif Nat.blt f 173 then (false) else (false)))) else (bif Nat.blt f 177 then (bif Nat.blt f 175 then (true) else (bif Nat.blt f 176 then (false) else (false))) else (bif Nat.blt f 178 then (false) else (bif Nat.blt f 179 then (false) else (false))))))))
abbrev xMd : Type := MethodName × ByteArray × Option FieldType × (Nat → Option xI)
def xmd0 : xMd := (x, code, (some .boolean), xt0)
def xmd1 : xMd := (yX0_add, cX0_add, (some .int), xt1)
def xmd2 : xMd := (yX0_countAhead, cX0_countAhead, (some .int), xt2)
def xmd3 : xMd := (yX0_distanceOf, cX0_distanceOf, (some .int), xt3)
def xmd4 : xMd := (yX0_plotOf, cX0_plotOf, (some .int), xt4)
def xmd5 : xMd := (yX1_add, cX1_add, (some .int), xt5)
def xmd6 : xMd := (yX1_arrive, cX1_arrive, none, xt6)
def xmd7 : xMd := (yX1_countOnRoad, cX1_countOnRoad, (some .int), xt7)
def xmd8 : xMd := (yX2_tellFolk, cX2_tellFolk, (some .int), xt8)
def xmd9 : xMd := (yX2_tellTrait, cX2_tellTrait, (some .int), xt9)
def xmd10 : xMd := (yX2_folkOf, cX2_folkOf, (some .int), xt10)
def xmd11 : xMd := (yX2_trait, cX2_trait, (some .int), xt11)
def xmd12 : xMd := (yX2_hasChildren, cX2_hasChildren, (some .boolean), xt12)
def xmd13 : xMd := (yX2_pupilsOf, cX2_pupilsOf, (some .int), xt13)
def xmd14 : xMd := (yX2_travellersOf, cX2_travellersOf, (some .int), xt14)
def xmd15 : xMd := (yX8_readyIn, cX8_readyIn, (some .int), xt15)
def xmd16 : xMd := (yX2_open, cX2_open, none, xt16)
def xmd17 : xMd := (yX3_payOf, cX3_payOf, (some .int), xt17)
def xmd18 : xMd := (yX2_mayMove, cX2_mayMove, (some .boolean), xt18)
def xmd19 : xMd := (yX2_settle, cX2_settle, none, xt19)
def xmd20 : xMd := (yX2_ask, cX2_ask, (some .int), xt20)
def xmd21 : xMd := (yX2_askTravellers, cX2_askTravellers, (some .int), xt21)
def xmd22 : xMd := (yX2_askOffice, cX2_askOffice, (some .int), xt22)
def xmd23 : xMd := (yX2_changeRent, cX2_changeRent, none, xt23)
def xmd24 : xMd := (yX7_isRow, cX7_isRow, (some .boolean), xt24)
def xmd25 : xMd := (yX9_isWithin, cX9_isWithin, (some .boolean), xt25)
def xmd26 : xMd := (yX7_valueAt, cX7_valueAt, (some .long), xt26)
def xmd27 : xMd := (yX9_isWave, cX9_isWave, (some .boolean), xt27)
def xmd28 : xMd := (yX3_step, cX3_step, (some .int), xt28)
def xmd29 : xMd := (yX3_read, cX3_read, none, xt29)
def xmd30 : xMd := (yX3_enact, cX3_enact, (some .int), xt30)
def xmd31 : xMd := (yX8_desksBy, cX8_desksBy, (some .int), xt31)
def xmd32 : xMd := (yX4_clear, cX4_clear, none, xt32)
def xmd33 : xMd := (yX4_change, cX4_change, none, xt33)
def xmd34 : xMd := (yX4_isLegal, cX4_isLegal, (some .boolean), xt34)
def xmd35 : xMd := (yX4_fits, cX4_fits, (some .boolean), xt35)
def xmd36 : xMd := (yX5_has, cX5_has, (some .boolean), xt36)
def xmd37 : xMd := (yX5_add, cX5_add, (some .int), xt37)
def xmd38 : xMd := (yX5_bind, cX5_bind, (some .int), xt38)
def xmd39 : xMd := (yX5_waveOf, cX5_waveOf, (some .int), xt39)
def xmd40 : xMd := (yX5_assign, cX5_assign, none, xt40)
def xmd41 : xMd := (yX5_isFree, cX5_isFree, (some .boolean), xt41)
def xmd42 : xMd := (yX5_countFree, cX5_countFree, (some .int), xt42)
def xmd43 : xMd := (yX5_countWithWave, cX5_countWithWave, (some .int), xt43)
def xmd44 : xMd := (yX5_cutOf, cX5_cutOf, (some .int), xt44)
def xmd45 : xMd := (yX5_costOf, cX5_costOf, (some .int), xt45)
def xmd46 : xMd := (yX6_firstBreach, cX6_firstBreach, (some .int), xt46)
def xmd47 : xMd := (yX6_start, cX6_start, none, xt47)
def xmd48 : xMd := (yX6_move, cX6_move, none, xt48)
def xmd49 : xMd := (yX6_priceOf, cX6_priceOf, (some .int), xt49)
def xmd50 : xMd := (yX6_search, cX6_search, none, xt50)
def xmd51 : xMd := (yX6_makeBest, cX6_makeBest, (some .boolean), xt51)
def xmd52 : xMd := (yX6_placeEarliest, cX6_placeEarliest, (some .boolean), xt52)
def xmd53 : xMd := (yX6_makeByRule, cX6_makeByRule, (some .boolean), xt53)
def xmd54 : xMd := (yX6_isBetter, cX6_isBetter, (some .boolean), xt54)
def xmd55 : xMd := (yX6_tryMoves, cX6_tryMoves, none, xt55)
def xmd56 : xMd := (yX6_exchange, cX6_exchange, none, xt56)
def xmd57 : xMd := (yX6_tryExchanges, cX6_tryExchanges, none, xt57)
def xmd58 : xMd := (yX6_improveBySwaps, cX6_improveBySwaps, none, xt58)
def xmd59 : xMd := (yX6_make, cX6_make, (some .boolean), xt59)
def xmd60 : xMd := (yX6_adopt, cX6_adopt, none, xt60)
def xmd61 : xMd := (yX7_isEmpty, cX7_isEmpty, (some .boolean), xt61)
def xmd62 : xMd := (yX7_clash, cX7_clash, (some .boolean), xt62)
def xmd63 : xMd := (yX7_reaches, cX7_reaches, (some .boolean), xt63)
def xmd64 : xMd := (yX7_putRow, cX7_putRow, none, xt64)
def xmd65 : xMd := (yX7_put, cX7_put, none, xt65)
def xmd66 : xMd := (yX8_add, cX8_add, (some .int), xt66)
def xmd67 : xMd := (yX8_makeReady, cX8_makeReady, (some .int), xt67)
def xmd68 : xMd := (yX9_refuse, cX9_refuse, (some .int), xt68)
def xmd69 : xMd := (yX9_office, cX9_office, (some .int), xt69)
def xmd70 : xMd := (yX9_tie, cX9_tie, (some .int), xt70)
def xmd71 : xMd := (yX9_building, cX9_building, (some .int), xt71)
def xmd72 : xMd := (yX9_late, cX9_late, (some .int), xt72)
def xmd73 : xMd := (yX9_ready, cX9_ready, (some .int), xt73)
def xmd74 : xMd := (yX9_isLimit, cX9_isLimit, (some .boolean), xt74)
def xmd75 : xMd := (yX9_limit, cX9_limit, (some .int), xt75)
def xmd76 : xMd := (yX9_folk, cX9_folk, (some .int), xt76)
def xmd77 : xMd := (yX9_kind, cX9_kind, (some .int), xt77)
def xmd78 : xMd := (yX9_isShelf, cX9_isShelf, (some .boolean), xt78)
def xmd79 : xMd := (yX9_row, cX9_row, (some .int), xt79)
def xmd80 : xMd := (yX9_wantRow, cX9_wantRow, (some .int), xt80)
def xmd81 : xMd := (yX9_set, cX9_set, (some .int), xt81)
def xmd82 : xMd := (yX9_copy, cX9_copy, (some .int), xt82)
def xmd83 : xMd := (yX9_element, cX9_element, (some .long), xt83)
def xmd84 : xMd := (yX9_show, cX9_show, (some .int), xt84)
def xmd85 : xMd := (yX9_holds, cX9_holds, (some .int), xt85)
def xmd86 : xMd := (yX9_desksIn, cX9_desksIn, (some .int), xt86)
def xmd87 : xMd := (yX9_stay, cX9_stay, (some .int), xt87)
def xmd88 : xMd := (yX9_mayGet, cX9_mayGet, (some .boolean), xt88)
def xmd89 : xMd := (yX9_give, cX9_give, (some .int), xt89)
def xmd90 : xMd := (yX9_gives, cX9_gives, (some .int), xt90)
def xmd91 : xMd := (yX9_plan, cX9_plan, (some .int), xt91)
def xmd92 : xMd := (yX9_wave, cX9_wave, (some .int), xt92)
def xmd93 : xMd := (yX9_cut, cX9_cut, (some .int), xt93)
def xmd94 : xMd := (yX9_cost, cX9_cost, (some .int), xt94)
def xmd95 : xMd := (yX9_legal, cX9_legal, (some .int), xt95)
def xmd96 : xMd := (yX9_begin, cX9_begin, (some .int), xt96)
def xmd97 : xMd := (yX9_next, cX9_next, (some .int), xt97)
def xmd98 : xMd := (yX9_people, cX9_people, (some .int), xt98)
def xmd99 : xMd := (yX9_town, cX9_town, (some .int), xt99)
def xmd100 : xMd := (yX9_law, cX9_law, (some .int), xt100)
def xmd101 : xMd := (yX9_fault, cX9_fault, (some .int), xt101)
def xmd102 : xMd := (yX9_isVotes, cX9_isVotes, (some .boolean), xt102)
def xmd103 : xMd := (yX9_vote, cX9_vote, (some .int), xt103)
def xmd104 : xMd := (yX9_pay, cX9_pay, (some .int), xt104)
def xmd105 : xMd := (yX9_embassy, cX9_embassy, (some .int), xt105)
def xmd106 : xMd := (yX9_palace, cX9_palace, (some .int), xt106)
def xmd107 : xMd := (yX9_plot, cX9_plot, (some .int), xt107)
def xmd108 : xMd := (yX9_file, cX9_file, (some .int), xt108)
def xmd109 : xMd := (yX9_road, cX9_road, (some .int), xt109)
def xmd110 : xMd := (yX9_days, cX9_days, (some .int), xt110)
def xmd111 : xMd := (yX9_countTrue, cX9_countTrue, (some .int), xt111)
def xmd112 : xMd := (yX9_sum, cX9_sum, (some .int), xt112)
def xmd113 : xMd := (yX9_status, cX9_status, (some .int), xt113)
def xmd114 : xMd := (yX10_no, cX10_no, (some .int), xt114)
def xmd115 : xMd := (yX10_isOffice, cX10_isOffice, (some .boolean), xt115)
def xmd116 : xMd := (yX10_isWave, cX10_isWave, (some .boolean), xt116)
def xmd117 : xMd := (yX10_isKind, cX10_isKind, (some .boolean), xt117)
def xmd118 : xMd := (yX10_isShelf, cX10_isShelf, (some .boolean), xt118)
def xmd119 : xMd := (yX10_office, cX10_office, (some .int), xt119)
def xmd120 : xMd := (yX10_tie, cX10_tie, (some .int), xt120)
def xmd121 : xMd := (yX10_building, cX10_building, (some .int), xt121)
def xmd122 : xMd := (yX10_late, cX10_late, (some .int), xt122)
def xmd123 : xMd := (yX10_ready, cX10_ready, (some .int), xt123)
def xmd124 : xMd := (yX10_limit, cX10_limit, (some .int), xt124)
def xmd125 : xMd := (yX10_folk, cX10_folk, (some .int), xt125)
def xmd126 : xMd := (yX10_kind, cX10_kind, (some .int), xt126)
def xmd127 : xMd := (yX10_row, cX10_row, (some .int), xt127)
def xmd128 : xMd := (yX10_set, cX10_set, (some .int), xt128)
def xmd129 : xMd := (yX10_copy, cX10_copy, (some .int), xt129)
def xmd130 : xMd := (yX10_element, cX10_element, (some .long), xt130)
def xmd131 : xMd := (yX10_show, cX10_show, (some .int), xt131)
def xmd132 : xMd := (yX10_holds, cX10_holds, (some .int), xt132)
def xmd133 : xMd := (yX10_desksIn, cX10_desksIn, (some .int), xt133)
def xmd134 : xMd := (yX10_stay, cX10_stay, (some .int), xt134)
def xmd135 : xMd := (yX10_mayGive, cX10_mayGive, (some .boolean), xt135)
def xmd136 : xMd := (yX10_give, cX10_give, (some .int), xt136)
def xmd137 : xMd := (yX10_gives, cX10_gives, (some .int), xt137)
def xmd138 : xMd := (yX10_isOver, cX10_isOver, (some .boolean), xt138)
def xmd139 : xMd := (yX10_isLegal, cX10_isLegal, (some .boolean), xt139)
def xmd140 : xMd := (yX10_firstWrong, cX10_firstWrong, (some .int), xt140)
def xmd141 : xMd := (yX10_costOf, cX10_costOf, (some .int), xt141)
def xmd142 : xMd := (yX10_isFree, cX10_isFree, (some .boolean), xt142)
def xmd143 : xMd := (yX10_bare, cX10_bare, none, xt143)
def xmd144 : xMd := (yX10_byRule, cX10_byRule, (some .boolean), xt144)
def xmd145 : xMd := (yX10_swap, cX10_swap, none, xt145)
def xmd146 : xMd := (yX10_bySwaps, cX10_bySwaps, (some .boolean), xt146)
def xmd147 : xMd := (yX10_others, cX10_others, (some .int), xt147)
def xmd148 : xMd := (yX10_isOpen, cX10_isOpen, (some .boolean), xt148)
def xmd149 : xMd := (yX10_hopes, cX10_hopes, (some .boolean), xt149)
def xmd150 : xMd := (yX10_byAll, cX10_byAll, (some .boolean), xt150)
def xmd151 : xMd := (yX10_freeOnes, cX10_freeOnes, (some .int), xt151)
def xmd152 : xMd := (yX10_plan, cX10_plan, (some .int), xt152)
def xmd153 : xMd := (yX10_wave, cX10_wave, (some .int), xt153)
def xmd154 : xMd := (yX10_cut, cX10_cut, (some .int), xt154)
def xmd155 : xMd := (yX10_cost, cX10_cost, (some .int), xt155)
def xmd156 : xMd := (yX10_legal, cX10_legal, (some .int), xt156)
def xmd157 : xMd := (yX10_begin, cX10_begin, (some .int), xt157)
def xmd158 : xMd := (yX10_readyBy, cX10_readyBy, (some .int), xt158)
def xmd159 : xMd := (yX10_payOf, cX10_payOf, (some .int), xt159)
def xmd160 : xMd := (yX10_chooses, cX10_chooses, (some .int), xt160)
def xmd161 : xMd := (yX10_next, cX10_next, (some .int), xt161)
def xmd162 : xMd := (yX10_people, cX10_people, (some .int), xt162)
def xmd163 : xMd := (yX10_town, cX10_town, (some .int), xt163)
def xmd164 : xMd := (yX10_isEnd, cX10_isEnd, (some .boolean), xt164)
def xmd165 : xMd := (yX10_letter, cX10_letter, (some .int), xt165)
def xmd166 : xMd := (yX10_is, cX10_is, (some .boolean), xt166)
def xmd167 : xMd := (yX10_number, cX10_number, (some .int), xt167)
def xmd168 : xMd := (yX10_law, cX10_law, (some .int), xt168)
def xmd169 : xMd := (yX10_fault, cX10_fault, (some .int), xt169)
def xmd170 : xMd := (yX10_vote, cX10_vote, (some .int), xt170)
def xmd171 : xMd := (yX10_pay, cX10_pay, (some .int), xt171)
def xmd172 : xMd := (yX10_embassy, cX10_embassy, (some .int), xt172)
def xmd173 : xMd := (yX10_palace, cX10_palace, (some .int), xt173)
def xmd174 : xMd := (yX10_size, cX10_size, (some .int), xt174)
def xmd175 : xMd := (yX10_plot, cX10_plot, (some .int), xt175)
def xmd176 : xMd := (yX10_file, cX10_file, (some .int), xt176)
def xmd177 : xMd := (yX10_road, cX10_road, (some .int), xt177)
def xmd178 : xMd := (yX10_days, cX10_days, (some .int), xt178)
def xmd179 : xMd := (yX10_status, cX10_status, (some .int), xt179)
def xms : List xMd := [xmd0, xmd1, xmd2, xmd3, xmd4, xmd5, xmd6, xmd7, xmd8, xmd9, xmd10, xmd11, xmd12, xmd13, xmd14, xmd15, xmd16, xmd17, xmd18, xmd19, xmd20, xmd21, xmd22, xmd23, xmd24, xmd25, xmd26, xmd27, xmd28, xmd29, xmd30, xmd31, xmd32, xmd33, xmd34, xmd35, xmd36, xmd37, xmd38, xmd39, xmd40, xmd41, xmd42, xmd43, xmd44, xmd45, xmd46, xmd47, xmd48, xmd49, xmd50, xmd51, xmd52, xmd53, xmd54, xmd55, xmd56, xmd57, xmd58, xmd59, xmd60, xmd61, xmd62, xmd63, xmd64, xmd65, xmd66, xmd67, xmd68, xmd69, xmd70, xmd71, xmd72, xmd73, xmd74, xmd75, xmd76, xmd77, xmd78, xmd79, xmd80, xmd81, xmd82, xmd83, xmd84, xmd85, xmd86, xmd87, xmd88, xmd89, xmd90, xmd91, xmd92, xmd93, xmd94, xmd95, xmd96, xmd97, xmd98, xmd99, xmd100, xmd101, xmd102, xmd103, xmd104, xmd105, xmd106, xmd107, xmd108, xmd109, xmd110, xmd111, xmd112, xmd113, xmd114, xmd115, xmd116, xmd117, xmd118, xmd119, xmd120, xmd121, xmd122, xmd123, xmd124, xmd125, xmd126, xmd127, xmd128, xmd129, xmd130, xmd131, xmd132, xmd133, xmd134, xmd135, xmd136, xmd137, xmd138, xmd139, xmd140, xmd141, xmd142, xmd143, xmd144, xmd145, xmd146, xmd147, xmd148, xmd149, xmd150, xmd151, xmd152, xmd153, xmd154, xmd155, xmd156, xmd157, xmd158, xmd159, xmd160, xmd161, xmd162, xmd163, xmd164, xmd165, xmd166, xmd167, xmd168, xmd169, xmd170, xmd171, xmd172, xmd173, xmd174, xmd175, xmd176, xmd177, xmd178, xmd179]
def xokB (own pc nL : Nat) (ret : Option FieldType) (ins : Instr) (ln a b : Nat) (v : Int32) (ts : List Nat) : Bool := match ins with
  | .iconst n => decide (ln = 1 ∧ Int32.ofInt n = v)
  | .bipush n => decide (ln = 2 ∧ (Int8.ofInt n).toInt32 = v)
  | .sipush n => decide (ln = 3 ∧ (Int16.ofInt n).toInt32 = v)
  | .ldc i => decide (ln = 2 ∧ own = 6 ∧ i = 110 ∧ v = 1000000)
  | .ldc2_w i => decide (ln = 3 ∧ own = 11 ∧ i = 51)
  | .iload_n k => decide (ln = 1 ∧ k.val = a)
  | .lload_n k => decide (ln = 1 ∧ k.val = a)
  | .aload_n k => decide (ln = 1 ∧ k.val = a)
  | .iload i => decide (ln = 2 ∧ i = a)
  | .lload i => decide (ln = 2 ∧ i = a)
  | .aload i => decide (ln = 2 ∧ i = a)
  | .istore_n k => decide (ln = 1 ∧ k.val = a ∧ a < nL)
  | .istore i => decide (ln = 2 ∧ i = a ∧ a < nL)
  | .iinc i n => decide (ln = 3 ∧ i = a ∧ Int32.ofInt n = v ∧ a < nL)
  | .ifCond _ f => decide (ln = 3 ∧ (pc : Int) + f = (a : Int))
  | .if_icmp _ f => decide (ln = 3 ∧ (pc : Int) + f = (a : Int))
  | .goto f => decide (ln = 3 ∧ (pc : Int) + f = (a : Int))
  | .tableswitch d lo hi offs => decide ((pc : Int) + d = (a : Int) ∧ v.toInt = lo ∧ hi = lo + (ts.length : Int) - 1 ∧ offs.toList.map (fun f => (pc : Int) + f) = ts.map Int.ofNat ∧ ts.length < 100 ∧ -100 < lo ∧ lo < 100)
  | .getfield i => decide (ln = 3) && xfT.any (fun q => decide (q.1 = own ∧ q.2.1 = i ∧ q.2.2.1 = a ∧ q.2.2.2.1 = b))
  | .putfield i => decide (ln = 3) && xfT.any (fun q => decide (q.1 = own ∧ q.2.1 = i ∧ q.2.2.1 = a ∧ q.2.2.2.1 = b))
  | .invokevirtual i => decide (ln = 3 ∧ a = 0) && xmT.any (fun q => decide (q.1 = own ∧ q.2.1 = i ∧ q.2.2.1 = a ∧ q.2.2.2.1 = b))
  | .invokestatic i => decide (ln = 3 ∧ 0 < a ∧ a < 7) && xmT.any (fun q => decide (q.1 = own ∧ q.2.1 = i ∧ q.2.2.1 = a ∧ q.2.2.2.1 = b))
  | .ireturn => decide (ln = 1 ∧ ((a = 0 ∧ ret = some .int) ∨ (a = 1 ∧ ret = some .boolean)))
  | .lreturn => decide (ln = 1 ∧ ret = some .long)
  | .return_ => decide (ln = 1 ∧ ret = none)
  | .new _ => true
  | .invokespecial _ => true
  | .astore_n _ => true
  | _ => decide (ln = 1)
def xchk (f pc : Nat) (md : xMd) (q : xI) : Bool := decide (decode md.2.1 pc = .ok (q.1, q.2.1)) && xokB (xmo f) pc (xml f) md.2.2.1 q.1 q.2.1 q.2.2.1 q.2.2.2.1 q.2.2.2.2.1 q.2.2.2.2.2
def xtabok (f lo : Nat) (md : xMd) : Bool := (List.range 60).all (fun i => match md.2.2.2 (lo + i) with | none => true | some q => xchk f (lo + i) md q)
theorem xtab_use {f n k : Nat} {md : xMd} (hn : ∀ pc q, md.2.2.2 pc = some q → pc ≤ n) (hk : n < 60 * k) (h : ∀ j, j < k → xtabok f (60 * j) md = true) {pc : Nat} {q : xI} (hq : md.2.2.2 pc = some q) : xchk f pc md q = true := by
  have hle := hn pc q hq
  have h1 := List.all_eq_true.mp (h (pc / 60) (by omega)) (pc % 60) (List.mem_range.mpr (Nat.mod_lt _ (by decide)))
  rw [show 60 * (pc / 60) + pc % 60 = pc by omega, hq] at h1
  exact h1
theorem xtab_le {n pc : Nat} {t : Option xI} {q : xI} (h : (bif Nat.ble pc n then t else none) = some q) : pc ≤ n := by
  cases e : Nat.ble pc n with
  | true => exact Nat.le_of_ble_eq_true e
  | false => rw [e] at h; cases h

theorem xgt0_0 : xtabok 0 (60 * 0) xmd0 = true := by decide +kernel
theorem xgt0_1 : xtabok 0 (60 * 1) xmd0 = true := by decide +kernel
theorem xgt0_2 : xtabok 0 (60 * 2) xmd0 = true := by decide +kernel
theorem xgt0_3 : xtabok 0 (60 * 3) xmd0 = true := by decide +kernel
theorem xgt0_4 : xtabok 0 (60 * 4) xmd0 = true := by decide +kernel
theorem xgt0_5 : xtabok 0 (60 * 5) xmd0 = true := by decide +kernel
theorem xgt0_6 : xtabok 0 (60 * 6) xmd0 = true := by decide +kernel
theorem xgt0_7 : xtabok 0 (60 * 7) xmd0 = true := by decide +kernel
theorem xgt0_8 : xtabok 0 (60 * 8) xmd0 = true := by decide +kernel
theorem xgt0_9 : xtabok 0 (60 * 9) xmd0 = true := by decide +kernel
theorem xgt0_10 : xtabok 0 (60 * 10) xmd0 = true := by decide +kernel
theorem xgt0_11 : xtabok 0 (60 * 11) xmd0 = true := by decide +kernel
theorem xgt0_12 : xtabok 0 (60 * 12) xmd0 = true := by decide +kernel
theorem xgt0_13 : xtabok 0 (60 * 13) xmd0 = true := by decide +kernel
theorem xgt0_14 : xtabok 0 (60 * 14) xmd0 = true := by decide +kernel
theorem xgt0_15 : xtabok 0 (60 * 15) xmd0 = true := by decide +kernel
theorem xgt0_16 : xtabok 0 (60 * 16) xmd0 = true := by decide +kernel
theorem xgt0_17 : xtabok 0 (60 * 17) xmd0 = true := by decide +kernel
theorem xgt0_18 : xtabok 0 (60 * 18) xmd0 = true := by decide +kernel
theorem xgt0_19 : xtabok 0 (60 * 19) xmd0 = true := by decide +kernel
theorem xgt0_20 : xtabok 0 (60 * 20) xmd0 = true := by decide +kernel
theorem xgt0_21 : xtabok 0 (60 * 21) xmd0 = true := by decide +kernel
theorem xgt0_22 : xtabok 0 (60 * 22) xmd0 = true := by decide +kernel
theorem xgt0_23 : xtabok 0 (60 * 23) xmd0 = true := by decide +kernel
theorem xgt0 {pc : Nat} {q : xI} (h : xmd0.2.2.2 pc = some q) : xchk 0 pc xmd0 q = true := xtab_use (k := 24) (fun _ _ h => xtab_le (n := 1388) h) (by decide) (fun j hj => match j, hj with | 0, _ => xgt0_0 | 1, _ => xgt0_1 | 2, _ => xgt0_2 | 3, _ => xgt0_3 | 4, _ => xgt0_4 | 5, _ => xgt0_5 | 6, _ => xgt0_6 | 7, _ => xgt0_7 | 8, _ => xgt0_8 | 9, _ => xgt0_9 | 10, _ => xgt0_10 | 11, _ => xgt0_11 | 12, _ => xgt0_12 | 13, _ => xgt0_13 | 14, _ => xgt0_14 | 15, _ => xgt0_15 | 16, _ => xgt0_16 | 17, _ => xgt0_17 | 18, _ => xgt0_18 | 19, _ => xgt0_19 | 20, _ => xgt0_20 | 21, _ => xgt0_21 | 22, _ => xgt0_22 | 23, _ => xgt0_23 | j + 24, hj => absurd hj (by omega)) h
theorem xgt1_0 : xtabok 1 (60 * 0) xmd1 = true := by decide +kernel
theorem xgt1 {pc : Nat} {q : xI} (h : xmd1.2.2.2 pc = some q) : xchk 1 pc xmd1 q = true := xtab_use (k := 1) (fun _ _ h => xtab_le (n := 21) h) (by decide) (fun j hj => match j, hj with | 0, _ => xgt1_0 | j + 1, hj => absurd hj (by omega)) h
theorem xgt2_0 : xtabok 2 (60 * 0) xmd2 = true := by decide +kernel
theorem xgt2 {pc : Nat} {q : xI} (h : xmd2.2.2.2 pc = some q) : xchk 2 pc xmd2 q = true := xtab_use (k := 1) (fun _ _ h => xtab_le (n := 57) h) (by decide) (fun j hj => match j, hj with | 0, _ => xgt2_0 | j + 1, hj => absurd hj (by omega)) h
theorem xgt3_0 : xtabok 3 (60 * 0) xmd3 = true := by decide +kernel
theorem xgt3 {pc : Nat} {q : xI} (h : xmd3.2.2.2 pc = some q) : xchk 3 pc xmd3 q = true := xtab_use (k := 1) (fun _ _ h => xtab_le (n := 31) h) (by decide) (fun j hj => match j, hj with | 0, _ => xgt3_0 | j + 1, hj => absurd hj (by omega)) h
theorem xgt4_0 : xtabok 4 (60 * 0) xmd4 = true := by decide +kernel
theorem xgt4 {pc : Nat} {q : xI} (h : xmd4.2.2.2 pc = some q) : xchk 4 pc xmd4 q = true := xtab_use (k := 1) (fun _ _ h => xtab_le (n := 57) h) (by decide) (fun j hj => match j, hj with | 0, _ => xgt4_0 | j + 1, hj => absurd hj (by omega)) h
theorem xgt5_0 : xtabok 5 (60 * 0) xmd5 = true := by decide +kernel
theorem xgt5 {pc : Nat} {q : xI} (h : xmd5.2.2.2 pc = some q) : xchk 5 pc xmd5 q = true := xtab_use (k := 1) (fun _ _ h => xtab_le (n := 21) h) (by decide) (fun j hj => match j, hj with | 0, _ => xgt5_0 | j + 1, hj => absurd hj (by omega)) h
theorem xgt6_0 : xtabok 6 (60 * 0) xmd6 = true := by decide +kernel
theorem xgt6 {pc : Nat} {q : xI} (h : xmd6.2.2.2 pc = some q) : xchk 6 pc xmd6 q = true := xtab_use (k := 1) (fun _ _ h => xtab_le (n := 33) h) (by decide) (fun j hj => match j, hj with | 0, _ => xgt6_0 | j + 1, hj => absurd hj (by omega)) h
theorem xgt7_0 : xtabok 7 (60 * 0) xmd7 = true := by decide +kernel
theorem xgt7 {pc : Nat} {q : xI} (h : xmd7.2.2.2 pc = some q) : xchk 7 pc xmd7 q = true := xtab_use (k := 1) (fun _ _ h => xtab_le (n := 32) h) (by decide) (fun j hj => match j, hj with | 0, _ => xgt7_0 | j + 1, hj => absurd hj (by omega)) h
theorem xgt8_0 : xtabok 8 (60 * 0) xmd8 = true := by decide +kernel
theorem xgt8 {pc : Nat} {q : xI} (h : xmd8.2.2.2 pc = some q) : xchk 8 pc xmd8 q = true := xtab_use (k := 1) (fun _ _ h => xtab_le (n := 25) h) (by decide) (fun j hj => match j, hj with | 0, _ => xgt8_0 | j + 1, hj => absurd hj (by omega)) h
theorem xgt9_0 : xtabok 9 (60 * 0) xmd9 = true := by decide +kernel
theorem xgt9 {pc : Nat} {q : xI} (h : xmd9.2.2.2 pc = some q) : xchk 9 pc xmd9 q = true := xtab_use (k := 1) (fun _ _ h => xtab_le (n := 25) h) (by decide) (fun j hj => match j, hj with | 0, _ => xgt9_0 | j + 1, hj => absurd hj (by omega)) h
theorem xgt10_0 : xtabok 10 (60 * 0) xmd10 = true := by decide +kernel
theorem xgt10 {pc : Nat} {q : xI} (h : xmd10.2.2.2 pc = some q) : xchk 10 pc xmd10 q = true := xtab_use (k := 1) (fun _ _ h => xtab_le (n := 29) h) (by decide) (fun j hj => match j, hj with | 0, _ => xgt10_0 | j + 1, hj => absurd hj (by omega)) h
theorem xgt11_0 : xtabok 11 (60 * 0) xmd11 = true := by decide +kernel
theorem xgt11 {pc : Nat} {q : xI} (h : xmd11.2.2.2 pc = some q) : xchk 11 pc xmd11 q = true := xtab_use (k := 1) (fun _ _ h => xtab_le (n := 10) h) (by decide) (fun j hj => match j, hj with | 0, _ => xgt11_0 | j + 1, hj => absurd hj (by omega)) h
theorem xgt12_0 : xtabok 12 (60 * 0) xmd12 = true := by decide +kernel
theorem xgt12 {pc : Nat} {q : xI} (h : xmd12.2.2.2 pc = some q) : xchk 12 pc xmd12 q = true := xtab_use (k := 1) (fun _ _ h => xtab_le (n := 14) h) (by decide) (fun j hj => match j, hj with | 0, _ => xgt12_0 | j + 1, hj => absurd hj (by omega)) h
theorem xgt13_0 : xtabok 13 (60 * 0) xmd13 = true := by decide +kernel
theorem xgt13 {pc : Nat} {q : xI} (h : xmd13.2.2.2 pc = some q) : xchk 13 pc xmd13 q = true := xtab_use (k := 1) (fun _ _ h => xtab_le (n := 37) h) (by decide) (fun j hj => match j, hj with | 0, _ => xgt13_0 | j + 1, hj => absurd hj (by omega)) h
theorem xgt14_0 : xtabok 14 (60 * 0) xmd14 = true := by decide +kernel
theorem xgt14 {pc : Nat} {q : xI} (h : xmd14.2.2.2 pc = some q) : xchk 14 pc xmd14 q = true := xtab_use (k := 1) (fun _ _ h => xtab_le (n := 29) h) (by decide) (fun j hj => match j, hj with | 0, _ => xgt14_0 | j + 1, hj => absurd hj (by omega)) h
theorem xgt15_0 : xtabok 15 (60 * 0) xmd15 = true := by decide +kernel
theorem xgt15 {pc : Nat} {q : xI} (h : xmd15.2.2.2 pc = some q) : xchk 15 pc xmd15 q = true := xtab_use (k := 1) (fun _ _ h => xtab_le (n := 10) h) (by decide) (fun j hj => match j, hj with | 0, _ => xgt15_0 | j + 1, hj => absurd hj (by omega)) h
theorem xgt16_0 : xtabok 16 (60 * 0) xmd16 = true := by decide +kernel
theorem xgt16 {pc : Nat} {q : xI} (h : xmd16.2.2.2 pc = some q) : xchk 16 pc xmd16 q = true := xtab_use (k := 1) (fun _ _ h => xtab_le (n := 30) h) (by decide) (fun j hj => match j, hj with | 0, _ => xgt16_0 | j + 1, hj => absurd hj (by omega)) h
theorem xgt17_0 : xtabok 17 (60 * 0) xmd17 = true := by decide +kernel
theorem xgt17_1 : xtabok 17 (60 * 1) xmd17 = true := by decide +kernel
theorem xgt17 {pc : Nat} {q : xI} (h : xmd17.2.2.2 pc = some q) : xchk 17 pc xmd17 q = true := xtab_use (k := 2) (fun _ _ h => xtab_le (n := 88) h) (by decide) (fun j hj => match j, hj with | 0, _ => xgt17_0 | 1, _ => xgt17_1 | j + 2, hj => absurd hj (by omega)) h
theorem xgt18_0 : xtabok 18 (60 * 0) xmd18 = true := by decide +kernel
theorem xgt18 {pc : Nat} {q : xI} (h : xmd18.2.2.2 pc = some q) : xchk 18 pc xmd18 q = true := xtab_use (k := 1) (fun _ _ h => xtab_le (n := 27) h) (by decide) (fun j hj => match j, hj with | 0, _ => xgt18_0 | j + 1, hj => absurd hj (by omega)) h
theorem xgt19_0 : xtabok 19 (60 * 0) xmd19 = true := by decide +kernel
theorem xgt19 {pc : Nat} {q : xI} (h : xmd19.2.2.2 pc = some q) : xchk 19 pc xmd19 q = true := xtab_use (k := 1) (fun _ _ h => xtab_le (n := 48) h) (by decide) (fun j hj => match j, hj with | 0, _ => xgt19_0 | j + 1, hj => absurd hj (by omega)) h
theorem xgt20_0 : xtabok 20 (60 * 0) xmd20 = true := by decide +kernel
theorem xgt20_1 : xtabok 20 (60 * 1) xmd20 = true := by decide +kernel
theorem xgt20_2 : xtabok 20 (60 * 2) xmd20 = true := by decide +kernel
theorem xgt20 {pc : Nat} {q : xI} (h : xmd20.2.2.2 pc = some q) : xchk 20 pc xmd20 q = true := xtab_use (k := 3) (fun _ _ h => xtab_le (n := 153) h) (by decide) (fun j hj => match j, hj with | 0, _ => xgt20_0 | 1, _ => xgt20_1 | 2, _ => xgt20_2 | j + 3, hj => absurd hj (by omega)) h
theorem xgt21_0 : xtabok 21 (60 * 0) xmd21 = true := by decide +kernel
theorem xgt21_1 : xtabok 21 (60 * 1) xmd21 = true := by decide +kernel
theorem xgt21 {pc : Nat} {q : xI} (h : xmd21.2.2.2 pc = some q) : xchk 21 pc xmd21 q = true := xtab_use (k := 2) (fun _ _ h => xtab_le (n := 118) h) (by decide) (fun j hj => match j, hj with | 0, _ => xgt21_0 | 1, _ => xgt21_1 | j + 2, hj => absurd hj (by omega)) h
theorem xgt22_0 : xtabok 22 (60 * 0) xmd22 = true := by decide +kernel
theorem xgt22 {pc : Nat} {q : xI} (h : xmd22.2.2.2 pc = some q) : xchk 22 pc xmd22 q = true := xtab_use (k := 1) (fun _ _ h => xtab_le (n := 58) h) (by decide) (fun j hj => match j, hj with | 0, _ => xgt22_0 | j + 1, hj => absurd hj (by omega)) h
theorem xgt23_0 : xtabok 23 (60 * 0) xmd23 = true := by decide +kernel
theorem xgt23 {pc : Nat} {q : xI} (h : xmd23.2.2.2 pc = some q) : xchk 23 pc xmd23 q = true := xtab_use (k := 1) (fun _ _ h => xtab_le (n := 35) h) (by decide) (fun j hj => match j, hj with | 0, _ => xgt23_0 | j + 1, hj => absurd hj (by omega)) h
theorem xgt24_0 : xtabok 24 (60 * 0) xmd24 = true := by decide +kernel
theorem xgt24 {pc : Nat} {q : xI} (h : xmd24.2.2.2 pc = some q) : xchk 24 pc xmd24 q = true := xtab_use (k := 1) (fun _ _ h => xtab_le (n := 16) h) (by decide) (fun j hj => match j, hj with | 0, _ => xgt24_0 | j + 1, hj => absurd hj (by omega)) h
theorem xgt25_0 : xtabok 25 (60 * 0) xmd25 = true := by decide +kernel
theorem xgt25 {pc : Nat} {q : xI} (h : xmd25.2.2.2 pc = some q) : xchk 25 pc xmd25 q = true := xtab_use (k := 1) (fun _ _ h => xtab_le (n := 15) h) (by decide) (fun j hj => match j, hj with | 0, _ => xgt25_0 | j + 1, hj => absurd hj (by omega)) h
theorem xgt26_0 : xtabok 26 (60 * 0) xmd26 = true := by decide +kernel
theorem xgt26 {pc : Nat} {q : xI} (h : xmd26.2.2.2 pc = some q) : xchk 26 pc xmd26 q = true := xtab_use (k := 1) (fun _ _ h => xtab_le (n := 36) h) (by decide) (fun j hj => match j, hj with | 0, _ => xgt26_0 | j + 1, hj => absurd hj (by omega)) h
theorem xgt27_0 : xtabok 27 (60 * 0) xmd27 = true := by decide +kernel
theorem xgt27 {pc : Nat} {q : xI} (h : xmd27.2.2.2 pc = some q) : xchk 27 pc xmd27 q = true := xtab_use (k := 1) (fun _ _ h => xtab_le (n := 14) h) (by decide) (fun j hj => match j, hj with | 0, _ => xgt27_0 | j + 1, hj => absurd hj (by omega)) h
theorem xgt28_0 : xtabok 28 (60 * 0) xmd28 = true := by decide +kernel
theorem xgt28_1 : xtabok 28 (60 * 1) xmd28 = true := by decide +kernel
theorem xgt28_2 : xtabok 28 (60 * 2) xmd28 = true := by decide +kernel
theorem xgt28_3 : xtabok 28 (60 * 3) xmd28 = true := by decide +kernel
theorem xgt28 {pc : Nat} {q : xI} (h : xmd28.2.2.2 pc = some q) : xchk 28 pc xmd28 q = true := xtab_use (k := 4) (fun _ _ h => xtab_le (n := 204) h) (by decide) (fun j hj => match j, hj with | 0, _ => xgt28_0 | 1, _ => xgt28_1 | 2, _ => xgt28_2 | 3, _ => xgt28_3 | j + 4, hj => absurd hj (by omega)) h
theorem xgt29_0 : xtabok 29 (60 * 0) xmd29 = true := by decide +kernel
theorem xgt29_1 : xtabok 29 (60 * 1) xmd29 = true := by decide +kernel
theorem xgt29 {pc : Nat} {q : xI} (h : xmd29.2.2.2 pc = some q) : xchk 29 pc xmd29 q = true := xtab_use (k := 2) (fun _ _ h => xtab_le (n := 74) h) (by decide) (fun j hj => match j, hj with | 0, _ => xgt29_0 | 1, _ => xgt29_1 | j + 2, hj => absurd hj (by omega)) h
theorem xgt30_0 : xtabok 30 (60 * 0) xmd30 = true := by decide +kernel
theorem xgt30 {pc : Nat} {q : xI} (h : xmd30.2.2.2 pc = some q) : xchk 30 pc xmd30 q = true := xtab_use (k := 1) (fun _ _ h => xtab_le (n := 50) h) (by decide) (fun j hj => match j, hj with | 0, _ => xgt30_0 | j + 1, hj => absurd hj (by omega)) h
theorem xgt31_0 : xtabok 31 (60 * 0) xmd31 = true := by decide +kernel
theorem xgt31 {pc : Nat} {q : xI} (h : xmd31.2.2.2 pc = some q) : xchk 31 pc xmd31 q = true := xtab_use (k := 1) (fun _ _ h => xtab_le (n := 38) h) (by decide) (fun j hj => match j, hj with | 0, _ => xgt31_0 | j + 1, hj => absurd hj (by omega)) h
theorem xgt32_0 : xtabok 32 (60 * 0) xmd32 = true := by decide +kernel
theorem xgt32_1 : xtabok 32 (60 * 1) xmd32 = true := by decide +kernel
theorem xgt32_2 : xtabok 32 (60 * 2) xmd32 = true := by decide +kernel
theorem xgt32 {pc : Nat} {q : xI} (h : xmd32.2.2.2 pc = some q) : xchk 32 pc xmd32 q = true := xtab_use (k := 3) (fun _ _ h => xtab_le (n := 174) h) (by decide) (fun j hj => match j, hj with | 0, _ => xgt32_0 | 1, _ => xgt32_1 | 2, _ => xgt32_2 | j + 3, hj => absurd hj (by omega)) h
theorem xgt33_0 : xtabok 33 (60 * 0) xmd33 = true := by decide +kernel
theorem xgt33_1 : xtabok 33 (60 * 1) xmd33 = true := by decide +kernel
theorem xgt33 {pc : Nat} {q : xI} (h : xmd33.2.2.2 pc = some q) : xchk 33 pc xmd33 q = true := xtab_use (k := 2) (fun _ _ h => xtab_le (n := 96) h) (by decide) (fun j hj => match j, hj with | 0, _ => xgt33_0 | 1, _ => xgt33_1 | j + 2, hj => absurd hj (by omega)) h
theorem xgt34_0 : xtabok 34 (60 * 0) xmd34 = true := by decide +kernel
theorem xgt34_1 : xtabok 34 (60 * 1) xmd34 = true := by decide +kernel
theorem xgt34 {pc : Nat} {q : xI} (h : xmd34.2.2.2 pc = some q) : xchk 34 pc xmd34 q = true := xtab_use (k := 2) (fun _ _ h => xtab_le (n := 63) h) (by decide) (fun j hj => match j, hj with | 0, _ => xgt34_0 | 1, _ => xgt34_1 | j + 2, hj => absurd hj (by omega)) h
theorem xgt35_0 : xtabok 35 (60 * 0) xmd35 = true := by decide +kernel
theorem xgt35_1 : xtabok 35 (60 * 1) xmd35 = true := by decide +kernel
theorem xgt35 {pc : Nat} {q : xI} (h : xmd35.2.2.2 pc = some q) : xchk 35 pc xmd35 q = true := xtab_use (k := 2) (fun _ _ h => xtab_le (n := 104) h) (by decide) (fun j hj => match j, hj with | 0, _ => xgt35_0 | 1, _ => xgt35_1 | j + 2, hj => absurd hj (by omega)) h
theorem xgt36_0 : xtabok 36 (60 * 0) xmd36 = true := by decide +kernel
theorem xgt36 {pc : Nat} {q : xI} (h : xmd36.2.2.2 pc = some q) : xchk 36 pc xmd36 q = true := xtab_use (k := 1) (fun _ _ h => xtab_le (n := 11) h) (by decide) (fun j hj => match j, hj with | 0, _ => xgt36_0 | j + 1, hj => absurd hj (by omega)) h
theorem xgt37_0 : xtabok 37 (60 * 0) xmd37 = true := by decide +kernel
theorem xgt37 {pc : Nat} {q : xI} (h : xmd37.2.2.2 pc = some q) : xchk 37 pc xmd37 q = true := xtab_use (k := 1) (fun _ _ h => xtab_le (n := 41) h) (by decide) (fun j hj => match j, hj with | 0, _ => xgt37_0 | j + 1, hj => absurd hj (by omega)) h
theorem xgt38_0 : xtabok 38 (60 * 0) xmd38 = true := by decide +kernel
theorem xgt38 {pc : Nat} {q : xI} (h : xmd38.2.2.2 pc = some q) : xchk 38 pc xmd38 q = true := xtab_use (k := 1) (fun _ _ h => xtab_le (n := 39) h) (by decide) (fun j hj => match j, hj with | 0, _ => xgt38_0 | j + 1, hj => absurd hj (by omega)) h
theorem xgt39_0 : xtabok 39 (60 * 0) xmd39 = true := by decide +kernel
theorem xgt39 {pc : Nat} {q : xI} (h : xmd39.2.2.2 pc = some q) : xchk 39 pc xmd39 q = true := xtab_use (k := 1) (fun _ _ h => xtab_le (n := 20) h) (by decide) (fun j hj => match j, hj with | 0, _ => xgt39_0 | j + 1, hj => absurd hj (by omega)) h
theorem xgt40_0 : xtabok 40 (60 * 0) xmd40 = true := by decide +kernel
theorem xgt40 {pc : Nat} {q : xI} (h : xmd40.2.2.2 pc = some q) : xchk 40 pc xmd40 q = true := xtab_use (k := 1) (fun _ _ h => xtab_le (n := 16) h) (by decide) (fun j hj => match j, hj with | 0, _ => xgt40_0 | j + 1, hj => absurd hj (by omega)) h
theorem xgt41_0 : xtabok 41 (60 * 0) xmd41 = true := by decide +kernel
theorem xgt41 {pc : Nat} {q : xI} (h : xmd41.2.2.2 pc = some q) : xchk 41 pc xmd41 q = true := xtab_use (k := 1) (fun _ _ h => xtab_le (n := 23) h) (by decide) (fun j hj => match j, hj with | 0, _ => xgt41_0 | j + 1, hj => absurd hj (by omega)) h
theorem xgt42_0 : xtabok 42 (60 * 0) xmd42 = true := by decide +kernel
theorem xgt42 {pc : Nat} {q : xI} (h : xmd42.2.2.2 pc = some q) : xchk 42 pc xmd42 q = true := xtab_use (k := 1) (fun _ _ h => xtab_le (n := 30) h) (by decide) (fun j hj => match j, hj with | 0, _ => xgt42_0 | j + 1, hj => absurd hj (by omega)) h
theorem xgt43_0 : xtabok 43 (60 * 0) xmd43 = true := by decide +kernel
theorem xgt43 {pc : Nat} {q : xI} (h : xmd43.2.2.2 pc = some q) : xchk 43 pc xmd43 q = true := xtab_use (k := 1) (fun _ _ h => xtab_le (n := 32) h) (by decide) (fun j hj => match j, hj with | 0, _ => xgt43_0 | j + 1, hj => absurd hj (by omega)) h
theorem xgt44_0 : xtabok 44 (60 * 0) xmd44 = true := by decide +kernel
theorem xgt44_1 : xtabok 44 (60 * 1) xmd44 = true := by decide +kernel
theorem xgt44 {pc : Nat} {q : xI} (h : xmd44.2.2.2 pc = some q) : xchk 44 pc xmd44 q = true := xtab_use (k := 2) (fun _ _ h => xtab_le (n := 83) h) (by decide) (fun j hj => match j, hj with | 0, _ => xgt44_0 | 1, _ => xgt44_1 | j + 2, hj => absurd hj (by omega)) h
theorem xgt45_0 : xtabok 45 (60 * 0) xmd45 = true := by decide +kernel
theorem xgt45_1 : xtabok 45 (60 * 1) xmd45 = true := by decide +kernel
theorem xgt45 {pc : Nat} {q : xI} (h : xmd45.2.2.2 pc = some q) : xchk 45 pc xmd45 q = true := xtab_use (k := 2) (fun _ _ h => xtab_le (n := 61) h) (by decide) (fun j hj => match j, hj with | 0, _ => xgt45_0 | 1, _ => xgt45_1 | j + 2, hj => absurd hj (by omega)) h
theorem xgt46_0 : xtabok 46 (60 * 0) xmd46 = true := by decide +kernel
theorem xgt46_1 : xtabok 46 (60 * 1) xmd46 = true := by decide +kernel
theorem xgt46 {pc : Nat} {q : xI} (h : xmd46.2.2.2 pc = some q) : xchk 46 pc xmd46 q = true := xtab_use (k := 2) (fun _ _ h => xtab_le (n := 74) h) (by decide) (fun j hj => match j, hj with | 0, _ => xgt46_0 | 1, _ => xgt46_1 | j + 2, hj => absurd hj (by omega)) h
theorem xgt47_0 : xtabok 47 (60 * 0) xmd47 = true := by decide +kernel
theorem xgt47_1 : xtabok 47 (60 * 1) xmd47 = true := by decide +kernel
theorem xgt47 {pc : Nat} {q : xI} (h : xmd47.2.2.2 pc = some q) : xchk 47 pc xmd47 q = true := xtab_use (k := 2) (fun _ _ h => xtab_le (n := 79) h) (by decide) (fun j hj => match j, hj with | 0, _ => xgt47_0 | 1, _ => xgt47_1 | j + 2, hj => absurd hj (by omega)) h
theorem xgt48_0 : xtabok 48 (60 * 0) xmd48 = true := by decide +kernel
theorem xgt48 {pc : Nat} {q : xI} (h : xmd48.2.2.2 pc = some q) : xchk 48 pc xmd48 q = true := xtab_use (k := 1) (fun _ _ h => xtab_le (n := 32) h) (by decide) (fun j hj => match j, hj with | 0, _ => xgt48_0 | j + 1, hj => absurd hj (by omega)) h
theorem xgt49_0 : xtabok 49 (60 * 0) xmd49 = true := by decide +kernel
theorem xgt49_1 : xtabok 49 (60 * 1) xmd49 = true := by decide +kernel
theorem xgt49 {pc : Nat} {q : xI} (h : xmd49.2.2.2 pc = some q) : xchk 49 pc xmd49 q = true := xtab_use (k := 2) (fun _ _ h => xtab_le (n := 95) h) (by decide) (fun j hj => match j, hj with | 0, _ => xgt49_0 | 1, _ => xgt49_1 | j + 2, hj => absurd hj (by omega)) h
theorem xgt50_0 : xtabok 50 (60 * 0) xmd50 = true := by decide +kernel
theorem xgt50_1 : xtabok 50 (60 * 1) xmd50 = true := by decide +kernel
theorem xgt50 {pc : Nat} {q : xI} (h : xmd50.2.2.2 pc = some q) : xchk 50 pc xmd50 q = true := xtab_use (k := 2) (fun _ _ h => xtab_le (n := 116) h) (by decide) (fun j hj => match j, hj with | 0, _ => xgt50_0 | 1, _ => xgt50_1 | j + 2, hj => absurd hj (by omega)) h
theorem xgt51_0 : xtabok 51 (60 * 0) xmd51 = true := by decide +kernel
theorem xgt51 {pc : Nat} {q : xI} (h : xmd51.2.2.2 pc = some q) : xchk 51 pc xmd51 q = true := xtab_use (k := 1) (fun _ _ h => xtab_le (n := 55) h) (by decide) (fun j hj => match j, hj with | 0, _ => xgt51_0 | j + 1, hj => absurd hj (by omega)) h
theorem xgt52_0 : xtabok 52 (60 * 0) xmd52 = true := by decide +kernel
theorem xgt52 {pc : Nat} {q : xI} (h : xmd52.2.2.2 pc = some q) : xchk 52 pc xmd52 q = true := xtab_use (k := 1) (fun _ _ h => xtab_le (n := 37) h) (by decide) (fun j hj => match j, hj with | 0, _ => xgt52_0 | j + 1, hj => absurd hj (by omega)) h
theorem xgt53_0 : xtabok 53 (60 * 0) xmd53 = true := by decide +kernel
theorem xgt53 {pc : Nat} {q : xI} (h : xmd53.2.2.2 pc = some q) : xchk 53 pc xmd53 q = true := xtab_use (k := 1) (fun _ _ h => xtab_le (n := 58) h) (by decide) (fun j hj => match j, hj with | 0, _ => xgt53_0 | j + 1, hj => absurd hj (by omega)) h
theorem xgt54_0 : xtabok 54 (60 * 0) xmd54 = true := by decide +kernel
theorem xgt54 {pc : Nat} {q : xI} (h : xmd54.2.2.2 pc = some q) : xchk 54 pc xmd54 q = true := xtab_use (k := 1) (fun _ _ h => xtab_le (n := 51) h) (by decide) (fun j hj => match j, hj with | 0, _ => xgt54_0 | j + 1, hj => absurd hj (by omega)) h
theorem xgt55_0 : xtabok 55 (60 * 0) xmd55 = true := by decide +kernel
theorem xgt55_1 : xtabok 55 (60 * 1) xmd55 = true := by decide +kernel
theorem xgt55 {pc : Nat} {q : xI} (h : xmd55.2.2.2 pc = some q) : xchk 55 pc xmd55 q = true := xtab_use (k := 2) (fun _ _ h => xtab_le (n := 86) h) (by decide) (fun j hj => match j, hj with | 0, _ => xgt55_0 | 1, _ => xgt55_1 | j + 2, hj => absurd hj (by omega)) h
theorem xgt56_0 : xtabok 56 (60 * 0) xmd56 = true := by decide +kernel
theorem xgt56 {pc : Nat} {q : xI} (h : xmd56.2.2.2 pc = some q) : xchk 56 pc xmd56 q = true := xtab_use (k := 1) (fun _ _ h => xtab_le (n := 24) h) (by decide) (fun j hj => match j, hj with | 0, _ => xgt56_0 | j + 1, hj => absurd hj (by omega)) h
theorem xgt57_0 : xtabok 57 (60 * 0) xmd57 = true := by decide +kernel
theorem xgt57_1 : xtabok 57 (60 * 1) xmd57 = true := by decide +kernel
theorem xgt57 {pc : Nat} {q : xI} (h : xmd57.2.2.2 pc = some q) : xchk 57 pc xmd57 q = true := xtab_use (k := 2) (fun _ _ h => xtab_le (n := 80) h) (by decide) (fun j hj => match j, hj with | 0, _ => xgt57_0 | 1, _ => xgt57_1 | j + 2, hj => absurd hj (by omega)) h
theorem xgt58_0 : xtabok 58 (60 * 0) xmd58 = true := by decide +kernel
theorem xgt58_1 : xtabok 58 (60 * 1) xmd58 = true := by decide +kernel
theorem xgt58 {pc : Nat} {q : xI} (h : xmd58.2.2.2 pc = some q) : xchk 58 pc xmd58 q = true := xtab_use (k := 2) (fun _ _ h => xtab_le (n := 86) h) (by decide) (fun j hj => match j, hj with | 0, _ => xgt58_0 | 1, _ => xgt58_1 | j + 2, hj => absurd hj (by omega)) h
theorem xgt59_0 : xtabok 59 (60 * 0) xmd59 = true := by decide +kernel
theorem xgt59 {pc : Nat} {q : xI} (h : xmd59.2.2.2 pc = some q) : xchk 59 pc xmd59 q = true := xtab_use (k := 1) (fun _ _ h => xtab_le (n := 42) h) (by decide) (fun j hj => match j, hj with | 0, _ => xgt59_0 | j + 1, hj => absurd hj (by omega)) h
theorem xgt60_0 : xtabok 60 (60 * 0) xmd60 = true := by decide +kernel
theorem xgt60 {pc : Nat} {q : xI} (h : xmd60.2.2.2 pc = some q) : xchk 60 pc xmd60 q = true := xtab_use (k := 1) (fun _ _ h => xtab_le (n := 28) h) (by decide) (fun j hj => match j, hj with | 0, _ => xgt60_0 | j + 1, hj => absurd hj (by omega)) h
theorem xgt61_0 : xtabok 61 (60 * 0) xmd61 = true := by decide +kernel
theorem xgt61 {pc : Nat} {q : xI} (h : xmd61.2.2.2 pc = some q) : xchk 61 pc xmd61 q = true := xtab_use (k := 1) (fun _ _ h => xtab_le (n := 15) h) (by decide) (fun j hj => match j, hj with | 0, _ => xgt61_0 | j + 1, hj => absurd hj (by omega)) h
theorem xgt62_0 : xtabok 62 (60 * 0) xmd62 = true := by decide +kernel
theorem xgt62_1 : xtabok 62 (60 * 1) xmd62 = true := by decide +kernel
theorem xgt62 {pc : Nat} {q : xI} (h : xmd62.2.2.2 pc = some q) : xchk 62 pc xmd62 q = true := xtab_use (k := 2) (fun _ _ h => xtab_le (n := 78) h) (by decide) (fun j hj => match j, hj with | 0, _ => xgt62_0 | 1, _ => xgt62_1 | j + 2, hj => absurd hj (by omega)) h
theorem xgt63_0 : xtabok 63 (60 * 0) xmd63 = true := by decide +kernel
theorem xgt63 {pc : Nat} {q : xI} (h : xmd63.2.2.2 pc = some q) : xchk 63 pc xmd63 q = true := xtab_use (k := 1) (fun _ _ h => xtab_le (n := 25) h) (by decide) (fun j hj => match j, hj with | 0, _ => xgt63_0 | j + 1, hj => absurd hj (by omega)) h
theorem xgt64_0 : xtabok 64 (60 * 0) xmd64 = true := by decide +kernel
theorem xgt64 {pc : Nat} {q : xI} (h : xmd64.2.2.2 pc = some q) : xchk 64 pc xmd64 q = true := xtab_use (k := 1) (fun _ _ h => xtab_le (n := 43) h) (by decide) (fun j hj => match j, hj with | 0, _ => xgt64_0 | j + 1, hj => absurd hj (by omega)) h
theorem xgt65_0 : xtabok 65 (60 * 0) xmd65 = true := by decide +kernel
theorem xgt65_1 : xtabok 65 (60 * 1) xmd65 = true := by decide +kernel
theorem xgt65 {pc : Nat} {q : xI} (h : xmd65.2.2.2 pc = some q) : xchk 65 pc xmd65 q = true := xtab_use (k := 2) (fun _ _ h => xtab_le (n := 89) h) (by decide) (fun j hj => match j, hj with | 0, _ => xgt65_0 | 1, _ => xgt65_1 | j + 2, hj => absurd hj (by omega)) h
theorem xgt66_0 : xtabok 66 (60 * 0) xmd66 = true := by decide +kernel
theorem xgt66 {pc : Nat} {q : xI} (h : xmd66.2.2.2 pc = some q) : xchk 66 pc xmd66 q = true := xtab_use (k := 1) (fun _ _ h => xtab_le (n := 31) h) (by decide) (fun j hj => match j, hj with | 0, _ => xgt66_0 | j + 1, hj => absurd hj (by omega)) h
theorem xgt67_0 : xtabok 67 (60 * 0) xmd67 = true := by decide +kernel
theorem xgt67 {pc : Nat} {q : xI} (h : xmd67.2.2.2 pc = some q) : xchk 67 pc xmd67 q = true := xtab_use (k := 1) (fun _ _ h => xtab_le (n := 25) h) (by decide) (fun j hj => match j, hj with | 0, _ => xgt67_0 | j + 1, hj => absurd hj (by omega)) h
theorem xgt68_0 : xtabok 68 (60 * 0) xmd68 = true := by decide +kernel
theorem xgt68 {pc : Nat} {q : xI} (h : xmd68.2.2.2 pc = some q) : xchk 68 pc xmd68 q = true := xtab_use (k := 1) (fun _ _ h => xtab_le (n := 22) h) (by decide) (fun j hj => match j, hj with | 0, _ => xgt68_0 | j + 1, hj => absurd hj (by omega)) h
theorem xgt69_0 : xtabok 69 (60 * 0) xmd69 = true := by decide +kernel
theorem xgt69_1 : xtabok 69 (60 * 1) xmd69 = true := by decide +kernel
theorem xgt69 {pc : Nat} {q : xI} (h : xmd69.2.2.2 pc = some q) : xchk 69 pc xmd69 q = true := xtab_use (k := 2) (fun _ _ h => xtab_le (n := 62) h) (by decide) (fun j hj => match j, hj with | 0, _ => xgt69_0 | 1, _ => xgt69_1 | j + 2, hj => absurd hj (by omega)) h
theorem xgt70_0 : xtabok 70 (60 * 0) xmd70 = true := by decide +kernel
theorem xgt70_1 : xtabok 70 (60 * 1) xmd70 = true := by decide +kernel
theorem xgt70 {pc : Nat} {q : xI} (h : xmd70.2.2.2 pc = some q) : xchk 70 pc xmd70 q = true := xtab_use (k := 2) (fun _ _ h => xtab_le (n := 60) h) (by decide) (fun j hj => match j, hj with | 0, _ => xgt70_0 | 1, _ => xgt70_1 | j + 2, hj => absurd hj (by omega)) h
theorem xgt71_0 : xtabok 71 (60 * 0) xmd71 = true := by decide +kernel
theorem xgt71_1 : xtabok 71 (60 * 1) xmd71 = true := by decide +kernel
theorem xgt71 {pc : Nat} {q : xI} (h : xmd71.2.2.2 pc = some q) : xchk 71 pc xmd71 q = true := xtab_use (k := 2) (fun _ _ h => xtab_le (n := 65) h) (by decide) (fun j hj => match j, hj with | 0, _ => xgt71_0 | 1, _ => xgt71_1 | j + 2, hj => absurd hj (by omega)) h
theorem xgt72_0 : xtabok 72 (60 * 0) xmd72 = true := by decide +kernel
theorem xgt72_1 : xtabok 72 (60 * 1) xmd72 = true := by decide +kernel
theorem xgt72 {pc : Nat} {q : xI} (h : xmd72.2.2.2 pc = some q) : xchk 72 pc xmd72 q = true := xtab_use (k := 2) (fun _ _ h => xtab_le (n := 74) h) (by decide) (fun j hj => match j, hj with | 0, _ => xgt72_0 | 1, _ => xgt72_1 | j + 2, hj => absurd hj (by omega)) h
theorem xgt73_0 : xtabok 73 (60 * 0) xmd73 = true := by decide +kernel
theorem xgt73 {pc : Nat} {q : xI} (h : xmd73.2.2.2 pc = some q) : xchk 73 pc xmd73 q = true := xtab_use (k := 1) (fun _ _ h => xtab_le (n := 57) h) (by decide) (fun j hj => match j, hj with | 0, _ => xgt73_0 | j + 1, hj => absurd hj (by omega)) h
theorem xgt74_0 : xtabok 74 (60 * 0) xmd74 = true := by decide +kernel
theorem xgt74 {pc : Nat} {q : xI} (h : xmd74.2.2.2 pc = some q) : xchk 74 pc xmd74 q = true := xtab_use (k := 1) (fun _ _ h => xtab_le (n := 56) h) (by decide) (fun j hj => match j, hj with | 0, _ => xgt74_0 | j + 1, hj => absurd hj (by omega)) h
theorem xgt75_0 : xtabok 75 (60 * 0) xmd75 = true := by decide +kernel
theorem xgt75_1 : xtabok 75 (60 * 1) xmd75 = true := by decide +kernel
theorem xgt75 {pc : Nat} {q : xI} (h : xmd75.2.2.2 pc = some q) : xchk 75 pc xmd75 q = true := xtab_use (k := 2) (fun _ _ h => xtab_le (n := 86) h) (by decide) (fun j hj => match j, hj with | 0, _ => xgt75_0 | 1, _ => xgt75_1 | j + 2, hj => absurd hj (by omega)) h
theorem xgt76_0 : xtabok 76 (60 * 0) xmd76 = true := by decide +kernel
theorem xgt76_1 : xtabok 76 (60 * 1) xmd76 = true := by decide +kernel
theorem xgt76 {pc : Nat} {q : xI} (h : xmd76.2.2.2 pc = some q) : xchk 76 pc xmd76 q = true := xtab_use (k := 2) (fun _ _ h => xtab_le (n := 60) h) (by decide) (fun j hj => match j, hj with | 0, _ => xgt76_0 | 1, _ => xgt76_1 | j + 2, hj => absurd hj (by omega)) h
theorem xgt77_0 : xtabok 77 (60 * 0) xmd77 = true := by decide +kernel
theorem xgt77 {pc : Nat} {q : xI} (h : xmd77.2.2.2 pc = some q) : xchk 77 pc xmd77 q = true := xtab_use (k := 1) (fun _ _ h => xtab_le (n := 58) h) (by decide) (fun j hj => match j, hj with | 0, _ => xgt77_0 | j + 1, hj => absurd hj (by omega)) h
theorem xgt78_0 : xtabok 78 (60 * 0) xmd78 = true := by decide +kernel
theorem xgt78 {pc : Nat} {q : xI} (h : xmd78.2.2.2 pc = some q) : xchk 78 pc xmd78 q = true := xtab_use (k := 1) (fun _ _ h => xtab_le (n := 7) h) (by decide) (fun j hj => match j, hj with | 0, _ => xgt78_0 | j + 1, hj => absurd hj (by omega)) h
theorem xgt79_0 : xtabok 79 (60 * 0) xmd79 = true := by decide +kernel
theorem xgt79_1 : xtabok 79 (60 * 1) xmd79 = true := by decide +kernel
theorem xgt79 {pc : Nat} {q : xI} (h : xmd79.2.2.2 pc = some q) : xchk 79 pc xmd79 q = true := xtab_use (k := 2) (fun _ _ h => xtab_le (n := 64) h) (by decide) (fun j hj => match j, hj with | 0, _ => xgt79_0 | 1, _ => xgt79_1 | j + 2, hj => absurd hj (by omega)) h
theorem xgt80_0 : xtabok 80 (60 * 0) xmd80 = true := by decide +kernel
theorem xgt80 {pc : Nat} {q : xI} (h : xmd80.2.2.2 pc = some q) : xchk 80 pc xmd80 q = true := xtab_use (k := 1) (fun _ _ h => xtab_le (n := 40) h) (by decide) (fun j hj => match j, hj with | 0, _ => xgt80_0 | j + 1, hj => absurd hj (by omega)) h
theorem xgt81_0 : xtabok 81 (60 * 0) xmd81 = true := by decide +kernel
theorem xgt81 {pc : Nat} {q : xI} (h : xmd81.2.2.2 pc = some q) : xchk 81 pc xmd81 q = true := xtab_use (k := 1) (fun _ _ h => xtab_le (n := 56) h) (by decide) (fun j hj => match j, hj with | 0, _ => xgt81_0 | j + 1, hj => absurd hj (by omega)) h
theorem xgt82_0 : xtabok 82 (60 * 0) xmd82 = true := by decide +kernel
theorem xgt82_1 : xtabok 82 (60 * 1) xmd82 = true := by decide +kernel
theorem xgt82_2 : xtabok 82 (60 * 2) xmd82 = true := by decide +kernel
theorem xgt82 {pc : Nat} {q : xI} (h : xmd82.2.2.2 pc = some q) : xchk 82 pc xmd82 q = true := xtab_use (k := 3) (fun _ _ h => xtab_le (n := 143) h) (by decide) (fun j hj => match j, hj with | 0, _ => xgt82_0 | 1, _ => xgt82_1 | 2, _ => xgt82_2 | j + 3, hj => absurd hj (by omega)) h
theorem xgt83_0 : xtabok 83 (60 * 0) xmd83 = true := by decide +kernel
theorem xgt83 {pc : Nat} {q : xI} (h : xmd83.2.2.2 pc = some q) : xchk 83 pc xmd83 q = true := xtab_use (k := 1) (fun _ _ h => xtab_le (n := 20) h) (by decide) (fun j hj => match j, hj with | 0, _ => xgt83_0 | j + 1, hj => absurd hj (by omega)) h
theorem xgt84_0 : xtabok 84 (60 * 0) xmd84 = true := by decide +kernel
theorem xgt84 {pc : Nat} {q : xI} (h : xmd84.2.2.2 pc = some q) : xchk 84 pc xmd84 q = true := xtab_use (k := 1) (fun _ _ h => xtab_le (n := 49) h) (by decide) (fun j hj => match j, hj with | 0, _ => xgt84_0 | j + 1, hj => absurd hj (by omega)) h
theorem xgt85_0 : xtabok 85 (60 * 0) xmd85 = true := by decide +kernel
theorem xgt85 {pc : Nat} {q : xI} (h : xmd85.2.2.2 pc = some q) : xchk 85 pc xmd85 q = true := xtab_use (k := 1) (fun _ _ h => xtab_le (n := 20) h) (by decide) (fun j hj => match j, hj with | 0, _ => xgt85_0 | j + 1, hj => absurd hj (by omega)) h
theorem xgt86_0 : xtabok 86 (60 * 0) xmd86 = true := by decide +kernel
theorem xgt86_1 : xtabok 86 (60 * 1) xmd86 = true := by decide +kernel
theorem xgt86 {pc : Nat} {q : xI} (h : xmd86.2.2.2 pc = some q) : xchk 86 pc xmd86 q = true := xtab_use (k := 2) (fun _ _ h => xtab_le (n := 70) h) (by decide) (fun j hj => match j, hj with | 0, _ => xgt86_0 | 1, _ => xgt86_1 | j + 2, hj => absurd hj (by omega)) h
theorem xgt87_0 : xtabok 87 (60 * 0) xmd87 = true := by decide +kernel
theorem xgt87_1 : xtabok 87 (60 * 1) xmd87 = true := by decide +kernel
theorem xgt87 {pc : Nat} {q : xI} (h : xmd87.2.2.2 pc = some q) : xchk 87 pc xmd87 q = true := xtab_use (k := 2) (fun _ _ h => xtab_le (n := 72) h) (by decide) (fun j hj => match j, hj with | 0, _ => xgt87_0 | 1, _ => xgt87_1 | j + 2, hj => absurd hj (by omega)) h
theorem xgt88_0 : xtabok 88 (60 * 0) xmd88 = true := by decide +kernel
theorem xgt88 {pc : Nat} {q : xI} (h : xmd88.2.2.2 pc = some q) : xchk 88 pc xmd88 q = true := xtab_use (k := 1) (fun _ _ h => xtab_le (n := 36) h) (by decide) (fun j hj => match j, hj with | 0, _ => xgt88_0 | j + 1, hj => absurd hj (by omega)) h
theorem xgt89_0 : xtabok 89 (60 * 0) xmd89 = true := by decide +kernel
theorem xgt89_1 : xtabok 89 (60 * 1) xmd89 = true := by decide +kernel
theorem xgt89 {pc : Nat} {q : xI} (h : xmd89.2.2.2 pc = some q) : xchk 89 pc xmd89 q = true := xtab_use (k := 2) (fun _ _ h => xtab_le (n := 64) h) (by decide) (fun j hj => match j, hj with | 0, _ => xgt89_0 | 1, _ => xgt89_1 | j + 2, hj => absurd hj (by omega)) h
theorem xgt90_0 : xtabok 90 (60 * 0) xmd90 = true := by decide +kernel
theorem xgt90_1 : xtabok 90 (60 * 1) xmd90 = true := by decide +kernel
theorem xgt90_2 : xtabok 90 (60 * 2) xmd90 = true := by decide +kernel
theorem xgt90 {pc : Nat} {q : xI} (h : xmd90.2.2.2 pc = some q) : xchk 90 pc xmd90 q = true := xtab_use (k := 3) (fun _ _ h => xtab_le (n := 168) h) (by decide) (fun j hj => match j, hj with | 0, _ => xgt90_0 | 1, _ => xgt90_1 | 2, _ => xgt90_2 | j + 3, hj => absurd hj (by omega)) h
theorem xgt91_0 : xtabok 91 (60 * 0) xmd91 = true := by decide +kernel
theorem xgt91_1 : xtabok 91 (60 * 1) xmd91 = true := by decide +kernel
theorem xgt91 {pc : Nat} {q : xI} (h : xmd91.2.2.2 pc = some q) : xchk 91 pc xmd91 q = true := xtab_use (k := 2) (fun _ _ h => xtab_le (n := 110) h) (by decide) (fun j hj => match j, hj with | 0, _ => xgt91_0 | 1, _ => xgt91_1 | j + 2, hj => absurd hj (by omega)) h
theorem xgt92_0 : xtabok 92 (60 * 0) xmd92 = true := by decide +kernel
theorem xgt92 {pc : Nat} {q : xI} (h : xmd92.2.2.2 pc = some q) : xchk 92 pc xmd92 q = true := xtab_use (k := 1) (fun _ _ h => xtab_le (n := 23) h) (by decide) (fun j hj => match j, hj with | 0, _ => xgt92_0 | j + 1, hj => absurd hj (by omega)) h
theorem xgt93_0 : xtabok 93 (60 * 0) xmd93 = true := by decide +kernel
theorem xgt93 {pc : Nat} {q : xI} (h : xmd93.2.2.2 pc = some q) : xchk 93 pc xmd93 q = true := xtab_use (k := 1) (fun _ _ h => xtab_le (n := 19) h) (by decide) (fun j hj => match j, hj with | 0, _ => xgt93_0 | j + 1, hj => absurd hj (by omega)) h
theorem xgt94_0 : xtabok 94 (60 * 0) xmd94 = true := by decide +kernel
theorem xgt94 {pc : Nat} {q : xI} (h : xmd94.2.2.2 pc = some q) : xchk 94 pc xmd94 q = true := xtab_use (k := 1) (fun _ _ h => xtab_le (n := 14) h) (by decide) (fun j hj => match j, hj with | 0, _ => xgt94_0 | j + 1, hj => absurd hj (by omega)) h
theorem xgt95_0 : xtabok 95 (60 * 0) xmd95 = true := by decide +kernel
theorem xgt95 {pc : Nat} {q : xI} (h : xmd95.2.2.2 pc = some q) : xchk 95 pc xmd95 q = true := xtab_use (k := 1) (fun _ _ h => xtab_le (n := 19) h) (by decide) (fun j hj => match j, hj with | 0, _ => xgt95_0 | j + 1, hj => absurd hj (by omega)) h
theorem xgt96_0 : xtabok 96 (60 * 0) xmd96 = true := by decide +kernel
theorem xgt96 {pc : Nat} {q : xI} (h : xmd96.2.2.2 pc = some q) : xchk 96 pc xmd96 q = true := xtab_use (k := 1) (fun _ _ h => xtab_le (n := 26) h) (by decide) (fun j hj => match j, hj with | 0, _ => xgt96_0 | j + 1, hj => absurd hj (by omega)) h
theorem xgt97_0 : xtabok 97 (60 * 0) xmd97 = true := by decide +kernel
theorem xgt97_1 : xtabok 97 (60 * 1) xmd97 = true := by decide +kernel
theorem xgt97_2 : xtabok 97 (60 * 2) xmd97 = true := by decide +kernel
theorem xgt97 {pc : Nat} {q : xI} (h : xmd97.2.2.2 pc = some q) : xchk 97 pc xmd97 q = true := xtab_use (k := 3) (fun _ _ h => xtab_le (n := 177) h) (by decide) (fun j hj => match j, hj with | 0, _ => xgt97_0 | 1, _ => xgt97_1 | 2, _ => xgt97_2 | j + 3, hj => absurd hj (by omega)) h
theorem xgt98_0 : xtabok 98 (60 * 0) xmd98 = true := by decide +kernel
theorem xgt98_1 : xtabok 98 (60 * 1) xmd98 = true := by decide +kernel
theorem xgt98 {pc : Nat} {q : xI} (h : xmd98.2.2.2 pc = some q) : xchk 98 pc xmd98 q = true := xtab_use (k := 2) (fun _ _ h => xtab_le (n := 99) h) (by decide) (fun j hj => match j, hj with | 0, _ => xgt98_0 | 1, _ => xgt98_1 | j + 2, hj => absurd hj (by omega)) h
theorem xgt99_0 : xtabok 99 (60 * 0) xmd99 = true := by decide +kernel
theorem xgt99_1 : xtabok 99 (60 * 1) xmd99 = true := by decide +kernel
theorem xgt99 {pc : Nat} {q : xI} (h : xmd99.2.2.2 pc = some q) : xchk 99 pc xmd99 q = true := xtab_use (k := 2) (fun _ _ h => xtab_le (n := 85) h) (by decide) (fun j hj => match j, hj with | 0, _ => xgt99_0 | 1, _ => xgt99_1 | j + 2, hj => absurd hj (by omega)) h
theorem xgt100_0 : xtabok 100 (60 * 0) xmd100 = true := by decide +kernel
theorem xgt100_1 : xtabok 100 (60 * 1) xmd100 = true := by decide +kernel
theorem xgt100 {pc : Nat} {q : xI} (h : xmd100.2.2.2 pc = some q) : xchk 100 pc xmd100 q = true := xtab_use (k := 2) (fun _ _ h => xtab_le (n := 72) h) (by decide) (fun j hj => match j, hj with | 0, _ => xgt100_0 | 1, _ => xgt100_1 | j + 2, hj => absurd hj (by omega)) h
theorem xgt101_0 : xtabok 101 (60 * 0) xmd101 = true := by decide +kernel
theorem xgt101 {pc : Nat} {q : xI} (h : xmd101.2.2.2 pc = some q) : xchk 101 pc xmd101 q = true := xtab_use (k := 1) (fun _ _ h => xtab_le (n := 7) h) (by decide) (fun j hj => match j, hj with | 0, _ => xgt101_0 | j + 1, hj => absurd hj (by omega)) h
theorem xgt102_0 : xtabok 102 (60 * 0) xmd102 = true := by decide +kernel
theorem xgt102 {pc : Nat} {q : xI} (h : xmd102.2.2.2 pc = some q) : xchk 102 pc xmd102 q = true := xtab_use (k := 1) (fun _ _ h => xtab_le (n := 8) h) (by decide) (fun j hj => match j, hj with | 0, _ => xgt102_0 | j + 1, hj => absurd hj (by omega)) h
theorem xgt103_0 : xtabok 103 (60 * 0) xmd103 = true := by decide +kernel
theorem xgt103_1 : xtabok 103 (60 * 1) xmd103 = true := by decide +kernel
theorem xgt103 {pc : Nat} {q : xI} (h : xmd103.2.2.2 pc = some q) : xchk 103 pc xmd103 q = true := xtab_use (k := 2) (fun _ _ h => xtab_le (n := 107) h) (by decide) (fun j hj => match j, hj with | 0, _ => xgt103_0 | 1, _ => xgt103_1 | j + 2, hj => absurd hj (by omega)) h
theorem xgt104_0 : xtabok 104 (60 * 0) xmd104 = true := by decide +kernel
theorem xgt104 {pc : Nat} {q : xI} (h : xmd104.2.2.2 pc = some q) : xchk 104 pc xmd104 q = true := xtab_use (k := 1) (fun _ _ h => xtab_le (n := 31) h) (by decide) (fun j hj => match j, hj with | 0, _ => xgt104_0 | j + 1, hj => absurd hj (by omega)) h
theorem xgt105_0 : xtabok 105 (60 * 0) xmd105 = true := by decide +kernel
theorem xgt105 {pc : Nat} {q : xI} (h : xmd105.2.2.2 pc = some q) : xchk 105 pc xmd105 q = true := xtab_use (k := 1) (fun _ _ h => xtab_le (n := 44) h) (by decide) (fun j hj => match j, hj with | 0, _ => xgt105_0 | j + 1, hj => absurd hj (by omega)) h
theorem xgt106_0 : xtabok 106 (60 * 0) xmd106 = true := by decide +kernel
theorem xgt106 {pc : Nat} {q : xI} (h : xmd106.2.2.2 pc = some q) : xchk 106 pc xmd106 q = true := xtab_use (k := 1) (fun _ _ h => xtab_le (n := 33) h) (by decide) (fun j hj => match j, hj with | 0, _ => xgt106_0 | j + 1, hj => absurd hj (by omega)) h
theorem xgt107_0 : xtabok 107 (60 * 0) xmd107 = true := by decide +kernel
theorem xgt107 {pc : Nat} {q : xI} (h : xmd107.2.2.2 pc = some q) : xchk 107 pc xmd107 q = true := xtab_use (k := 1) (fun _ _ h => xtab_le (n := 29) h) (by decide) (fun j hj => match j, hj with | 0, _ => xgt107_0 | j + 1, hj => absurd hj (by omega)) h
theorem xgt108_0 : xtabok 108 (60 * 0) xmd108 = true := by decide +kernel
theorem xgt108_1 : xtabok 108 (60 * 1) xmd108 = true := by decide +kernel
theorem xgt108 {pc : Nat} {q : xI} (h : xmd108.2.2.2 pc = some q) : xchk 108 pc xmd108 q = true := xtab_use (k := 2) (fun _ _ h => xtab_le (n := 60) h) (by decide) (fun j hj => match j, hj with | 0, _ => xgt108_0 | 1, _ => xgt108_1 | j + 2, hj => absurd hj (by omega)) h
theorem xgt109_0 : xtabok 109 (60 * 0) xmd109 = true := by decide +kernel
theorem xgt109_1 : xtabok 109 (60 * 1) xmd109 = true := by decide +kernel
theorem xgt109 {pc : Nat} {q : xI} (h : xmd109.2.2.2 pc = some q) : xchk 109 pc xmd109 q = true := xtab_use (k := 2) (fun _ _ h => xtab_le (n := 61) h) (by decide) (fun j hj => match j, hj with | 0, _ => xgt109_0 | 1, _ => xgt109_1 | j + 2, hj => absurd hj (by omega)) h
theorem xgt110_0 : xtabok 110 (60 * 0) xmd110 = true := by decide +kernel
theorem xgt110_1 : xtabok 110 (60 * 1) xmd110 = true := by decide +kernel
theorem xgt110 {pc : Nat} {q : xI} (h : xmd110.2.2.2 pc = some q) : xchk 110 pc xmd110 q = true := xtab_use (k := 2) (fun _ _ h => xtab_le (n := 74) h) (by decide) (fun j hj => match j, hj with | 0, _ => xgt110_0 | 1, _ => xgt110_1 | j + 2, hj => absurd hj (by omega)) h
theorem xgt111_0 : xtabok 111 (60 * 0) xmd111 = true := by decide +kernel
theorem xgt111 {pc : Nat} {q : xI} (h : xmd111.2.2.2 pc = some q) : xchk 111 pc xmd111 q = true := xtab_use (k := 1) (fun _ _ h => xtab_le (n := 26) h) (by decide) (fun j hj => match j, hj with | 0, _ => xgt111_0 | j + 1, hj => absurd hj (by omega)) h
theorem xgt112_0 : xtabok 112 (60 * 0) xmd112 = true := by decide +kernel
theorem xgt112 {pc : Nat} {q : xI} (h : xmd112.2.2.2 pc = some q) : xchk 112 pc xmd112 q = true := xtab_use (k := 1) (fun _ _ h => xtab_le (n := 23) h) (by decide) (fun j hj => match j, hj with | 0, _ => xgt112_0 | j + 1, hj => absurd hj (by omega)) h
theorem xgt113_0 : xtabok 113 (60 * 0) xmd113 = true := by decide +kernel
theorem xgt113_1 : xtabok 113 (60 * 1) xmd113 = true := by decide +kernel
theorem xgt113_2 : xtabok 113 (60 * 2) xmd113 = true := by decide +kernel
theorem xgt113_3 : xtabok 113 (60 * 3) xmd113 = true := by decide +kernel
theorem xgt113_4 : xtabok 113 (60 * 4) xmd113 = true := by decide +kernel
theorem xgt113 {pc : Nat} {q : xI} (h : xmd113.2.2.2 pc = some q) : xchk 113 pc xmd113 q = true := xtab_use (k := 5) (fun _ _ h => xtab_le (n := 268) h) (by decide) (fun j hj => match j, hj with | 0, _ => xgt113_0 | 1, _ => xgt113_1 | 2, _ => xgt113_2 | 3, _ => xgt113_3 | 4, _ => xgt113_4 | j + 5, hj => absurd hj (by omega)) h
theorem xgt114_0 : xtabok 114 (60 * 0) xmd114 = true := by decide +kernel
theorem xgt114 {pc : Nat} {q : xI} (h : xmd114.2.2.2 pc = some q) : xchk 114 pc xmd114 q = true := xtab_use (k := 1) (fun _ _ h => xtab_le (n := 12) h) (by decide) (fun j hj => match j, hj with | 0, _ => xgt114_0 | j + 1, hj => absurd hj (by omega)) h
theorem xgt115_0 : xtabok 115 (60 * 0) xmd115 = true := by decide +kernel
theorem xgt115 {pc : Nat} {q : xI} (h : xmd115.2.2.2 pc = some q) : xchk 115 pc xmd115 q = true := xtab_use (k := 1) (fun _ _ h => xtab_le (n := 17) h) (by decide) (fun j hj => match j, hj with | 0, _ => xgt115_0 | j + 1, hj => absurd hj (by omega)) h
theorem xgt116_0 : xtabok 116 (60 * 0) xmd116 = true := by decide +kernel
theorem xgt116 {pc : Nat} {q : xI} (h : xmd116.2.2.2 pc = some q) : xchk 116 pc xmd116 q = true := xtab_use (k := 1) (fun _ _ h => xtab_le (n := 14) h) (by decide) (fun j hj => match j, hj with | 0, _ => xgt116_0 | j + 1, hj => absurd hj (by omega)) h
theorem xgt117_0 : xtabok 117 (60 * 0) xmd117 = true := by decide +kernel
theorem xgt117 {pc : Nat} {q : xI} (h : xmd117.2.2.2 pc = some q) : xchk 117 pc xmd117 q = true := xtab_use (k := 1) (fun _ _ h => xtab_le (n := 14) h) (by decide) (fun j hj => match j, hj with | 0, _ => xgt117_0 | j + 1, hj => absurd hj (by omega)) h
theorem xgt118_0 : xtabok 118 (60 * 0) xmd118 = true := by decide +kernel
theorem xgt118 {pc : Nat} {q : xI} (h : xmd118.2.2.2 pc = some q) : xchk 118 pc xmd118 q = true := xtab_use (k := 1) (fun _ _ h => xtab_le (n := 15) h) (by decide) (fun j hj => match j, hj with | 0, _ => xgt118_0 | j + 1, hj => absurd hj (by omega)) h
theorem xgt119_0 : xtabok 119 (60 * 0) xmd119 = true := by decide +kernel
theorem xgt119_1 : xtabok 119 (60 * 1) xmd119 = true := by decide +kernel
theorem xgt119 {pc : Nat} {q : xI} (h : xmd119.2.2.2 pc = some q) : xchk 119 pc xmd119 q = true := xtab_use (k := 2) (fun _ _ h => xtab_le (n := 92) h) (by decide) (fun j hj => match j, hj with | 0, _ => xgt119_0 | 1, _ => xgt119_1 | j + 2, hj => absurd hj (by omega)) h
theorem xgt120_0 : xtabok 120 (60 * 0) xmd120 = true := by decide +kernel
theorem xgt120_1 : xtabok 120 (60 * 1) xmd120 = true := by decide +kernel
theorem xgt120 {pc : Nat} {q : xI} (h : xmd120.2.2.2 pc = some q) : xchk 120 pc xmd120 q = true := xtab_use (k := 2) (fun _ _ h => xtab_le (n := 83) h) (by decide) (fun j hj => match j, hj with | 0, _ => xgt120_0 | 1, _ => xgt120_1 | j + 2, hj => absurd hj (by omega)) h
theorem xgt121_0 : xtabok 121 (60 * 0) xmd121 = true := by decide +kernel
theorem xgt121_1 : xtabok 121 (60 * 1) xmd121 = true := by decide +kernel
theorem xgt121 {pc : Nat} {q : xI} (h : xmd121.2.2.2 pc = some q) : xchk 121 pc xmd121 q = true := xtab_use (k := 2) (fun _ _ h => xtab_le (n := 85) h) (by decide) (fun j hj => match j, hj with | 0, _ => xgt121_0 | 1, _ => xgt121_1 | j + 2, hj => absurd hj (by omega)) h
theorem xgt122_0 : xtabok 122 (60 * 0) xmd122 = true := by decide +kernel
theorem xgt122_1 : xtabok 122 (60 * 1) xmd122 = true := by decide +kernel
theorem xgt122 {pc : Nat} {q : xI} (h : xmd122.2.2.2 pc = some q) : xchk 122 pc xmd122 q = true := xtab_use (k := 2) (fun _ _ h => xtab_le (n := 68) h) (by decide) (fun j hj => match j, hj with | 0, _ => xgt122_0 | 1, _ => xgt122_1 | j + 2, hj => absurd hj (by omega)) h
theorem xgt123_0 : xtabok 123 (60 * 0) xmd123 = true := by decide +kernel
theorem xgt123_1 : xtabok 123 (60 * 1) xmd123 = true := by decide +kernel
theorem xgt123 {pc : Nat} {q : xI} (h : xmd123.2.2.2 pc = some q) : xchk 123 pc xmd123 q = true := xtab_use (k := 2) (fun _ _ h => xtab_le (n := 91) h) (by decide) (fun j hj => match j, hj with | 0, _ => xgt123_0 | 1, _ => xgt123_1 | j + 2, hj => absurd hj (by omega)) h
theorem xgt124_0 : xtabok 124 (60 * 0) xmd124 = true := by decide +kernel
theorem xgt124_1 : xtabok 124 (60 * 1) xmd124 = true := by decide +kernel
theorem xgt124 {pc : Nat} {q : xI} (h : xmd124.2.2.2 pc = some q) : xchk 124 pc xmd124 q = true := xtab_use (k := 2) (fun _ _ h => xtab_le (n := 113) h) (by decide) (fun j hj => match j, hj with | 0, _ => xgt124_0 | 1, _ => xgt124_1 | j + 2, hj => absurd hj (by omega)) h
theorem xgt125_0 : xtabok 125 (60 * 0) xmd125 = true := by decide +kernel
theorem xgt125_1 : xtabok 125 (60 * 1) xmd125 = true := by decide +kernel
theorem xgt125 {pc : Nat} {q : xI} (h : xmd125.2.2.2 pc = some q) : xchk 125 pc xmd125 q = true := xtab_use (k := 2) (fun _ _ h => xtab_le (n := 81) h) (by decide) (fun j hj => match j, hj with | 0, _ => xgt125_0 | 1, _ => xgt125_1 | j + 2, hj => absurd hj (by omega)) h
theorem xgt126_0 : xtabok 126 (60 * 0) xmd126 = true := by decide +kernel
theorem xgt126_1 : xtabok 126 (60 * 1) xmd126 = true := by decide +kernel
theorem xgt126 {pc : Nat} {q : xI} (h : xmd126.2.2.2 pc = some q) : xchk 126 pc xmd126 q = true := xtab_use (k := 2) (fun _ _ h => xtab_le (n := 71) h) (by decide) (fun j hj => match j, hj with | 0, _ => xgt126_0 | 1, _ => xgt126_1 | j + 2, hj => absurd hj (by omega)) h
theorem xgt127_0 : xtabok 127 (60 * 0) xmd127 = true := by decide +kernel
theorem xgt127_1 : xtabok 127 (60 * 1) xmd127 = true := by decide +kernel
theorem xgt127 {pc : Nat} {q : xI} (h : xmd127.2.2.2 pc = some q) : xchk 127 pc xmd127 q = true := xtab_use (k := 2) (fun _ _ h => xtab_le (n := 104) h) (by decide) (fun j hj => match j, hj with | 0, _ => xgt127_0 | 1, _ => xgt127_1 | j + 2, hj => absurd hj (by omega)) h
theorem xgt128_0 : xtabok 128 (60 * 0) xmd128 = true := by decide +kernel
theorem xgt128_1 : xtabok 128 (60 * 1) xmd128 = true := by decide +kernel
theorem xgt128_2 : xtabok 128 (60 * 2) xmd128 = true := by decide +kernel
theorem xgt128 {pc : Nat} {q : xI} (h : xmd128.2.2.2 pc = some q) : xchk 128 pc xmd128 q = true := xtab_use (k := 3) (fun _ _ h => xtab_le (n := 129) h) (by decide) (fun j hj => match j, hj with | 0, _ => xgt128_0 | 1, _ => xgt128_1 | 2, _ => xgt128_2 | j + 3, hj => absurd hj (by omega)) h
theorem xgt129_0 : xtabok 129 (60 * 0) xmd129 = true := by decide +kernel
theorem xgt129_1 : xtabok 129 (60 * 1) xmd129 = true := by decide +kernel
theorem xgt129_2 : xtabok 129 (60 * 2) xmd129 = true := by decide +kernel
theorem xgt129_3 : xtabok 129 (60 * 3) xmd129 = true := by decide +kernel
theorem xgt129 {pc : Nat} {q : xI} (h : xmd129.2.2.2 pc = some q) : xchk 129 pc xmd129 q = true := xtab_use (k := 4) (fun _ _ h => xtab_le (n := 238) h) (by decide) (fun j hj => match j, hj with | 0, _ => xgt129_0 | 1, _ => xgt129_1 | 2, _ => xgt129_2 | 3, _ => xgt129_3 | j + 4, hj => absurd hj (by omega)) h
theorem xgt130_0 : xtabok 130 (60 * 0) xmd130 = true := by decide +kernel
theorem xgt130 {pc : Nat} {q : xI} (h : xmd130.2.2.2 pc = some q) : xchk 130 pc xmd130 q = true := xtab_use (k := 1) (fun _ _ h => xtab_le (n := 46) h) (by decide) (fun j hj => match j, hj with | 0, _ => xgt130_0 | j + 1, hj => absurd hj (by omega)) h
theorem xgt131_0 : xtabok 131 (60 * 0) xmd131 = true := by decide +kernel
theorem xgt131 {pc : Nat} {q : xI} (h : xmd131.2.2.2 pc = some q) : xchk 131 pc xmd131 q = true := xtab_use (k := 1) (fun _ _ h => xtab_le (n := 59) h) (by decide) (fun j hj => match j, hj with | 0, _ => xgt131_0 | j + 1, hj => absurd hj (by omega)) h
theorem xgt132_0 : xtabok 132 (60 * 0) xmd132 = true := by decide +kernel
theorem xgt132 {pc : Nat} {q : xI} (h : xmd132.2.2.2 pc = some q) : xchk 132 pc xmd132 q = true := xtab_use (k := 1) (fun _ _ h => xtab_le (n := 46) h) (by decide) (fun j hj => match j, hj with | 0, _ => xgt132_0 | j + 1, hj => absurd hj (by omega)) h
theorem xgt133_0 : xtabok 133 (60 * 0) xmd133 = true := by decide +kernel
theorem xgt133 {pc : Nat} {q : xI} (h : xmd133.2.2.2 pc = some q) : xchk 133 pc xmd133 q = true := xtab_use (k := 1) (fun _ _ h => xtab_le (n := 59) h) (by decide) (fun j hj => match j, hj with | 0, _ => xgt133_0 | j + 1, hj => absurd hj (by omega)) h
theorem xgt134_0 : xtabok 134 (60 * 0) xmd134 = true := by decide +kernel
theorem xgt134 {pc : Nat} {q : xI} (h : xmd134.2.2.2 pc = some q) : xchk 134 pc xmd134 q = true := xtab_use (k := 1) (fun _ _ h => xtab_le (n := 57) h) (by decide) (fun j hj => match j, hj with | 0, _ => xgt134_0 | j + 1, hj => absurd hj (by omega)) h
theorem xgt135_0 : xtabok 135 (60 * 0) xmd135 = true := by decide +kernel
theorem xgt135 {pc : Nat} {q : xI} (h : xmd135.2.2.2 pc = some q) : xchk 135 pc xmd135 q = true := xtab_use (k := 1) (fun _ _ h => xtab_le (n := 36) h) (by decide) (fun j hj => match j, hj with | 0, _ => xgt135_0 | j + 1, hj => absurd hj (by omega)) h
theorem xgt136_0 : xtabok 136 (60 * 0) xmd136 = true := by decide +kernel
theorem xgt136 {pc : Nat} {q : xI} (h : xmd136.2.2.2 pc = some q) : xchk 136 pc xmd136 q = true := xtab_use (k := 1) (fun _ _ h => xtab_le (n := 57) h) (by decide) (fun j hj => match j, hj with | 0, _ => xgt136_0 | j + 1, hj => absurd hj (by omega)) h
theorem xgt137_0 : xtabok 137 (60 * 0) xmd137 = true := by decide +kernel
theorem xgt137_1 : xtabok 137 (60 * 1) xmd137 = true := by decide +kernel
theorem xgt137_2 : xtabok 137 (60 * 2) xmd137 = true := by decide +kernel
theorem xgt137_3 : xtabok 137 (60 * 3) xmd137 = true := by decide +kernel
theorem xgt137 {pc : Nat} {q : xI} (h : xmd137.2.2.2 pc = some q) : xchk 137 pc xmd137 q = true := xtab_use (k := 4) (fun _ _ h => xtab_le (n := 181) h) (by decide) (fun j hj => match j, hj with | 0, _ => xgt137_0 | 1, _ => xgt137_1 | 2, _ => xgt137_2 | 3, _ => xgt137_3 | j + 4, hj => absurd hj (by omega)) h
theorem xgt138_0 : xtabok 138 (60 * 0) xmd138 = true := by decide +kernel
theorem xgt138 {pc : Nat} {q : xI} (h : xmd138.2.2.2 pc = some q) : xchk 138 pc xmd138 q = true := xtab_use (k := 1) (fun _ _ h => xtab_le (n := 19) h) (by decide) (fun j hj => match j, hj with | 0, _ => xgt138_0 | j + 1, hj => absurd hj (by omega)) h
theorem xgt139_0 : xtabok 139 (60 * 0) xmd139 = true := by decide +kernel
theorem xgt139_1 : xtabok 139 (60 * 1) xmd139 = true := by decide +kernel
theorem xgt139_2 : xtabok 139 (60 * 2) xmd139 = true := by decide +kernel
theorem xgt139_3 : xtabok 139 (60 * 3) xmd139 = true := by decide +kernel
theorem xgt139_4 : xtabok 139 (60 * 4) xmd139 = true := by decide +kernel
theorem xgt139 {pc : Nat} {q : xI} (h : xmd139.2.2.2 pc = some q) : xchk 139 pc xmd139 q = true := xtab_use (k := 5) (fun _ _ h => xtab_le (n := 242) h) (by decide) (fun j hj => match j, hj with | 0, _ => xgt139_0 | 1, _ => xgt139_1 | 2, _ => xgt139_2 | 3, _ => xgt139_3 | 4, _ => xgt139_4 | j + 5, hj => absurd hj (by omega)) h
theorem xgt140_0 : xtabok 140 (60 * 0) xmd140 = true := by decide +kernel
theorem xgt140 {pc : Nat} {q : xI} (h : xmd140.2.2.2 pc = some q) : xchk 140 pc xmd140 q = true := xtab_use (k := 1) (fun _ _ h => xtab_le (n := 25) h) (by decide) (fun j hj => match j, hj with | 0, _ => xgt140_0 | j + 1, hj => absurd hj (by omega)) h
theorem xgt141_0 : xtabok 141 (60 * 0) xmd141 = true := by decide +kernel
theorem xgt141_1 : xtabok 141 (60 * 1) xmd141 = true := by decide +kernel
theorem xgt141 {pc : Nat} {q : xI} (h : xmd141.2.2.2 pc = some q) : xchk 141 pc xmd141 q = true := xtab_use (k := 2) (fun _ _ h => xtab_le (n := 104) h) (by decide) (fun j hj => match j, hj with | 0, _ => xgt141_0 | 1, _ => xgt141_1 | j + 2, hj => absurd hj (by omega)) h
theorem xgt142_0 : xtabok 142 (60 * 0) xmd142 = true := by decide +kernel
theorem xgt142 {pc : Nat} {q : xI} (h : xmd142.2.2.2 pc = some q) : xchk 142 pc xmd142 q = true := xtab_use (k := 1) (fun _ _ h => xtab_le (n := 23) h) (by decide) (fun j hj => match j, hj with | 0, _ => xgt142_0 | j + 1, hj => absurd hj (by omega)) h
theorem xgt143_0 : xtabok 143 (60 * 0) xmd143 = true := by decide +kernel
theorem xgt143 {pc : Nat} {q : xI} (h : xmd143.2.2.2 pc = some q) : xchk 143 pc xmd143 q = true := xtab_use (k := 1) (fun _ _ h => xtab_le (n := 41) h) (by decide) (fun j hj => match j, hj with | 0, _ => xgt143_0 | j + 1, hj => absurd hj (by omega)) h
theorem xgt144_0 : xtabok 144 (60 * 0) xmd144 = true := by decide +kernel
theorem xgt144_1 : xtabok 144 (60 * 1) xmd144 = true := by decide +kernel
theorem xgt144_2 : xtabok 144 (60 * 2) xmd144 = true := by decide +kernel
theorem xgt144 {pc : Nat} {q : xI} (h : xmd144.2.2.2 pc = some q) : xchk 144 pc xmd144 q = true := xtab_use (k := 3) (fun _ _ h => xtab_le (n := 161) h) (by decide) (fun j hj => match j, hj with | 0, _ => xgt144_0 | 1, _ => xgt144_1 | 2, _ => xgt144_2 | j + 3, hj => absurd hj (by omega)) h
theorem xgt145_0 : xtabok 145 (60 * 0) xmd145 = true := by decide +kernel
theorem xgt145 {pc : Nat} {q : xI} (h : xmd145.2.2.2 pc = some q) : xchk 145 pc xmd145 q = true := xtab_use (k := 1) (fun _ _ h => xtab_le (n := 26) h) (by decide) (fun j hj => match j, hj with | 0, _ => xgt145_0 | j + 1, hj => absurd hj (by omega)) h
theorem xgt146_0 : xtabok 146 (60 * 0) xmd146 = true := by decide +kernel
theorem xgt146_1 : xtabok 146 (60 * 1) xmd146 = true := by decide +kernel
theorem xgt146_2 : xtabok 146 (60 * 2) xmd146 = true := by decide +kernel
theorem xgt146_3 : xtabok 146 (60 * 3) xmd146 = true := by decide +kernel
theorem xgt146_4 : xtabok 146 (60 * 4) xmd146 = true := by decide +kernel
theorem xgt146 {pc : Nat} {q : xI} (h : xmd146.2.2.2 pc = some q) : xchk 146 pc xmd146 q = true := xtab_use (k := 5) (fun _ _ h => xtab_le (n := 288) h) (by decide) (fun j hj => match j, hj with | 0, _ => xgt146_0 | 1, _ => xgt146_1 | 2, _ => xgt146_2 | 3, _ => xgt146_3 | 4, _ => xgt146_4 | j + 5, hj => absurd hj (by omega)) h
theorem xgt147_0 : xtabok 147 (60 * 0) xmd147 = true := by decide +kernel
theorem xgt147 {pc : Nat} {q : xI} (h : xmd147.2.2.2 pc = some q) : xchk 147 pc xmd147 q = true := xtab_use (k := 1) (fun _ _ h => xtab_le (n := 52) h) (by decide) (fun j hj => match j, hj with | 0, _ => xgt147_0 | j + 1, hj => absurd hj (by omega)) h
theorem xgt148_0 : xtabok 148 (60 * 0) xmd148 = true := by decide +kernel
theorem xgt148 {pc : Nat} {q : xI} (h : xmd148.2.2.2 pc = some q) : xchk 148 pc xmd148 q = true := xtab_use (k := 1) (fun _ _ h => xtab_le (n := 29) h) (by decide) (fun j hj => match j, hj with | 0, _ => xgt148_0 | j + 1, hj => absurd hj (by omega)) h
theorem xgt149_0 : xtabok 149 (60 * 0) xmd149 = true := by decide +kernel
theorem xgt149_1 : xtabok 149 (60 * 1) xmd149 = true := by decide +kernel
theorem xgt149_2 : xtabok 149 (60 * 2) xmd149 = true := by decide +kernel
theorem xgt149_3 : xtabok 149 (60 * 3) xmd149 = true := by decide +kernel
theorem xgt149 {pc : Nat} {q : xI} (h : xmd149.2.2.2 pc = some q) : xchk 149 pc xmd149 q = true := xtab_use (k := 4) (fun _ _ h => xtab_le (n := 190) h) (by decide) (fun j hj => match j, hj with | 0, _ => xgt149_0 | 1, _ => xgt149_1 | 2, _ => xgt149_2 | 3, _ => xgt149_3 | j + 4, hj => absurd hj (by omega)) h
theorem xgt150_0 : xtabok 150 (60 * 0) xmd150 = true := by decide +kernel
theorem xgt150_1 : xtabok 150 (60 * 1) xmd150 = true := by decide +kernel
theorem xgt150_2 : xtabok 150 (60 * 2) xmd150 = true := by decide +kernel
theorem xgt150_3 : xtabok 150 (60 * 3) xmd150 = true := by decide +kernel
theorem xgt150_4 : xtabok 150 (60 * 4) xmd150 = true := by decide +kernel
theorem xgt150_5 : xtabok 150 (60 * 5) xmd150 = true := by decide +kernel
theorem xgt150 {pc : Nat} {q : xI} (h : xmd150.2.2.2 pc = some q) : xchk 150 pc xmd150 q = true := xtab_use (k := 6) (fun _ _ h => xtab_le (n := 333) h) (by decide) (fun j hj => match j, hj with | 0, _ => xgt150_0 | 1, _ => xgt150_1 | 2, _ => xgt150_2 | 3, _ => xgt150_3 | 4, _ => xgt150_4 | 5, _ => xgt150_5 | j + 6, hj => absurd hj (by omega)) h
theorem xgt151_0 : xtabok 151 (60 * 0) xmd151 = true := by decide +kernel
theorem xgt151 {pc : Nat} {q : xI} (h : xmd151.2.2.2 pc = some q) : xchk 151 pc xmd151 q = true := xtab_use (k := 1) (fun _ _ h => xtab_le (n := 30) h) (by decide) (fun j hj => match j, hj with | 0, _ => xgt151_0 | j + 1, hj => absurd hj (by omega)) h
theorem xgt152_0 : xtabok 152 (60 * 0) xmd152 = true := by decide +kernel
theorem xgt152_1 : xtabok 152 (60 * 1) xmd152 = true := by decide +kernel
theorem xgt152_2 : xtabok 152 (60 * 2) xmd152 = true := by decide +kernel
theorem xgt152 {pc : Nat} {q : xI} (h : xmd152.2.2.2 pc = some q) : xchk 152 pc xmd152 q = true := xtab_use (k := 3) (fun _ _ h => xtab_le (n := 130) h) (by decide) (fun j hj => match j, hj with | 0, _ => xgt152_0 | 1, _ => xgt152_1 | 2, _ => xgt152_2 | j + 3, hj => absurd hj (by omega)) h
theorem xgt153_0 : xtabok 153 (60 * 0) xmd153 = true := by decide +kernel
theorem xgt153 {pc : Nat} {q : xI} (h : xmd153.2.2.2 pc = some q) : xchk 153 pc xmd153 q = true := xtab_use (k := 1) (fun _ _ h => xtab_le (n := 18) h) (by decide) (fun j hj => match j, hj with | 0, _ => xgt153_0 | j + 1, hj => absurd hj (by omega)) h
theorem xgt154_0 : xtabok 154 (60 * 0) xmd154 = true := by decide +kernel
theorem xgt154_1 : xtabok 154 (60 * 1) xmd154 = true := by decide +kernel
theorem xgt154 {pc : Nat} {q : xI} (h : xmd154.2.2.2 pc = some q) : xchk 154 pc xmd154 q = true := xtab_use (k := 2) (fun _ _ h => xtab_le (n := 82) h) (by decide) (fun j hj => match j, hj with | 0, _ => xgt154_0 | 1, _ => xgt154_1 | j + 2, hj => absurd hj (by omega)) h
theorem xgt155_0 : xtabok 155 (60 * 0) xmd155 = true := by decide +kernel
theorem xgt155 {pc : Nat} {q : xI} (h : xmd155.2.2.2 pc = some q) : xchk 155 pc xmd155 q = true := xtab_use (k := 1) (fun _ _ h => xtab_le (n := 8) h) (by decide) (fun j hj => match j, hj with | 0, _ => xgt155_0 | j + 1, hj => absurd hj (by omega)) h
theorem xgt156_0 : xtabok 156 (60 * 0) xmd156 = true := by decide +kernel
theorem xgt156 {pc : Nat} {q : xI} (h : xmd156.2.2.2 pc = some q) : xchk 156 pc xmd156 q = true := xtab_use (k := 1) (fun _ _ h => xtab_le (n := 8) h) (by decide) (fun j hj => match j, hj with | 0, _ => xgt156_0 | j + 1, hj => absurd hj (by omega)) h
theorem xgt157_0 : xtabok 157 (60 * 0) xmd157 = true := by decide +kernel
theorem xgt157 {pc : Nat} {q : xI} (h : xmd157.2.2.2 pc = some q) : xchk 157 pc xmd157 q = true := xtab_use (k := 1) (fun _ _ h => xtab_le (n := 51) h) (by decide) (fun j hj => match j, hj with | 0, _ => xgt157_0 | j + 1, hj => absurd hj (by omega)) h
theorem xgt158_0 : xtabok 158 (60 * 0) xmd158 = true := by decide +kernel
theorem xgt158 {pc : Nat} {q : xI} (h : xmd158.2.2.2 pc = some q) : xchk 158 pc xmd158 q = true := xtab_use (k := 1) (fun _ _ h => xtab_le (n := 31) h) (by decide) (fun j hj => match j, hj with | 0, _ => xgt158_0 | j + 1, hj => absurd hj (by omega)) h
theorem xgt159_0 : xtabok 159 (60 * 0) xmd159 = true := by decide +kernel
theorem xgt159_1 : xtabok 159 (60 * 1) xmd159 = true := by decide +kernel
theorem xgt159 {pc : Nat} {q : xI} (h : xmd159.2.2.2 pc = some q) : xchk 159 pc xmd159 q = true := xtab_use (k := 2) (fun _ _ h => xtab_le (n := 83) h) (by decide) (fun j hj => match j, hj with | 0, _ => xgt159_0 | 1, _ => xgt159_1 | j + 2, hj => absurd hj (by omega)) h
theorem xgt160_0 : xtabok 160 (60 * 0) xmd160 = true := by decide +kernel
theorem xgt160_1 : xtabok 160 (60 * 1) xmd160 = true := by decide +kernel
theorem xgt160_2 : xtabok 160 (60 * 2) xmd160 = true := by decide +kernel
theorem xgt160_3 : xtabok 160 (60 * 3) xmd160 = true := by decide +kernel
theorem xgt160_4 : xtabok 160 (60 * 4) xmd160 = true := by decide +kernel
theorem xgt160 {pc : Nat} {q : xI} (h : xmd160.2.2.2 pc = some q) : xchk 160 pc xmd160 q = true := xtab_use (k := 5) (fun _ _ h => xtab_le (n := 281) h) (by decide) (fun j hj => match j, hj with | 0, _ => xgt160_0 | 1, _ => xgt160_1 | 2, _ => xgt160_2 | 3, _ => xgt160_3 | 4, _ => xgt160_4 | j + 5, hj => absurd hj (by omega)) h
theorem xgt161_0 : xtabok 161 (60 * 0) xmd161 = true := by decide +kernel
theorem xgt161_1 : xtabok 161 (60 * 1) xmd161 = true := by decide +kernel
theorem xgt161_2 : xtabok 161 (60 * 2) xmd161 = true := by decide +kernel
theorem xgt161_3 : xtabok 161 (60 * 3) xmd161 = true := by decide +kernel
theorem xgt161_4 : xtabok 161 (60 * 4) xmd161 = true := by decide +kernel
theorem xgt161_5 : xtabok 161 (60 * 5) xmd161 = true := by decide +kernel
theorem xgt161 {pc : Nat} {q : xI} (h : xmd161.2.2.2 pc = some q) : xchk 161 pc xmd161 q = true := xtab_use (k := 6) (fun _ _ h => xtab_le (n := 333) h) (by decide) (fun j hj => match j, hj with | 0, _ => xgt161_0 | 1, _ => xgt161_1 | 2, _ => xgt161_2 | 3, _ => xgt161_3 | 4, _ => xgt161_4 | 5, _ => xgt161_5 | j + 6, hj => absurd hj (by omega)) h
theorem xgt162_0 : xtabok 162 (60 * 0) xmd162 = true := by decide +kernel
theorem xgt162_1 : xtabok 162 (60 * 1) xmd162 = true := by decide +kernel
theorem xgt162 {pc : Nat} {q : xI} (h : xmd162.2.2.2 pc = some q) : xchk 162 pc xmd162 q = true := xtab_use (k := 2) (fun _ _ h => xtab_le (n := 99) h) (by decide) (fun j hj => match j, hj with | 0, _ => xgt162_0 | 1, _ => xgt162_1 | j + 2, hj => absurd hj (by omega)) h
theorem xgt163_0 : xtabok 163 (60 * 0) xmd163 = true := by decide +kernel
theorem xgt163_1 : xtabok 163 (60 * 1) xmd163 = true := by decide +kernel
theorem xgt163 {pc : Nat} {q : xI} (h : xmd163.2.2.2 pc = some q) : xchk 163 pc xmd163 q = true := xtab_use (k := 2) (fun _ _ h => xtab_le (n := 97) h) (by decide) (fun j hj => match j, hj with | 0, _ => xgt163_0 | 1, _ => xgt163_1 | j + 2, hj => absurd hj (by omega)) h
theorem xgt164_0 : xtabok 164 (60 * 0) xmd164 = true := by decide +kernel
theorem xgt164 {pc : Nat} {q : xI} (h : xmd164.2.2.2 pc = some q) : xchk 164 pc xmd164 q = true := xtab_use (k := 1) (fun _ _ h => xtab_le (n := 18) h) (by decide) (fun j hj => match j, hj with | 0, _ => xgt164_0 | j + 1, hj => absurd hj (by omega)) h
theorem xgt165_0 : xtabok 165 (60 * 0) xmd165 = true := by decide +kernel
theorem xgt165 {pc : Nat} {q : xI} (h : xmd165.2.2.2 pc = some q) : xchk 165 pc xmd165 q = true := xtab_use (k := 1) (fun _ _ h => xtab_le (n := 15) h) (by decide) (fun j hj => match j, hj with | 0, _ => xgt165_0 | j + 1, hj => absurd hj (by omega)) h
theorem xgt166_0 : xtabok 166 (60 * 0) xmd166 = true := by decide +kernel
theorem xgt166 {pc : Nat} {q : xI} (h : xmd166.2.2.2 pc = some q) : xchk 166 pc xmd166 q = true := xtab_use (k := 1) (fun _ _ h => xtab_le (n := 22) h) (by decide) (fun j hj => match j, hj with | 0, _ => xgt166_0 | j + 1, hj => absurd hj (by omega)) h
theorem xgt167_0 : xtabok 167 (60 * 0) xmd167 = true := by decide +kernel
theorem xgt167_1 : xtabok 167 (60 * 1) xmd167 = true := by decide +kernel
theorem xgt167 {pc : Nat} {q : xI} (h : xmd167.2.2.2 pc = some q) : xchk 167 pc xmd167 q = true := xtab_use (k := 2) (fun _ _ h => xtab_le (n := 95) h) (by decide) (fun j hj => match j, hj with | 0, _ => xgt167_0 | 1, _ => xgt167_1 | j + 2, hj => absurd hj (by omega)) h
theorem xgt168_0 : xtabok 168 (60 * 0) xmd168 = true := by decide +kernel
theorem xgt168_1 : xtabok 168 (60 * 1) xmd168 = true := by decide +kernel
theorem xgt168_2 : xtabok 168 (60 * 2) xmd168 = true := by decide +kernel
theorem xgt168_3 : xtabok 168 (60 * 3) xmd168 = true := by decide +kernel
theorem xgt168_4 : xtabok 168 (60 * 4) xmd168 = true := by decide +kernel
theorem xgt168_5 : xtabok 168 (60 * 5) xmd168 = true := by decide +kernel
theorem xgt168 {pc : Nat} {q : xI} (h : xmd168.2.2.2 pc = some q) : xchk 168 pc xmd168 q = true := xtab_use (k := 6) (fun _ _ h => xtab_le (n := 307) h) (by decide) (fun j hj => match j, hj with | 0, _ => xgt168_0 | 1, _ => xgt168_1 | 2, _ => xgt168_2 | 3, _ => xgt168_3 | 4, _ => xgt168_4 | 5, _ => xgt168_5 | j + 6, hj => absurd hj (by omega)) h
theorem xgt169_0 : xtabok 169 (60 * 0) xmd169 = true := by decide +kernel
theorem xgt169 {pc : Nat} {q : xI} (h : xmd169.2.2.2 pc = some q) : xchk 169 pc xmd169 q = true := xtab_use (k := 1) (fun _ _ h => xtab_le (n := 4) h) (by decide) (fun j hj => match j, hj with | 0, _ => xgt169_0 | j + 1, hj => absurd hj (by omega)) h
theorem xgt170_0 : xtabok 170 (60 * 0) xmd170 = true := by decide +kernel
theorem xgt170_1 : xtabok 170 (60 * 1) xmd170 = true := by decide +kernel
theorem xgt170 {pc : Nat} {q : xI} (h : xmd170.2.2.2 pc = some q) : xchk 170 pc xmd170 q = true := xtab_use (k := 2) (fun _ _ h => xtab_le (n := 117) h) (by decide) (fun j hj => match j, hj with | 0, _ => xgt170_0 | 1, _ => xgt170_1 | j + 2, hj => absurd hj (by omega)) h
theorem xgt171_0 : xtabok 171 (60 * 0) xmd171 = true := by decide +kernel
theorem xgt171 {pc : Nat} {q : xI} (h : xmd171.2.2.2 pc = some q) : xchk 171 pc xmd171 q = true := xtab_use (k := 1) (fun _ _ h => xtab_le (n := 25) h) (by decide) (fun j hj => match j, hj with | 0, _ => xgt171_0 | j + 1, hj => absurd hj (by omega)) h
theorem xgt172_0 : xtabok 172 (60 * 0) xmd172 = true := by decide +kernel
theorem xgt172 {pc : Nat} {q : xI} (h : xmd172.2.2.2 pc = some q) : xchk 172 pc xmd172 q = true := xtab_use (k := 1) (fun _ _ h => xtab_le (n := 54) h) (by decide) (fun j hj => match j, hj with | 0, _ => xgt172_0 | j + 1, hj => absurd hj (by omega)) h
theorem xgt173_0 : xtabok 173 (60 * 0) xmd173 = true := by decide +kernel
theorem xgt173 {pc : Nat} {q : xI} (h : xmd173.2.2.2 pc = some q) : xchk 173 pc xmd173 q = true := xtab_use (k := 1) (fun _ _ h => xtab_le (n := 27) h) (by decide) (fun j hj => match j, hj with | 0, _ => xgt173_0 | j + 1, hj => absurd hj (by omega)) h
theorem xgt174_0 : xtabok 174 (60 * 0) xmd174 = true := by decide +kernel
theorem xgt174 {pc : Nat} {q : xI} (h : xmd174.2.2.2 pc = some q) : xchk 174 pc xmd174 q = true := xtab_use (k := 1) (fun _ _ h => xtab_le (n := 10) h) (by decide) (fun j hj => match j, hj with | 0, _ => xgt174_0 | j + 1, hj => absurd hj (by omega)) h
theorem xgt175_0 : xtabok 175 (60 * 0) xmd175 = true := by decide +kernel
theorem xgt175_1 : xtabok 175 (60 * 1) xmd175 = true := by decide +kernel
theorem xgt175_2 : xtabok 175 (60 * 2) xmd175 = true := by decide +kernel
theorem xgt175_3 : xtabok 175 (60 * 3) xmd175 = true := by decide +kernel
theorem xgt175 {pc : Nat} {q : xI} (h : xmd175.2.2.2 pc = some q) : xchk 175 pc xmd175 q = true := xtab_use (k := 4) (fun _ _ h => xtab_le (n := 194) h) (by decide) (fun j hj => match j, hj with | 0, _ => xgt175_0 | 1, _ => xgt175_1 | 2, _ => xgt175_2 | 3, _ => xgt175_3 | j + 4, hj => absurd hj (by omega)) h
theorem xgt176_0 : xtabok 176 (60 * 0) xmd176 = true := by decide +kernel
theorem xgt176_1 : xtabok 176 (60 * 1) xmd176 = true := by decide +kernel
theorem xgt176 {pc : Nat} {q : xI} (h : xmd176.2.2.2 pc = some q) : xchk 176 pc xmd176 q = true := xtab_use (k := 2) (fun _ _ h => xtab_le (n := 74) h) (by decide) (fun j hj => match j, hj with | 0, _ => xgt176_0 | 1, _ => xgt176_1 | j + 2, hj => absurd hj (by omega)) h
theorem xgt177_0 : xtabok 177 (60 * 0) xmd177 = true := by decide +kernel
theorem xgt177 {pc : Nat} {q : xI} (h : xmd177.2.2.2 pc = some q) : xchk 177 pc xmd177 q = true := xtab_use (k := 1) (fun _ _ h => xtab_le (n := 50) h) (by decide) (fun j hj => match j, hj with | 0, _ => xgt177_0 | j + 1, hj => absurd hj (by omega)) h
theorem xgt178_0 : xtabok 178 (60 * 0) xmd178 = true := by decide +kernel
theorem xgt178_1 : xtabok 178 (60 * 1) xmd178 = true := by decide +kernel
theorem xgt178 {pc : Nat} {q : xI} (h : xmd178.2.2.2 pc = some q) : xchk 178 pc xmd178 q = true := xtab_use (k := 2) (fun _ _ h => xtab_le (n := 63) h) (by decide) (fun j hj => match j, hj with | 0, _ => xgt178_0 | 1, _ => xgt178_1 | j + 2, hj => absurd hj (by omega)) h
theorem xgt179_0 : xtabok 179 (60 * 0) xmd179 = true := by decide +kernel
theorem xgt179_1 : xtabok 179 (60 * 1) xmd179 = true := by decide +kernel
theorem xgt179_2 : xtabok 179 (60 * 2) xmd179 = true := by decide +kernel
theorem xgt179_3 : xtabok 179 (60 * 3) xmd179 = true := by decide +kernel
theorem xgt179_4 : xtabok 179 (60 * 4) xmd179 = true := by decide +kernel
theorem xgt179_5 : xtabok 179 (60 * 5) xmd179 = true := by decide +kernel
theorem xgt179_6 : xtabok 179 (60 * 6) xmd179 = true := by decide +kernel
theorem xgt179 {pc : Nat} {q : xI} (h : xmd179.2.2.2 pc = some q) : xchk 179 pc xmd179 q = true := xtab_use (k := 7) (fun _ _ h => xtab_le (n := 393) h) (by decide) (fun j hj => match j, hj with | 0, _ => xgt179_0 | 1, _ => xgt179_1 | 2, _ => xgt179_2 | 3, _ => xgt179_3 | 4, _ => xgt179_4 | 5, _ => xgt179_5 | 6, _ => xgt179_6 | j + 7, hj => absurd hj (by omega)) h
theorem xgtab {f : Nat} {md : xMd} (hf : xms[f]? = some md) {pc : Nat} {q : xI} (h : md.2.2.2 pc = some q) : xchk f pc md q = true := by
  match f, hf with
  | 0, hf => cases hf; exact xgt0 h
  | 1, hf => cases hf; exact xgt1 h
  | 2, hf => cases hf; exact xgt2 h
  | 3, hf => cases hf; exact xgt3 h
  | 4, hf => cases hf; exact xgt4 h
  | 5, hf => cases hf; exact xgt5 h
  | 6, hf => cases hf; exact xgt6 h
  | 7, hf => cases hf; exact xgt7 h
  | 8, hf => cases hf; exact xgt8 h
  | 9, hf => cases hf; exact xgt9 h
  | 10, hf => cases hf; exact xgt10 h
  | 11, hf => cases hf; exact xgt11 h
  | 12, hf => cases hf; exact xgt12 h
  | 13, hf => cases hf; exact xgt13 h
  | 14, hf => cases hf; exact xgt14 h
  | 15, hf => cases hf; exact xgt15 h
  | 16, hf => cases hf; exact xgt16 h
  | 17, hf => cases hf; exact xgt17 h
  | 18, hf => cases hf; exact xgt18 h
  | 19, hf => cases hf; exact xgt19 h
  | 20, hf => cases hf; exact xgt20 h
  | 21, hf => cases hf; exact xgt21 h
  | 22, hf => cases hf; exact xgt22 h
  | 23, hf => cases hf; exact xgt23 h
  | 24, hf => cases hf; exact xgt24 h
  | 25, hf => cases hf; exact xgt25 h
  | 26, hf => cases hf; exact xgt26 h
  | 27, hf => cases hf; exact xgt27 h
  | 28, hf => cases hf; exact xgt28 h
  | 29, hf => cases hf; exact xgt29 h
  | 30, hf => cases hf; exact xgt30 h
  | 31, hf => cases hf; exact xgt31 h
  | 32, hf => cases hf; exact xgt32 h
  | 33, hf => cases hf; exact xgt33 h
  | 34, hf => cases hf; exact xgt34 h
  | 35, hf => cases hf; exact xgt35 h
  | 36, hf => cases hf; exact xgt36 h
  | 37, hf => cases hf; exact xgt37 h
  | 38, hf => cases hf; exact xgt38 h
  | 39, hf => cases hf; exact xgt39 h
  | 40, hf => cases hf; exact xgt40 h
  | 41, hf => cases hf; exact xgt41 h
  | 42, hf => cases hf; exact xgt42 h
  | 43, hf => cases hf; exact xgt43 h
  | 44, hf => cases hf; exact xgt44 h
  | 45, hf => cases hf; exact xgt45 h
  | 46, hf => cases hf; exact xgt46 h
  | 47, hf => cases hf; exact xgt47 h
  | 48, hf => cases hf; exact xgt48 h
  | 49, hf => cases hf; exact xgt49 h
  | 50, hf => cases hf; exact xgt50 h
  | 51, hf => cases hf; exact xgt51 h
  | 52, hf => cases hf; exact xgt52 h
  | 53, hf => cases hf; exact xgt53 h
  | 54, hf => cases hf; exact xgt54 h
  | 55, hf => cases hf; exact xgt55 h
  | 56, hf => cases hf; exact xgt56 h
  | 57, hf => cases hf; exact xgt57 h
  | 58, hf => cases hf; exact xgt58 h
  | 59, hf => cases hf; exact xgt59 h
  | 60, hf => cases hf; exact xgt60 h
  | 61, hf => cases hf; exact xgt61 h
  | 62, hf => cases hf; exact xgt62 h
  | 63, hf => cases hf; exact xgt63 h
  | 64, hf => cases hf; exact xgt64 h
  | 65, hf => cases hf; exact xgt65 h
  | 66, hf => cases hf; exact xgt66 h
  | 67, hf => cases hf; exact xgt67 h
  | 68, hf => cases hf; exact xgt68 h
  | 69, hf => cases hf; exact xgt69 h
  | 70, hf => cases hf; exact xgt70 h
  | 71, hf => cases hf; exact xgt71 h
  | 72, hf => cases hf; exact xgt72 h
  | 73, hf => cases hf; exact xgt73 h
  | 74, hf => cases hf; exact xgt74 h
  | 75, hf => cases hf; exact xgt75 h
  | 76, hf => cases hf; exact xgt76 h
  | 77, hf => cases hf; exact xgt77 h
  | 78, hf => cases hf; exact xgt78 h
  | 79, hf => cases hf; exact xgt79 h
  | 80, hf => cases hf; exact xgt80 h
  | 81, hf => cases hf; exact xgt81 h
  | 82, hf => cases hf; exact xgt82 h
  | 83, hf => cases hf; exact xgt83 h
  | 84, hf => cases hf; exact xgt84 h
  | 85, hf => cases hf; exact xgt85 h
  | 86, hf => cases hf; exact xgt86 h
  | 87, hf => cases hf; exact xgt87 h
  | 88, hf => cases hf; exact xgt88 h
  | 89, hf => cases hf; exact xgt89 h
  | 90, hf => cases hf; exact xgt90 h
  | 91, hf => cases hf; exact xgt91 h
  | 92, hf => cases hf; exact xgt92 h
  | 93, hf => cases hf; exact xgt93 h
  | 94, hf => cases hf; exact xgt94 h
  | 95, hf => cases hf; exact xgt95 h
  | 96, hf => cases hf; exact xgt96 h
  | 97, hf => cases hf; exact xgt97 h
  | 98, hf => cases hf; exact xgt98 h
  | 99, hf => cases hf; exact xgt99 h
  | 100, hf => cases hf; exact xgt100 h
  | 101, hf => cases hf; exact xgt101 h
  | 102, hf => cases hf; exact xgt102 h
  | 103, hf => cases hf; exact xgt103 h
  | 104, hf => cases hf; exact xgt104 h
  | 105, hf => cases hf; exact xgt105 h
  | 106, hf => cases hf; exact xgt106 h
  | 107, hf => cases hf; exact xgt107 h
  | 108, hf => cases hf; exact xgt108 h
  | 109, hf => cases hf; exact xgt109 h
  | 110, hf => cases hf; exact xgt110 h
  | 111, hf => cases hf; exact xgt111 h
  | 112, hf => cases hf; exact xgt112 h
  | 113, hf => cases hf; exact xgt113 h
  | 114, hf => cases hf; exact xgt114 h
  | 115, hf => cases hf; exact xgt115 h
  | 116, hf => cases hf; exact xgt116 h
  | 117, hf => cases hf; exact xgt117 h
  | 118, hf => cases hf; exact xgt118 h
  | 119, hf => cases hf; exact xgt119 h
  | 120, hf => cases hf; exact xgt120 h
  | 121, hf => cases hf; exact xgt121 h
  | 122, hf => cases hf; exact xgt122 h
  | 123, hf => cases hf; exact xgt123 h
  | 124, hf => cases hf; exact xgt124 h
  | 125, hf => cases hf; exact xgt125 h
  | 126, hf => cases hf; exact xgt126 h
  | 127, hf => cases hf; exact xgt127 h
  | 128, hf => cases hf; exact xgt128 h
  | 129, hf => cases hf; exact xgt129 h
  | 130, hf => cases hf; exact xgt130 h
  | 131, hf => cases hf; exact xgt131 h
  | 132, hf => cases hf; exact xgt132 h
  | 133, hf => cases hf; exact xgt133 h
  | 134, hf => cases hf; exact xgt134 h
  | 135, hf => cases hf; exact xgt135 h
  | 136, hf => cases hf; exact xgt136 h
  | 137, hf => cases hf; exact xgt137 h
  | 138, hf => cases hf; exact xgt138 h
  | 139, hf => cases hf; exact xgt139 h
  | 140, hf => cases hf; exact xgt140 h
  | 141, hf => cases hf; exact xgt141 h
  | 142, hf => cases hf; exact xgt142 h
  | 143, hf => cases hf; exact xgt143 h
  | 144, hf => cases hf; exact xgt144 h
  | 145, hf => cases hf; exact xgt145 h
  | 146, hf => cases hf; exact xgt146 h
  | 147, hf => cases hf; exact xgt147 h
  | 148, hf => cases hf; exact xgt148 h
  | 149, hf => cases hf; exact xgt149 h
  | 150, hf => cases hf; exact xgt150 h
  | 151, hf => cases hf; exact xgt151 h
  | 152, hf => cases hf; exact xgt152 h
  | 153, hf => cases hf; exact xgt153 h
  | 154, hf => cases hf; exact xgt154 h
  | 155, hf => cases hf; exact xgt155 h
  | 156, hf => cases hf; exact xgt156 h
  | 157, hf => cases hf; exact xgt157 h
  | 158, hf => cases hf; exact xgt158 h
  | 159, hf => cases hf; exact xgt159 h
  | 160, hf => cases hf; exact xgt160 h
  | 161, hf => cases hf; exact xgt161 h
  | 162, hf => cases hf; exact xgt162 h
  | 163, hf => cases hf; exact xgt163 h
  | 164, hf => cases hf; exact xgt164 h
  | 165, hf => cases hf; exact xgt165 h
  | 166, hf => cases hf; exact xgt166 h
  | 167, hf => cases hf; exact xgt167 h
  | 168, hf => cases hf; exact xgt168 h
  | 169, hf => cases hf; exact xgt169 h
  | 170, hf => cases hf; exact xgt170 h
  | 171, hf => cases hf; exact xgt171 h
  | 172, hf => cases hf; exact xgt172 h
  | 173, hf => cases hf; exact xgt173 h
  | 174, hf => cases hf; exact xgt174 h
  | 175, hf => cases hf; exact xgt175 h
  | 176, hf => cases hf; exact xgt176 h
  | 177, hf => cases hf; exact xgt177 h
  | 178, hf => cases hf; exact xgt178 h
  | 179, hf => cases hf; exact xgt179 h
  | k + 180, hf => cases hf
