/-! The reference's reader: printed by wip/gen/refp.py -/
def nvR_K (a : Nat) : Nat := bif Nat.blt a 152 then (bif Nat.blt a 76 then (bif Nat.blt a 44 then (bif Nat.blt a 28 then (bif Nat.blt a 20 then (bif Nat.blt a 16 then (bif Nat.blt a 2 then (bif Nat.blt a 1 then (bif Nat.beq a 0 then 12 else 0) else (bif Nat.beq a 1 then 7 else 0)) else (bif Nat.blt a 3 then (bif Nat.beq a 2 then 10 else 0) else (bif Nat.beq a 3 then 15 else 0))) else (bif Nat.blt a 18 then (bif Nat.blt a 17 then (bif Nat.beq a 16 then 16 else 0) else (bif Nat.beq a 17 then 16 else 0)) else (bif Nat.blt a 19 then (bif Nat.beq a 18 then 16 else 0) else (bif Nat.beq a 19 then 4 else 0)))) else (bif Nat.blt a 24 then (bif Nat.blt a 22 then (bif Nat.blt a 21 then (bif Nat.beq a 20 then 2 else 0) else (bif Nat.beq a 21 then 20 else 0)) else (bif Nat.blt a 23 then (bif Nat.beq a 22 then 16 else 0) else (bif Nat.beq a 23 then 16 else 0))) else (bif Nat.blt a 26 then (bif Nat.blt a 25 then (bif Nat.beq a 24 then 16 else 0) else (bif Nat.beq a 25 then 16 else 0)) else (bif Nat.blt a 27 then (bif Nat.beq a 26 then 16 else 0) else (bif Nat.beq a 27 then 16 else 0))))) else (bif Nat.blt a 36 then (bif Nat.blt a 32 then (bif Nat.blt a 30 then (bif Nat.blt a 29 then (bif Nat.beq a 28 then 16 else 0) else (bif Nat.beq a 29 then 16 else 0)) else (bif Nat.blt a 31 then (bif Nat.beq a 30 then 16 else 0) else (bif Nat.beq a 31 then 16 else 0))) else (bif Nat.blt a 34 then (bif Nat.blt a 33 then (bif Nat.beq a 32 then 8 else 0) else (bif Nat.beq a 33 then 19 else 0)) else (bif Nat.blt a 35 then (bif Nat.beq a 34 then 16 else 0) else (bif Nat.beq a 35 then 16 else 0)))) else (bif Nat.blt a 40 then (bif Nat.blt a 38 then (bif Nat.blt a 37 then (bif Nat.beq a 36 then 2 else 0) else (bif Nat.beq a 37 then 2 else 0)) else (bif Nat.blt a 39 then (bif Nat.beq a 38 then 2 else 0) else (bif Nat.beq a 39 then 2 else 0))) else (bif Nat.blt a 42 then (bif Nat.blt a 41 then (bif Nat.beq a 40 then 2 else 0) else (bif Nat.beq a 41 then 2 else 0)) else (bif Nat.blt a 43 then (bif Nat.beq a 42 then 2 else 0) else (bif Nat.beq a 43 then 2 else 0)))))) else (bif Nat.blt a 60 then (bif Nat.blt a 52 then (bif Nat.blt a 48 then (bif Nat.blt a 46 then (bif Nat.blt a 45 then (bif Nat.beq a 44 then 2 else 0) else (bif Nat.beq a 45 then 2 else 0)) else (bif Nat.blt a 47 then (bif Nat.beq a 46 then 3 else 0) else (bif Nat.beq a 47 then 2 else 0))) else (bif Nat.blt a 50 then (bif Nat.blt a 49 then (bif Nat.beq a 48 then 16 else 0) else (bif Nat.beq a 49 then 16 else 0)) else (bif Nat.blt a 51 then (bif Nat.beq a 50 then 16 else 0) else (bif Nat.beq a 51 then 16 else 0)))) else (bif Nat.blt a 56 then (bif Nat.blt a 54 then (bif Nat.blt a 53 then (bif Nat.beq a 52 then 5 else 0) else (bif Nat.beq a 53 then 2 else 0)) else (bif Nat.blt a 55 then (bif Nat.beq a 54 then 16 else 0) else (bif Nat.beq a 55 then 16 else 0))) else (bif Nat.blt a 58 then (bif Nat.blt a 57 then (bif Nat.beq a 56 then 20 else 0) else (bif Nat.beq a 57 then 16 else 0)) else (bif Nat.blt a 59 then (bif Nat.beq a 58 then 16 else 0) else (bif Nat.beq a 59 then 16 else 0))))) else (bif Nat.blt a 68 then (bif Nat.blt a 64 then (bif Nat.blt a 62 then (bif Nat.blt a 61 then (bif Nat.beq a 60 then 1 else 0) else (bif Nat.beq a 61 then 16 else 0)) else (bif Nat.blt a 63 then (bif Nat.beq a 62 then 16 else 0) else (bif Nat.beq a 63 then 20 else 0))) else (bif Nat.blt a 66 then (bif Nat.blt a 65 then (bif Nat.beq a 64 then 16 else 0) else (bif Nat.beq a 65 then 16 else 0)) else (bif Nat.blt a 67 then (bif Nat.beq a 66 then 16 else 0) else (bif Nat.beq a 67 then 16 else 0)))) else (bif Nat.blt a 72 then (bif Nat.blt a 70 then (bif Nat.blt a 69 then (bif Nat.beq a 68 then 16 else 0) else (bif Nat.beq a 69 then 16 else 0)) else (bif Nat.blt a 71 then (bif Nat.beq a 70 then 16 else 0) else (bif Nat.beq a 71 then 16 else 0))) else (bif Nat.blt a 74 then (bif Nat.blt a 73 then (bif Nat.beq a 72 then 16 else 0) else (bif Nat.beq a 73 then 16 else 0)) else (bif Nat.blt a 75 then (bif Nat.beq a 74 then 16 else 0) else (bif Nat.beq a 75 then 16 else 0))))))) else (bif Nat.blt a 120 then (bif Nat.blt a 92 then (bif Nat.blt a 84 then (bif Nat.blt a 80 then (bif Nat.blt a 78 then (bif Nat.blt a 77 then (bif Nat.beq a 76 then 16 else 0) else (bif Nat.beq a 77 then 16 else 0)) else (bif Nat.blt a 79 then (bif Nat.beq a 78 then 16 else 0) else (bif Nat.beq a 79 then 16 else 0))) else (bif Nat.blt a 82 then (bif Nat.blt a 81 then (bif Nat.beq a 80 then 16 else 0) else (bif Nat.beq a 81 then 16 else 0)) else (bif Nat.blt a 83 then (bif Nat.beq a 82 then 16 else 0) else (bif Nat.beq a 83 then 16 else 0)))) else (bif Nat.blt a 88 then (bif Nat.blt a 86 then (bif Nat.blt a 85 then (bif Nat.beq a 84 then 16 else 0) else (bif Nat.beq a 85 then 16 else 0)) else (bif Nat.blt a 87 then (bif Nat.beq a 86 then 16 else 0) else (bif Nat.beq a 87 then 16 else 0))) else (bif Nat.blt a 90 then (bif Nat.blt a 89 then (bif Nat.beq a 88 then 16 else 0) else (bif Nat.beq a 89 then 16 else 0)) else (bif Nat.blt a 91 then (bif Nat.beq a 90 then 16 else 0) else (bif Nat.beq a 91 then 16 else 0))))) else (bif Nat.blt a 100 then (bif Nat.blt a 96 then (bif Nat.blt a 94 then (bif Nat.blt a 93 then (bif Nat.beq a 92 then 16 else 0) else (bif Nat.beq a 93 then 16 else 0)) else (bif Nat.blt a 95 then (bif Nat.beq a 94 then 16 else 0) else (bif Nat.beq a 95 then 11 else 0))) else (bif Nat.blt a 98 then (bif Nat.blt a 97 then (bif Nat.beq a 96 then 18 else 0) else (bif Nat.beq a 97 then 16 else 0)) else (bif Nat.blt a 99 then (bif Nat.beq a 98 then 16 else 0) else (bif Nat.beq a 99 then 16 else 0)))) else (bif Nat.blt a 116 then (bif Nat.blt a 114 then (bif Nat.blt a 113 then (bif Nat.beq a 100 then 16 else 0) else (bif Nat.beq a 113 then 14 else 0)) else (bif Nat.blt a 115 then (bif Nat.beq a 114 then 15 else 0) else (bif Nat.beq a 115 then 16 else 0))) else (bif Nat.blt a 118 then (bif Nat.blt a 117 then (bif Nat.beq a 116 then 16 else 0) else (bif Nat.beq a 117 then 16 else 0)) else (bif Nat.blt a 119 then (bif Nat.beq a 118 then 16 else 0) else (bif Nat.beq a 119 then 16 else 0)))))) else (bif Nat.blt a 136 then (bif Nat.blt a 128 then (bif Nat.blt a 124 then (bif Nat.blt a 122 then (bif Nat.blt a 121 then (bif Nat.beq a 120 then 16 else 0) else (bif Nat.beq a 121 then 16 else 0)) else (bif Nat.blt a 123 then (bif Nat.beq a 122 then 16 else 0) else (bif Nat.beq a 123 then 16 else 0))) else (bif Nat.blt a 126 then (bif Nat.blt a 125 then (bif Nat.beq a 124 then 16 else 0) else (bif Nat.beq a 125 then 16 else 0)) else (bif Nat.blt a 127 then (bif Nat.beq a 126 then 16 else 0) else (bif Nat.beq a 127 then 16 else 0)))) else (bif Nat.blt a 132 then (bif Nat.blt a 130 then (bif Nat.blt a 129 then (bif Nat.beq a 128 then 16 else 0) else (bif Nat.beq a 129 then 16 else 0)) else (bif Nat.blt a 131 then (bif Nat.beq a 130 then 16 else 0) else (bif Nat.beq a 131 then 16 else 0))) else (bif Nat.blt a 134 then (bif Nat.blt a 133 then (bif Nat.beq a 132 then 16 else 0) else (bif Nat.beq a 133 then 16 else 0)) else (bif Nat.blt a 135 then (bif Nat.beq a 134 then 16 else 0) else (bif Nat.beq a 135 then 18 else 0))))) else (bif Nat.blt a 144 then (bif Nat.blt a 140 then (bif Nat.blt a 138 then (bif Nat.blt a 137 then (bif Nat.beq a 136 then 17 else 0) else (bif Nat.beq a 137 then 13 else 0)) else (bif Nat.blt a 139 then (bif Nat.beq a 138 then 16 else 0) else (bif Nat.beq a 139 then 16 else 0))) else (bif Nat.blt a 142 then (bif Nat.blt a 141 then (bif Nat.beq a 140 then 16 else 0) else (bif Nat.beq a 141 then 16 else 0)) else (bif Nat.blt a 143 then (bif Nat.beq a 142 then 16 else 0) else (bif Nat.beq a 143 then 16 else 0)))) else (bif Nat.blt a 148 then (bif Nat.blt a 146 then (bif Nat.blt a 145 then (bif Nat.beq a 144 then 16 else 0) else (bif Nat.beq a 145 then 16 else 0)) else (bif Nat.blt a 147 then (bif Nat.beq a 146 then 16 else 0) else (bif Nat.beq a 147 then 16 else 0))) else (bif Nat.blt a 150 then (bif Nat.blt a 149 then (bif Nat.beq a 148 then 18 else 0) else (bif Nat.beq a 149 then 18 else 0)) else (bif Nat.blt a 151 then (bif Nat.beq a 150 then 17 else 0) else (bif Nat.beq a 151 then 16 else 0)))))))) else 0
def nvR_N (a : Nat) : Nat := bif Nat.blt a 152 then (bif Nat.blt a 85 then (bif Nat.blt a 58 then (bif Nat.blt a 30 then (bif Nat.blt a 23 then (bif Nat.blt a 18 then (bif Nat.blt a 16 then (bif Nat.beq a 3 then 701 else 0) else (bif Nat.blt a 17 then (bif Nat.beq a 16 then 9 else 0) else (bif Nat.beq a 17 then 9 else 0))) else (bif Nat.blt a 21 then (bif Nat.beq a 18 then 9 else 0) else (bif Nat.blt a 22 then (bif Nat.beq a 21 then 8 else 0) else (bif Nat.beq a 22 then 31 else 0)))) else (bif Nat.blt a 26 then (bif Nat.blt a 24 then (bif Nat.beq a 23 then 31 else 0) else (bif Nat.blt a 25 then (bif Nat.beq a 24 then 31 else 0) else (bif Nat.beq a 25 then 31 else 0))) else (bif Nat.blt a 28 then (bif Nat.blt a 27 then (bif Nat.beq a 26 then 31 else 0) else (bif Nat.beq a 27 then 31 else 0)) else (bif Nat.blt a 29 then (bif Nat.beq a 28 then 31 else 0) else (bif Nat.beq a 29 then 21 else 0))))) else (bif Nat.blt a 49 then (bif Nat.blt a 34 then (bif Nat.blt a 31 then (bif Nat.beq a 30 then 21 else 0) else (bif Nat.blt a 33 then (bif Nat.beq a 31 then 21 else 0) else (bif Nat.beq a 33 then 11 else 0))) else (bif Nat.blt a 35 then (bif Nat.beq a 34 then 8 else 0) else (bif Nat.blt a 48 then (bif Nat.beq a 35 then 8 else 0) else (bif Nat.beq a 48 then 31 else 0)))) else (bif Nat.blt a 54 then (bif Nat.blt a 50 then (bif Nat.beq a 49 then 31 else 0) else (bif Nat.blt a 51 then (bif Nat.beq a 50 then 31 else 0) else (bif Nat.beq a 51 then 31 else 0))) else (bif Nat.blt a 56 then (bif Nat.blt a 55 then (bif Nat.beq a 54 then 13 else 0) else (bif Nat.beq a 55 then 13 else 0)) else (bif Nat.blt a 57 then (bif Nat.beq a 56 then 4 else 0) else (bif Nat.beq a 57 then 249 else 0)))))) else (bif Nat.blt a 72 then (bif Nat.blt a 65 then (bif Nat.blt a 62 then (bif Nat.blt a 59 then (bif Nat.beq a 58 then 249 else 0) else (bif Nat.blt a 61 then (bif Nat.beq a 59 then 249 else 0) else (bif Nat.beq a 61 then 31 else 0))) else (bif Nat.blt a 63 then (bif Nat.beq a 62 then 31 else 0) else (bif Nat.blt a 64 then (bif Nat.beq a 63 then 31 else 0) else (bif Nat.beq a 64 then 31 else 0)))) else (bif Nat.blt a 68 then (bif Nat.blt a 66 then (bif Nat.beq a 65 then 31 else 0) else (bif Nat.blt a 67 then (bif Nat.beq a 66 then 31 else 0) else (bif Nat.beq a 67 then 31 else 0))) else (bif Nat.blt a 70 then (bif Nat.blt a 69 then (bif Nat.beq a 68 then 31 else 0) else (bif Nat.beq a 69 then 31 else 0)) else (bif Nat.blt a 71 then (bif Nat.beq a 70 then 31 else 0) else (bif Nat.beq a 71 then 31 else 0))))) else (bif Nat.blt a 78 then (bif Nat.blt a 75 then (bif Nat.blt a 73 then (bif Nat.beq a 72 then 31 else 0) else (bif Nat.blt a 74 then (bif Nat.beq a 73 then 31 else 0) else (bif Nat.beq a 74 then 31 else 0))) else (bif Nat.blt a 76 then (bif Nat.beq a 75 then 31 else 0) else (bif Nat.blt a 77 then (bif Nat.beq a 76 then 31 else 0) else (bif Nat.beq a 77 then 31 else 0)))) else (bif Nat.blt a 81 then (bif Nat.blt a 79 then (bif Nat.beq a 78 then 31 else 0) else (bif Nat.blt a 80 then (bif Nat.beq a 79 then 31 else 0) else (bif Nat.beq a 80 then 31 else 0))) else (bif Nat.blt a 83 then (bif Nat.blt a 82 then (bif Nat.beq a 81 then 31 else 0) else (bif Nat.beq a 82 then 31 else 0)) else (bif Nat.blt a 84 then (bif Nat.beq a 83 then 31 else 0) else (bif Nat.beq a 84 then 31 else 0))))))) else (bif Nat.blt a 125 then (bif Nat.blt a 99 then (bif Nat.blt a 91 then (bif Nat.blt a 88 then (bif Nat.blt a 86 then (bif Nat.beq a 85 then 31 else 0) else (bif Nat.blt a 87 then (bif Nat.beq a 86 then 31 else 0) else (bif Nat.beq a 87 then 31 else 0))) else (bif Nat.blt a 89 then (bif Nat.beq a 88 then 31 else 0) else (bif Nat.blt a 90 then (bif Nat.beq a 89 then 31 else 0) else (bif Nat.beq a 90 then 31 else 0)))) else (bif Nat.blt a 94 then (bif Nat.blt a 92 then (bif Nat.beq a 91 then 31 else 0) else (bif Nat.blt a 93 then (bif Nat.beq a 92 then 31 else 0) else (bif Nat.beq a 93 then 31 else 0))) else (bif Nat.blt a 97 then (bif Nat.blt a 96 then (bif Nat.beq a 94 then 3 else 0) else (bif Nat.beq a 96 then 31 else 0)) else (bif Nat.blt a 98 then (bif Nat.beq a 97 then 31 else 0) else (bif Nat.beq a 98 then 31 else 0))))) else (bif Nat.blt a 118 then (bif Nat.blt a 115 then (bif Nat.blt a 100 then (bif Nat.beq a 99 then 31 else 0) else (bif Nat.blt a 114 then (bif Nat.beq a 100 then 31 else 0) else (bif Nat.beq a 114 then 701 else 0))) else (bif Nat.blt a 116 then (bif Nat.beq a 115 then 11 else 0) else (bif Nat.blt a 117 then (bif Nat.beq a 116 then 11 else 0) else (bif Nat.beq a 117 then 31 else 0)))) else (bif Nat.blt a 121 then (bif Nat.blt a 119 then (bif Nat.beq a 118 then 31 else 0) else (bif Nat.blt a 120 then (bif Nat.beq a 119 then 31 else 0) else (bif Nat.beq a 120 then 31 else 0))) else (bif Nat.blt a 123 then (bif Nat.blt a 122 then (bif Nat.beq a 121 then 31 else 0) else (bif Nat.beq a 122 then 31 else 0)) else (bif Nat.blt a 124 then (bif Nat.beq a 123 then 31 else 0) else (bif Nat.beq a 124 then 8 else 0)))))) else (bif Nat.blt a 139 then (bif Nat.blt a 131 then (bif Nat.blt a 128 then (bif Nat.blt a 126 then (bif Nat.beq a 125 then 13 else 0) else (bif Nat.blt a 127 then (bif Nat.beq a 126 then 13 else 0) else (bif Nat.beq a 127 then 21 else 0))) else (bif Nat.blt a 129 then (bif Nat.beq a 128 then 21 else 0) else (bif Nat.blt a 130 then (bif Nat.beq a 129 then 21 else 0) else (bif Nat.beq a 130 then 3 else 0)))) else (bif Nat.blt a 134 then (bif Nat.blt a 132 then (bif Nat.beq a 131 then 31 else 0) else (bif Nat.blt a 133 then (bif Nat.beq a 132 then 31 else 0) else (bif Nat.beq a 133 then 31 else 0))) else (bif Nat.blt a 136 then (bif Nat.blt a 135 then (bif Nat.beq a 134 then 31 else 0) else (bif Nat.beq a 135 then 31 else 0)) else (bif Nat.blt a 138 then (bif Nat.beq a 136 then 2 else 0) else (bif Nat.beq a 138 then 5 else 0))))) else (bif Nat.blt a 145 then (bif Nat.blt a 142 then (bif Nat.blt a 140 then (bif Nat.beq a 139 then 5 else 0) else (bif Nat.blt a 141 then (bif Nat.beq a 140 then 5 else 0) else (bif Nat.beq a 141 then 5 else 0))) else (bif Nat.blt a 143 then (bif Nat.beq a 142 then 11 else 0) else (bif Nat.blt a 144 then (bif Nat.beq a 143 then 11 else 0) else (bif Nat.beq a 144 then 11 else 0)))) else (bif Nat.blt a 148 then (bif Nat.blt a 146 then (bif Nat.beq a 145 then 9 else 0) else (bif Nat.blt a 147 then (bif Nat.beq a 146 then 9 else 0) else (bif Nat.beq a 147 then 9 else 0))) else (bif Nat.blt a 150 then (bif Nat.blt a 149 then (bif Nat.beq a 148 then 9 else 0) else (bif Nat.beq a 149 then 9 else 0)) else (bif Nat.blt a 151 then (bif Nat.beq a 150 then 9 else 0) else (bif Nat.beq a 151 then 9 else 0)))))))) else 0
def nvR_P (a k : Nat) : Option (Option Nat) := bif Nat.blt a 152 && Nat.blt k 50 then (bif Nat.blt a 46 then (bif Nat.blt a 2 then (bif Nat.blt a 1 then (bif Nat.beq a 0 then (bif Nat.beq k 0 then some (some 1) else (bif Nat.beq k 1 then some (some 19) else (bif Nat.beq k 2 then some (some 32) else (bif Nat.beq k 3 then some (some 46) else (bif Nat.beq k 4 then some (some 52) else (bif Nat.beq k 5 then some (some 60) else (bif Nat.beq k 6 then some (some 95) else none))))))) else none) else (bif Nat.beq a 1 then (bif Nat.beq k 0 then some (some 2) else (bif Nat.beq k 2 then some (some 16) else (bif Nat.beq k 3 then some (some 17) else (bif Nat.beq k 4 then some (some 18) else none)))) else none)) else (bif Nat.blt a 19 then (bif Nat.beq a 2 then (bif Nat.beq k 0 then some (some 3) else none) else none) else (bif Nat.blt a 32 then (bif Nat.beq a 19 then (bif Nat.beq k 0 then some (some 20) else (bif Nat.beq k 1 then some (some 21) else (bif Nat.beq k 2 then some (some 29) else (bif Nat.beq k 3 then some (some 30) else (bif Nat.beq k 4 then some (some 31) else none))))) else none) else (bif Nat.beq a 32 then (bif Nat.beq k 0 then some (some 33) else (bif Nat.beq k 1 then some (some 34) else (bif Nat.beq k 2 then some (some 35) else none))) else none)))) else (bif Nat.blt a 95 then (bif Nat.blt a 52 then (bif Nat.beq a 46 then (bif Nat.beq k 0 then some (some 47) else (bif Nat.beq k 1 then some (some 48) else (bif Nat.beq k 2 then some (some 49) else (bif Nat.beq k 3 then some (some 50) else (bif Nat.beq k 4 then some (some 51) else none))))) else none) else (bif Nat.blt a 60 then (bif Nat.beq a 52 then (bif Nat.beq k 0 then some (some 53) else (bif Nat.beq k 1 then some (some 54) else (bif Nat.beq k 2 then some (some 55) else (bif Nat.beq k 3 then some (some 56) else none)))) else none) else (bif Nat.beq a 60 then (bif Nat.beq k 0 then some (some 61) else (bif Nat.beq k 1 then some (some 62) else (bif Nat.beq k 2 then some (some 63) else (bif Nat.beq k 3 then some (some 94) else none)))) else none))) else (bif Nat.blt a 113 then (bif Nat.beq a 95 then (bif Nat.beq k 0 then some (some 96) else (bif Nat.beq k 1 then some (some 97) else (bif Nat.beq k 2 then some (some 98) else (bif Nat.beq k 3 then some (some 99) else (bif Nat.beq k 4 then some (some 100) else none))))) else none) else (bif Nat.blt a 137 then (bif Nat.beq a 113 then (bif Nat.beq k 4 then some (some 137) else (bif Nat.beq k 5 then some (some 114) else (bif Nat.beq k 17 then some (some 115) else (bif Nat.beq k 18 then some (some 116) else (bif Nat.beq k 19 then some (some 117) else (bif Nat.beq k 20 then some (some 118) else (bif Nat.beq k 21 then some (some 119) else (bif Nat.beq k 22 then some (some 120) else (bif Nat.beq k 23 then some (some 121) else (bif Nat.beq k 24 then some (some 122) else (bif Nat.beq k 25 then some (some 123) else (bif Nat.beq k 27 then some (some 124) else (bif Nat.beq k 29 then some (some 125) else (bif Nat.beq k 30 then some (some 126) else (bif Nat.beq k 32 then some (some 127) else (bif Nat.beq k 33 then some (some 128) else (bif Nat.beq k 34 then some (some 129) else (bif Nat.beq k 36 then some (some 130) else (bif Nat.beq k 38 then some (some 131) else (bif Nat.beq k 39 then some (some 132) else (bif Nat.beq k 40 then some (some 133) else (bif Nat.beq k 41 then some (some 134) else (bif Nat.beq k 42 then some (some 135) else none))))))))))))))))))))))) else none) else (bif Nat.beq a 137 then (bif Nat.beq k 15 then some (some 138) else (bif Nat.beq k 16 then some (some 139) else (bif Nat.beq k 17 then some (some 140) else (bif Nat.beq k 18 then some (some 141) else (bif Nat.beq k 19 then some (some 142) else (bif Nat.beq k 20 then some (some 143) else (bif Nat.beq k 21 then some (some 144) else (bif Nat.beq k 22 then some (some 145) else (bif Nat.beq k 23 then some (some 146) else (bif Nat.beq k 24 then some (some 147) else (bif Nat.beq k 25 then some (some 148) else (bif Nat.beq k 26 then some (some 149) else (bif Nat.beq k 27 then some (some 150) else (bif Nat.beq k 28 then some (some 151) else none)))))))))))))) else none))))) else none
def nvR : nv_T := (nvR_K, nvR_N, nvR_P)

theorem hc_of {cd : Nat → Nat → Option aI} {z : Bool} (hz : ∀ m p i, cd0 z m p = some i → cd m p = some i) : ∀ m p o, ct m p = some o → cd m p = some (semO o) := fun m p o h => hz m p _ (ct_ok m p o h)
/-- what stays while a text is read -/
def EnR (τ : Nat → Nat) (B : Nat → Int) (lim : Nat) (M : aM) : Prop := nv_A nvR τ M ∧ (∀ k, k < 700 → (a_I M 114 k &&& 255).toInt = B k) ∧ (a_I M 113 7).toInt = (lim : Int) ∧ lim ≤ 700 ∧ ∀ j, 137 ≤ τ j
theorem En_s {τ : Nat → Nat} {B : Nat → Int} {lim : Nat} {M : aM} {k : Nat} {v : Int32} (hk : Nat.beq k 7 = false) (h : EnR τ B lim M) : EnR τ B lim (s_I M 113 k v) := by
  obtain ⟨h1, h2, h3, h4, h5⟩ := h
  refine ⟨h1, fun j hj => ?_, ?_, h4, h5⟩
  · rw [aI_sI, if_neg (fun e => absurd e.1 (by decide))]; exact h2 j hj
  · rw [aI_sI, if_neg (fun e => by rw [← e.2] at hk; cases hk)]; exact h3
theorem En_j {τ : Nat → Nat} {B : Nat → Int} {lim : Nat} {M : aM} {a k : Nat} {v : Int64} (h : EnR τ B lim M) : EnR τ B lim (s_J M a k v) := h
theorem nv_ge {τ : Nat → Nat} (h : ∀ j, 137 ≤ τ j) {a : Nat} (ha : (Nat.ble 137 a && Nat.blt a 152) = true) : nv_s τ a = τ a := by
  obtain ⟨h1, h2⟩ := (Bool.and_eq_true _ _).mp ha
  have h1 := Nat.le_of_ble_eq_true h1
  have h2 := blt_lt h2
  unfold nv_s
  rw [show Nat.blt a 137 = false from Bool.eq_false_iff.mpr (fun q => by have := blt_lt q; omega), show Nat.ble aSB a = false from Bool.eq_false_iff.mpr (fun q => by have := Nat.le_of_ble_eq_true q; have : aSB = 1000000000 := rfl; omega)]
  rfl
theorem En_f {τ : Nat → Nat} {B : Nat → Int} {lim : Nat} {M : aM} {a k : Nat} {v : Int32} (ha : (Nat.ble 137 a && Nat.blt a 152) = true) (h : EnR τ B lim M) : EnR τ B lim (s_I M (nv_s τ a) k v) := by
  obtain ⟨h1, h2, h3, h4, h5⟩ := h
  have := h5 a
  rw [nv_ge h5 ha]
  refine ⟨h1, fun j hj => ?_, ?_, h4, h5⟩
  · rw [aI_sI, if_neg (fun e => by omega)]; exact h2 j hj
  · rw [aI_sI, if_neg (fun e => by omega)]; exact h3
/-- all but these fields of the reader as before -/
def FrX (l : List Nat) (M M' : aM) : Prop := (a_n M' = a_n M ∧ a_z M' = a_z M ∧ a_c M' = a_c M) ∧ (a_K M' = a_K M ∧ a_N M' = a_N M ∧ a_P M' = a_P M) ∧ (∀ a k, (a = 113 → k ∉ l) → a_I M' a k = a_I M a k) ∧ ∀ a k, ¬ (a = 113 ∧ k = 15) → a_J M' a k = a_J M a k
theorem Fx_rf {l : List Nat} {M : aM} : FrX l M M := ⟨⟨rfl, rfl, rfl⟩, ⟨rfl, rfl, rfl⟩, fun _ _ _ => rfl, fun _ _ _ => rfl⟩
theorem Fx_tr {l : List Nat} {M M1 M2 : aM} (h : FrX l M M1) (g : FrX l M1 M2) : FrX l M M2 := ⟨⟨g.1.1.trans h.1.1, g.1.2.1.trans h.1.2.1, g.1.2.2.trans h.1.2.2⟩, ⟨g.2.1.1.trans h.2.1.1, g.2.1.2.1.trans h.2.1.2.1, g.2.1.2.2.trans h.2.1.2.2⟩, fun a k q => (g.2.2.1 a k q).trans (h.2.2.1 a k q), fun a k q => (g.2.2.2 a k q).trans (h.2.2.2 a k q)⟩
theorem Fx_up {l l' : List Nat} {M M1 : aM} (h : FrX l M M1) (hs : ∀ k ∈ l, k ∈ l') : FrX l' M M1 := ⟨h.1, h.2.1, fun a k q => h.2.2.1 a k (fun e hk => q e (hs k hk)), h.2.2.2⟩
theorem Fx_s {l : List Nat} {M M1 : aM} {k : Nat} {v : Int32} (hk : k ∈ l) (h : FrX l M M1) : FrX l M (s_I M1 113 k v) := ⟨h.1, h.2.1, fun a j q => by
  rw [aI_sI, if_neg (fun e => q e.1 (by rw [e.2]; exact hk))]
  exact h.2.2.1 a j q, h.2.2.2⟩
theorem Fx_j {l : List Nat} {M M1 : aM} {v : Int64} (h : FrX l M M1) : FrX l M (s_J M1 113 15 v) := ⟨h.1, h.2.1, h.2.2.1, fun a k q => by
  rw [aJ_sJ, if_neg q]
  exact h.2.2.2 a k q⟩
theorem Fx_A {T : nv_T} {τ : Nat → Nat} {l : List Nat} {M M1 : aM} (h : FrX l M M1) (hA : nv_A T τ M) : nv_A T τ M1 := by
  obtain ⟨⟨h1, _, _⟩, ⟨h2, h3, h4⟩, _⟩ := h
  unfold nv_A at hA ⊢
  rw [h1, h2, h3, h4]
  exact hA
theorem Fx_E {τ : Nat → Nat} {B : Nat → Int} {lim : Nat} {l : List Nat} {M M1 : aM} (h7 : 7 ∉ l) (h : FrX l M M1) (hE : EnR τ B lim M) : EnR τ B lim M1 := by
  obtain ⟨e1, e2, e3, e4, e5⟩ := hE
  refine ⟨Fx_A h e1, fun k hk => ?_, ?_, e4, e5⟩
  · rw [h.2.2.1 114 k (fun e => absurd e (by decide))]; exact e2 k hk
  · rw [h.2.2.1 113 7 (fun _ => h7)]; exact e3
theorem Fx_I {l : List Nat} {M M1 : aM} (h : FrX l M M1) {k : Nat} (hk : k ∉ l) : a_I M1 113 k = a_I M 113 k := h.2.2.1 113 k (fun _ => hk)
/-- instructions on longs -/
theorem nv_z {cd : Nat → Nat → Option aI} {z : Bool} (hz : ∀ m p i, cd0 z m p = some i → cd m p = some i) {τ : Nat → Nat} {d mid pc pc' : Nat} {fs : List aFr} {lo lo' : aL} {st st' : List aV} {M M' : aM} {Q : aQ} {i : aI} (hi : cd0 z mid pc = some i) (he : i (nv_l τ lo) (nv_t τ st) M = some (.inl (pc', nv_l τ lo', nv_t τ st', M'))) (h : wpS cd (nv_S τ (d, fs, mid, pc', lo', st', M')) Q) : wpS cd (nv_S τ (d, fs, mid, pc, lo, st, M)) Q := wp_step (hz _ _ _ hi) he h
theorem nv_putj {cd : Nat → Nat → Option aI} {z : Bool} (hz : ∀ m p i, cd0 z m p = some i → cd m p = some i) {T : nv_T} {τ : Nat → Nat} {d mid pc nx ci k a : Nat} {fs : List aFr} {lo : aL} {st : List aV} {M : aM} {Q : aQ} {x : Int64} (hA : nv_A T τ M) (hi : cd0 z mid pc = some (j_putj nx ci k)) (hk : T.1 a = ci + 1) (h : wpS cd (nv_S τ (d, fs, mid, nx, lo, st, s_J M (nv_s τ a) k x)) Q) : wpS cd (nv_S τ (d, fs, mid, pc, lo, .inr (.inl x) :: .inr (.inr (some a)) :: st, M)) Q := by
  refine wp_step (hz _ _ _ hi) ?_ h
  show (bif Nat.blt (nv_s τ a) (a_n M) && Nat.beq (a_K M (nv_s τ a)) ci then _ else none) = _
  rw [nv_kd hA (by rw [hk]; exact Nat.beq_refl _)]
  rfl
/-- the token at p, as the reference's fields tell it -/
def TkR (B : Nat → Int) (lim : Nat) (M : aM) (p : Nat) : Prop := (a_I M 113 10).toInt = (skp B lim p : Int) ∧ ((knd B lim p = 0 ∧ a_I M 113 9 = 1) ∨ (knd B lim p = 1 ∧ a_I M 113 9 = 2 ∧ (a_I M 113 8).toInt = (nxt B lim p : Int) ∧ (a_J M 113 15).toInt = hsh (gt9 B lim) (skp B lim p) (nxt B lim p - skp B lim p)) ∨ (knd B lim p = 2 ∧ a_I M 113 9 = 3 ∧ (a_I M 113 8).toInt = (nxt B lim p : Int) ∧ (a_I M 113 12).toInt = val B lim p) ∨ (knd B lim p = 3 ∧ a_I M 113 9 = 4 ∧ a_I M 113 11 = 59 ∧ (a_I M 113 8).toInt = (nxt B lim p : Int)) ∨ (knd B lim p = 4 ∧ (a_I M 113 9 = 0 ∨ (a_I M 113 9 = 4 ∧ a_I M 113 11 = 44))))
set_option maxHeartbeats 4000000 in
theorem r_byteAt {cd : Nat → Nat → Option aI} {z : Bool} (hz : ∀ m p i, cd0 z m p = some i → cd m p = some i) {τ : Nat → Nat} {B : Nat → Int} {lim : Nat} {M : aM} (hE : EnR τ B lim M) {k : Int32} {p : Nat} (hk : k.toInt = (p : Int)) {d : Nat} : wpS cd (d, [], 158, 0, nv_l τ (la 0 [.inr (.inr (some 113)), .inl k]), [], M) (fun r M' => ∃ x, r = some (.inl x) ∧ M' = M ∧ x.toInt = gt9 B lim p) := by
  show wpS cd (nv_S τ (d, [], 158, 0, la 0 [.inr (.inr (some 113)), .inl k], [], M)) _
  have hct := hc_of hz
  refine nv_cut hct nvR 158 5 6 (S' := (d, [], 158, 5, [(0, .inr (.inr (some 113))), (1, .inl k)], [.inl (a_I M 113 7), .inl k], M)) hE.1 rfl ?_
  have hl := hE.2.2.2.1
  by_cases hc : p < lim
  · skip
    refine nv_ifc hct false rfl (ccF4 hk hE.2.2.1 (by omega)) ?_
    refine nv_cut hct nvR 158 13 6 (S' := (d, [], 158, 13, [(0, .inr (.inr (some 113))), (1, .inl k)], [.inl k, .inr (.inr (some 114))], M)) hE.1 rfl ?_
    refine nv_ald hct hE.1 rfl (show nvR.1 114 = 14 + 1 from rfl) (show nvR.2.1 114 = 700 + 1 from rfl) (inb_p hk (by omega)) ?_
    refine nv_cut hct nvR 158 22 6 (S' := (d, [], 158, 22, [(0, .inr (.inr (some 113))), (1, .inl k)], [.inl ((a_I M 114 k.toNatClampNeg) &&& (255 : Int32))], M)) hE.1 rfl ?_
    exact nv_iret hct rfl rfl ⟨_, rfl, rfl, by rw [tnc hk, hE.2.1 p (by omega)]; exact (if_pos hc).symm⟩
  · skip
    refine nv_ifc hct true rfl (ccT4 hk hE.2.2.1 (by omega)) ?_
    refine nv_cut hct nvR 158 22 4 (S' := (d, [], 158, 22, [(0, .inr (.inr (some 113))), (1, .inl k)], [.inl (-1 : Int32)], M)) hE.1 rfl ?_
    exact nv_iret hct rfl rfl ⟨_, rfl, rfl, (if_neg hc).symm⟩
set_option maxHeartbeats 4000000 in
theorem r_isLt {cd : Nat → Nat → Option aI} {z : Bool} (hz : ∀ m p i, cd0 z m p = some i → cd m p = some i) {τ : Nat → Nat} {B : Nat → Int} {lim : Nat} {M : aM} (hE : EnR τ B lim M) {c : Int32} {v : Int} (hc : c.toInt = v) {d : Nat} : wpS cd (d, [], 159, 0, nv_l τ (la 0 [.inl c]), [], M) (fun r M' => ∃ x, r = some (.inl x) ∧ M' = M ∧ x = (bif isLt v then 1 else 0)) := by
  show wpS cd (nv_S τ (d, [], 159, 0, la 0 [.inl c], [], M)) _
  have hct := hc_of hz
  refine nv_cut hct nvR 159 3 5 (S' := (d, [], 159, 3, [(0, .inl c)], [.inl (97 : Int32), .inl c], M)) hE.1 rfl ?_
  by_cases h1 : v < 97
  · skip
    refine nv_ifc hct true rfl (ccT0 hc (show ((97 : Int32)).toInt = 97 from rfl) (by omega)) ?_
    refine nv_cut hct nvR 159 17 4 (S' := (d, [], 159, 17, [(0, .inl c)], [.inl (0 : Int32)], M)) hE.1 rfl ?_
    exact nv_iret hct rfl rfl ⟨_, rfl, rfl, by cases hb : isLt v with | false => rfl | true => exact absurd (isLt_T hb) (by omega)⟩
  · skip
    refine nv_ifc hct false rfl (ccF0 hc (show ((97 : Int32)).toInt = 97 from rfl) (by omega)) ?_
    refine nv_cut hct nvR 159 9 5 (S' := (d, [], 159, 9, [(0, .inl c)], [.inl (122 : Int32), .inl c], M)) hE.1 rfl ?_
    by_cases h2 : 122 < v
    · skip
      refine nv_ifc hct true rfl (ccT3 hc (show ((122 : Int32)).toInt = 122 from rfl) (by omega)) ?_
      refine nv_cut hct nvR 159 17 4 (S' := (d, [], 159, 17, [(0, .inl c)], [.inl (0 : Int32)], M)) hE.1 rfl ?_
      exact nv_iret hct rfl rfl ⟨_, rfl, rfl, by cases hb : isLt v with | false => rfl | true => exact absurd (isLt_T hb) (by omega)⟩
    · skip
      refine nv_ifc hct false rfl (ccF3 hc (show ((122 : Int32)).toInt = 122 from rfl) (by omega)) ?_
      refine nv_cut hct nvR 159 17 5 (S' := (d, [], 159, 17, [(0, .inl c)], [.inl (1 : Int32)], M)) hE.1 rfl ?_
      exact nv_iret hct rfl rfl ⟨_, rfl, rfl, by rw [isLt_i (by omega)]; rfl⟩
set_option maxHeartbeats 4000000 in
theorem r_isDg {cd : Nat → Nat → Option aI} {z : Bool} (hz : ∀ m p i, cd0 z m p = some i → cd m p = some i) {τ : Nat → Nat} {B : Nat → Int} {lim : Nat} {M : aM} (hE : EnR τ B lim M) {c : Int32} {v : Int} (hc : c.toInt = v) {d : Nat} : wpS cd (d, [], 160, 0, nv_l τ (la 0 [.inl c]), [], M) (fun r M' => ∃ x, r = some (.inl x) ∧ M' = M ∧ x = (bif isDg v then 1 else 0)) := by
  show wpS cd (nv_S τ (d, [], 160, 0, la 0 [.inl c], [], M)) _
  have hct := hc_of hz
  refine nv_cut hct nvR 160 3 5 (S' := (d, [], 160, 3, [(0, .inl c)], [.inl (48 : Int32), .inl c], M)) hE.1 rfl ?_
  by_cases h1 : v < 48
  · skip
    refine nv_ifc hct true rfl (ccT0 hc (show ((48 : Int32)).toInt = 48 from rfl) (by omega)) ?_
    refine nv_cut hct nvR 160 17 4 (S' := (d, [], 160, 17, [(0, .inl c)], [.inl (0 : Int32)], M)) hE.1 rfl ?_
    exact nv_iret hct rfl rfl ⟨_, rfl, rfl, by cases hb : isDg v with | false => rfl | true => exact absurd (isDg_T hb) (by omega)⟩
  · skip
    refine nv_ifc hct false rfl (ccF0 hc (show ((48 : Int32)).toInt = 48 from rfl) (by omega)) ?_
    refine nv_cut hct nvR 160 9 5 (S' := (d, [], 160, 9, [(0, .inl c)], [.inl (57 : Int32), .inl c], M)) hE.1 rfl ?_
    by_cases h2 : 57 < v
    · skip
      refine nv_ifc hct true rfl (ccT3 hc (show ((57 : Int32)).toInt = 57 from rfl) (by omega)) ?_
      refine nv_cut hct nvR 160 17 4 (S' := (d, [], 160, 17, [(0, .inl c)], [.inl (0 : Int32)], M)) hE.1 rfl ?_
      exact nv_iret hct rfl rfl ⟨_, rfl, rfl, by cases hb : isDg v with | false => rfl | true => exact absurd (isDg_T hb) (by omega)⟩
    · skip
      refine nv_ifc hct false rfl (ccF3 hc (show ((57 : Int32)).toInt = 57 from rfl) (by omega)) ?_
      refine nv_cut hct nvR 160 17 5 (S' := (d, [], 160, 17, [(0, .inl c)], [.inl (1 : Int32)], M)) hE.1 rfl ?_
      exact nv_iret hct rfl rfl ⟨_, rfl, rfl, by rw [isDg_i (by omega)]; rfl⟩
set_option maxHeartbeats 4000000 in
theorem r_skip {cd : Nat → Nat → Option aI} {z : Bool} (hz : ∀ m p i, cd0 z m p = some i → cd m p = some i) {τ : Nat → Nat} {B : Nat → Int} {lim : Nat} {d : Nat} {Q : aQ} : ∀ (n : Nat) {q : Nat} {M : aM}, 701 - q = n → q ≤ lim → EnR τ B lim M → (a_I M 113 8).toInt = (q : Int) → (∀ M1, FrX [8] M M1 → (a_I M1 113 8).toInt = (skp B lim q : Int) → wpS cd (nv_S τ (d + 1, [], 162, 35, [(0, .inr (.inr (some 113)))], [], M1)) Q) → wpS cd (nv_S τ (d + 1, [], 162, 9, [(0, .inr (.inr (some 113)))], [], M)) Q := by
  have hct := hc_of hz
  intro n
  induction n with
  | zero => intro q M hn hq hE; have := hE.2.2.2.1; omega
  | succ n ih =>
    intro q M hn hq hE hat h
    have hl := hE.2.2.2.1
    refine nv_cut hct nvR 158 0 7 (S' := (d, [(162, 17, [(0, .inr (.inr (some 113)))], [])], 158, 0, la 0 [.inr (.inr (some 113)), .inl (a_I M 113 8)], [], M)) hE.1 rfl ?_
    refine nv_calli (r_byteAt hz hE hat) (fun x M1 ⟨e1, hx⟩ => ?_)
    subst e1
    refine nv_cut hct nvR 162 19 4 (S' := (d + 1, [], 162, 19, [(0, .inr (.inr (some 113)))], [.inl (32 : Int32), .inl x], M1)) hE.1 rfl ?_
    by_cases hc : gt9 B lim q = 32
    · skip
      refine nv_ifc hct false rfl (ccF5 hx (show ((32 : Int32)).toInt = 32 from rfl) hc) ?_
      refine nv_cut hct nvR 162 9 10 (S' := (d + 1, [], 162, 9, [(0, .inr (.inr (some 113)))], [], (s_I M1 113 8 ((a_I M1 113 8) + (1 : Int32))))) hE.1 rfl ?_
      have hq2 := gt9_in (B := B) (lim := lim) (k := q) (by omega)
      have h8 := add_p hat (by omega) (by omega)
      refine ih (q := q + 1) (by omega) (by omega) (En_s (by decide) hE) (by show (a_I M1 113 8 + 1).toInt = _; rw [h8]; omega) (fun M2 f2 h2 => h M2 (Fx_tr (Fx_s (by decide) Fx_rf) f2) ?_)
      rw [h2]; unfold skp; rw [fwd_T (p := q) (by omega) (decide_eq_true hc)]
    · skip
      refine nv_ifc hct true rfl (ccT5 hx (show ((32 : Int32)).toInt = 32 from rfl) hc) ?_
      exact h M1 Fx_rf (by rw [hat]; unfold skp; rw [fwd_F (decide_eq_false hc)])
theorem i64_st {W : Int64} {x : Int32} {w c : Int} (hw : W.toInt = w) (hx : x.toInt = c) (w1 : 0 ≤ w) (w2 : w ≤ 1099511627776) (c1 : 0 ≤ c) (c2 : c ≤ 255) : ((32 : Int64) * W + (x - 97 + 1).toInt64).toInt = 32 * w + (c - 96) := by
  have e1 : (x - 97).toInt = c - 97 := by
    rw [sub_i]
    · rw [hx]; rfl
    · rw [hx]; show (-2147483648 : Int) ≤ c - 97; omega
    · rw [hx]; show c - 97 ≤ (2147483647 : Int); omega
  have e2 : (x - 97 + 1).toInt = c - 96 := by
    rw [add_i]
    · rw [e1]; show c - 97 + 1 = c - 96; omega
    · rw [e1]; show (-2147483648 : Int) ≤ c - 97 + 1; omega
    · rw [e1]; show c - 97 + 1 ≤ (2147483647 : Int); omega
  rw [Int64.toInt_add, Int64.toInt_mul, Int32.toInt_toInt64, e2, hw]
  rw [show (32 : Int64).toInt = 32 from rfl]
  rw [Int.bmod_eq_of_le (n := 32 * w) (by omega) (by omega)]
  exact Int.bmod_eq_of_le (by omega) (by omega)
theorem i32_st {W x : Int32} {w c : Int} (hw : W.toInt = w) (hx : x.toInt = c) (w1 : 0 ≤ w) (w2 : w ≤ 99999) (c1 : -1 ≤ c) (c2 : c ≤ 255) : ((10 : Int32) * W + x - 48).toInt = 10 * w + c - 48 := by
  have e1 : ((10 : Int32) * W).toInt = 10 * w := by
    rw [mul_i]
    · rw [hw]; rfl
    · rw [hw]; show (-2147483648 : Int) ≤ 10 * w; omega
    · rw [hw]; show 10 * w ≤ (2147483647 : Int); omega
  have e2 : ((10 : Int32) * W + x).toInt = 10 * w + c := by
    rw [add_i]
    · rw [e1, hx]
    · rw [e1, hx]; show (-2147483648 : Int) ≤ 10 * w + c; omega
    · rw [e1, hx]; show 10 * w + c ≤ (2147483647 : Int); omega
  rw [sub_i]
  · rw [e2]; rfl
  · rw [e2]; show (-2147483648 : Int) ≤ 10 * w + c - 48; omega
  · rw [e2]; show 10 * w + c - 48 ≤ (2147483647 : Int); omega
theorem hsh_8 {g : Nat → Int} {s k : Nat} (hk : k ≤ 8) (h : ∀ j, j < k → isLt (g (s + j)) = true) : 0 ≤ hsh g s k ∧ hsh g s k ≤ 1099511627776 := by
  have h1 := hsh_bd h
  have h2 : 32 ^ k ≤ 32 ^ 8 := Nat.pow_le_pow_right (by decide) hk
  have h3 : (32 ^ 8 : Nat) = 1099511627776 := by decide
  omega
theorem vfd_3 {g : Nat → Int} {s k : Nat} (hk : k ≤ 3) (h : ∀ j, j < k → isDg (g (s + j)) = true) : 0 ≤ vfd g s k ∧ vfd g s k ≤ 999 := by
  have h1 := vfd_bd hk h
  have h2 : 10 ^ k ≤ 10 ^ 3 := Nat.pow_le_pow_right (by decide) hk
  have h3 : (10 ^ 3 : Nat) = 1000 := by decide
  omega
set_option maxHeartbeats 4000000 in
theorem r_let {cd : Nat → Nat → Option aI} {z : Bool} (hz : ∀ m p i, cd0 z m p = some i → cd m p = some i) {τ : Nat → Nat} {B : Nat → Int} {lim : Nat} {d : Nat} {Q : aQ} {s : Nat} {c : Int32} : ∀ (k : Nat) {n : Nat} {nn : Int32} {M : aM}, 701 - (s + n) = k → s + n ≤ lim → EnR τ B lim M → nn.toInt = (n : Int) → (a_I M 113 8).toInt = ((s + n : Nat) : Int) → (a_J M 113 15).toInt = hsh (gt9 B lim) s (min n 8) → (∀ j, j < n → isLt (gt9 B lim (s + j)) = true) → ewd B lim (s + n) = ewd B lim s → (∀ M1 nn1, FrX [8] M M1 → nn1.toInt = ((ewd B lim s - s : Nat) : Int) → (a_I M1 113 8).toInt = (ewd B lim s : Int) → (a_J M1 113 15).toInt = hsh (gt9 B lim) s (min (ewd B lim s - s) 8) → (∀ j, j < ewd B lim s - s → isLt (gt9 B lim (s + j)) = true) → wpS cd (nv_S τ (d + 1, [], 162, 152, [(2, .inl nn1), (1, .inl c), (0, .inr (.inr (some 113)))], [], M1)) Q) → wpS cd (nv_S τ (d + 1, [], 162, 89, [(2, .inl nn), (1, .inl c), (0, .inr (.inr (some 113)))], [], M)) Q := by
  have hct := hc_of hz
  intro k
  induction k with
  | zero => intro n nn M hn hq hE; have := hE.2.2.2.1; omega
  | succ k ih =>
    intro n nn M hn hq hE hnn hat hw hall hfw h
    have hl := hE.2.2.2.1
    refine nv_cut hct nvR 158 0 7 (S' := (d, [(162, 97, [(2, .inl nn), (1, .inl c), (0, .inr (.inr (some 113)))], [])], 158, 0, la 0 [.inr (.inr (some 113)), .inl (a_I M 113 8)], [], M)) hE.1 rfl ?_
    refine nv_calli (r_byteAt hz hE hat) (fun x M1 ⟨e1, hx⟩ => ?_)
    subst e1
    refine nv_cut hct nvR 159 0 4 (S' := (d, [(162, 100, [(2, .inl nn), (1, .inl c), (0, .inr (.inr (some 113)))], [])], 159, 0, la 0 [.inl x], [], M1)) hE.1 rfl ?_
    refine nv_calli (r_isLt hz hE hx) (fun y M2 ⟨e2, hy⟩ => ?_)
    subst e2
    refine nv_cut hct nvR 162 100 3 (S' := (d + 1, [], 162, 100, [(2, .inl nn), (1, .inl c), (0, .inr (.inr (some 113)))], [.inl y], M2)) hE.1 rfl ?_
    cases hb : isLt (gt9 B lim (s + n)) with
    | false =>
      refine nv_if hct true rfl (zcT1 (show y.toInt = 0 by rw [hy, hb]; rfl) rfl) ?_
      have e0 : ewd B lim s = s + n := by rw [← hfw]; exact fwd_F hb
      exact h M2 nn Fx_rf (by rw [hnn, e0]; omega) (by rw [hat, e0]) (by rw [hw, e0, show s + n - s = n by omega]) (fun j hj => hall j (by omega))
    | true =>
      refine nv_if hct false rfl (zcF1 (show y.toInt = 1 by rw [hy, hb]; rfl) (by decide)) ?_
      have hin := gt9_in (B := B) (lim := lim) (k := s + n) (by have := isLt_T hb; omega)
      have hall2 : ∀ j, j < n + 1 → isLt (gt9 B lim (s + j)) = true := fun j hj => by
        by_cases e : j < n
        · exact hall j e
        · have : j = n := by omega
          subst this; exact hb
      have hfw2 : ewd B lim (s + (n + 1)) = ewd B lim s := by rw [← hfw]; exact (fwd_T (p := s + n) (by omega) hb).symm
      have h8 := add_p hat (by omega) (by omega)
      have hn1 : (nn + 1).toInt = ((n + 1 : Nat) : Int) := by rw [add_p hnn (by omega) (by omega)]; omega
      refine nv_cut hct nvR 162 106 5 (S' := (d + 1, [], 162, 106, [(2, .inl nn), (1, .inl c), (0, .inr (.inr (some 113)))], [.inl (8 : Int32), .inl nn], M2)) hE.1 rfl ?_
      by_cases h9 : n < 8
      · skip
        refine nv_ifc hct false rfl (ccF4 hnn (show ((8 : Int32)).toInt = 8 from rfl) (by omega)) ?_
        refine nv_cut hct nvR 162 110 4 (S' := (d + 1, [], 162, 110, [(2, .inl nn), (1, .inl c), (0, .inr (.inr (some 113)))], [.inr (.inr (some 113))], M2)) hE.1 rfl ?_
        refine nv_z hz (lo' := [(2, .inl nn), (1, .inl c), (0, .inr (.inr (some 113)))]) (st' := [.inr (.inl (32 : Int64)), .inr (.inr (some 113))]) (M' := M2) rfl rfl ?_
        refine nv_cut hct nvR 162 117 5 (S' := (d + 1, [], 162, 117, [(2, .inl nn), (1, .inl c), (0, .inr (.inr (some 113)))], [.inr (.inl (a_J M2 113 15)), .inr (.inl (32 : Int64)), .inr (.inr (some 113))], M2)) hE.1 rfl ?_
        refine nv_z hz (lo' := [(2, .inl nn), (1, .inl c), (0, .inr (.inr (some 113)))]) (st' := [.inr (.inl ((32 : Int64) * (a_J M2 113 15))), .inr (.inr (some 113))]) (M' := M2) rfl rfl ?_
        refine nv_cut hct nvR 158 0 7 (S' := (d, [(162, 126, [(2, .inl nn), (1, .inl c), (0, .inr (.inr (some 113)))], [.inr (.inl ((32 : Int64) * (a_J M2 113 15))), .inr (.inr (some 113))])], 158, 0, la 0 [.inr (.inr (some 113)), .inl (a_I M2 113 8)], [], M2)) hE.1 rfl ?_
        refine nv_calli (r_byteAt hz hE hat) (fun x3 M3 ⟨e3, hx3⟩ => ?_)
        subst e3
        refine nv_cut hct nvR 162 131 7 (S' := (d + 1, [], 162, 131, [(2, .inl nn), (1, .inl c), (0, .inr (.inr (some 113)))], [.inl ((x3 - (97 : Int32)) + (1 : Int32)), .inr (.inl ((32 : Int64) * (a_J M3 113 15))), .inr (.inr (some 113))], M3)) hE.1 rfl ?_
        refine nv_z hz (lo' := [(2, .inl nn), (1, .inl c), (0, .inr (.inr (some 113)))]) (st' := [.inr (.inl (((x3 - (97 : Int32)) + (1 : Int32)).toInt64)), .inr (.inl ((32 : Int64) * (a_J M3 113 15))), .inr (.inr (some 113))]) (M' := M3) rfl rfl ?_
        refine nv_z hz (lo' := [(2, .inl nn), (1, .inl c), (0, .inr (.inr (some 113)))]) (st' := [.inr (.inl ((32 : Int64) * (a_J M3 113 15) + (((x3 - (97 : Int32)) + (1 : Int32)).toInt64))), .inr (.inr (some 113))]) (M' := M3) rfl rfl ?_
        refine nv_putj hz hE.1 rfl (show nvR.1 113 = 13 + 1 from rfl) ?_
        refine nv_cut hct nvR 162 89 11 (S' := (d + 1, [], 162, 89, [(2, .inl (nn + 1)), (1, .inl c), (0, .inr (.inr (some 113)))], [], (s_I (s_J M3 113 15 ((32 : Int64) * (a_J M3 113 15) + (((x3 - (97 : Int32)) + (1 : Int32)).toInt64))) 113 8 ((a_I M3 113 8) + (1 : Int32))))) (En_j hE).1 rfl ?_
        have hm : min n 8 = n := by omega
        have hm2 : min (n + 1) 8 = n + 1 := by omega
        rw [hm] at hw
        have hb8 := hsh_8 (g := gt9 B lim) (s := s) (k := n) (by omega) hall
        have hlb := isLt_T hb
        have hst := i64_st hw hx3 hb8.1 hb8.2 (by omega) (by omega)
        refine ih (n := n + 1) (by omega) (by omega) (En_s (by decide) (En_j hE)) hn1 (by show (a_I M3 113 8 + 1).toInt = _; rw [h8]; omega) (by rw [hm2]; exact hst) hall2 hfw2 (fun M4 nn4 f4 => h M4 nn4 (Fx_tr (Fx_s (by decide) (Fx_j Fx_rf)) f4))
      · skip
        refine nv_ifc hct true rfl (ccT4 hnn (show ((8 : Int32)).toInt = 8 from rfl) (by omega)) ?_
        refine nv_cut hct nvR 162 89 11 (S' := (d + 1, [], 162, 89, [(2, .inl (nn + 1)), (1, .inl c), (0, .inr (.inr (some 113)))], [], (s_I M2 113 8 ((a_I M2 113 8) + (1 : Int32))))) hE.1 rfl ?_
        refine ih (n := n + 1) (by omega) (by omega) (En_s (by decide) hE) hn1 (by show (a_I M2 113 8 + 1).toInt = _; rw [h8]; omega) (by rw [show min (n + 1) 8 = min n 8 by omega]; exact hw) hall2 hfw2 (fun M4 nn4 f4 => h M4 nn4 (Fx_tr (Fx_s (by decide) Fx_rf) f4))
set_option maxHeartbeats 4000000 in
theorem r_dig {cd : Nat → Nat → Option aI} {z : Bool} (hz : ∀ m p i, cd0 z m p = some i → cd m p = some i) {τ : Nat → Nat} {B : Nat → Int} {lim : Nat} {d : Nat} {Q : aQ} {s : Nat} {c : Int32} : ∀ (k : Nat) {n : Nat} {nn : Int32} {M : aM}, 701 - (s + n) = k → s + n ≤ lim → EnR τ B lim M → nn.toInt = (n : Int) → (a_I M 113 8).toInt = ((s + n : Nat) : Int) → (a_I M 113 12).toInt = vfd (gt9 B lim) s (min n 3) → (∀ j, j < n → isDg (gt9 B lim (s + j)) = true) → edg B lim (s + n) = edg B lim s → (∀ M1 nn1, FrX [8, 12] M M1 → nn1.toInt = ((edg B lim s - s : Nat) : Int) → (a_I M1 113 8).toInt = (edg B lim s : Int) → (a_I M1 113 12).toInt = vfd (gt9 B lim) s (min (edg B lim s - s) 3) → (∀ j, j < edg B lim s - s → isDg (gt9 B lim (s + j)) = true) → wpS cd (nv_S τ (d + 1, [], 162, 236, [(2, .inl nn1), (1, .inl c), (0, .inr (.inr (some 113)))], [], M1)) Q) → wpS cd (nv_S τ (d + 1, [], 162, 178, [(2, .inl nn), (1, .inl c), (0, .inr (.inr (some 113)))], [], M)) Q := by
  have hct := hc_of hz
  intro k
  induction k with
  | zero => intro n nn M hn hq hE; have := hE.2.2.2.1; omega
  | succ k ih =>
    intro n nn M hn hq hE hnn hat hw hall hfw h
    have hl := hE.2.2.2.1
    refine nv_cut hct nvR 158 0 7 (S' := (d, [(162, 186, [(2, .inl nn), (1, .inl c), (0, .inr (.inr (some 113)))], [])], 158, 0, la 0 [.inr (.inr (some 113)), .inl (a_I M 113 8)], [], M)) hE.1 rfl ?_
    refine nv_calli (r_byteAt hz hE hat) (fun x M1 ⟨e1, hx⟩ => ?_)
    subst e1
    refine nv_cut hct nvR 160 0 4 (S' := (d, [(162, 189, [(2, .inl nn), (1, .inl c), (0, .inr (.inr (some 113)))], [])], 160, 0, la 0 [.inl x], [], M1)) hE.1 rfl ?_
    refine nv_calli (r_isDg hz hE hx) (fun y M2 ⟨e2, hy⟩ => ?_)
    subst e2
    refine nv_cut hct nvR 162 189 3 (S' := (d + 1, [], 162, 189, [(2, .inl nn), (1, .inl c), (0, .inr (.inr (some 113)))], [.inl y], M2)) hE.1 rfl ?_
    cases hb : isDg (gt9 B lim (s + n)) with
    | false =>
      refine nv_if hct true rfl (zcT1 (show y.toInt = 0 by rw [hy, hb]; rfl) rfl) ?_
      have e0 : edg B lim s = s + n := by rw [← hfw]; exact fwd_F hb
      exact h M2 nn Fx_rf (by rw [hnn, e0]; omega) (by rw [hat, e0]) (by rw [hw, e0, show s + n - s = n by omega]) (fun j hj => hall j (by omega))
    | true =>
      refine nv_if hct false rfl (zcF1 (show y.toInt = 1 by rw [hy, hb]; rfl) (by decide)) ?_
      have hin := gt9_in (B := B) (lim := lim) (k := s + n) (by have := isDg_T hb; omega)
      have hall2 : ∀ j, j < n + 1 → isDg (gt9 B lim (s + j)) = true := fun j hj => by
        by_cases e : j < n
        · exact hall j e
        · have : j = n := by omega
          subst this; exact hb
      have hfw2 : edg B lim (s + (n + 1)) = edg B lim s := by rw [← hfw]; exact (fwd_T (p := s + n) (by omega) hb).symm
      have h8 := add_p hat (by omega) (by omega)
      have hn1 : (nn + 1).toInt = ((n + 1 : Nat) : Int) := by rw [add_p hnn (by omega) (by omega)]; omega
      refine nv_cut hct nvR 162 194 5 (S' := (d + 1, [], 162, 194, [(2, .inl nn), (1, .inl c), (0, .inr (.inr (some 113)))], [.inl (3 : Int32), .inl nn], M2)) hE.1 rfl ?_
      by_cases h9 : n < 3
      · skip
        refine nv_ifc hct false rfl (ccF4 hnn (show ((3 : Int32)).toInt = 3 from rfl) (by omega)) ?_
        refine nv_cut hct nvR 158 0 12 (S' := (d, [(162, 213, [(2, .inl nn), (1, .inl c), (0, .inr (.inr (some 113)))], [.inl ((10 : Int32) * (a_I M2 113 12)), .inr (.inr (some 113))])], 158, 0, la 0 [.inr (.inr (some 113)), .inl (a_I M2 113 8)], [], M2)) hE.1 rfl ?_
        refine nv_calli (r_byteAt hz hE hat) (fun x3 M3 ⟨e3, hx3⟩ => ?_)
        subst e3
        refine nv_cut hct nvR 162 178 15 (S' := (d + 1, [], 162, 178, [(2, .inl (nn + 1)), (1, .inl c), (0, .inr (.inr (some 113)))], [], (s_I (s_I M3 113 12 ((((10 : Int32) * (a_I M3 113 12)) + x3) - (48 : Int32))) 113 8 ((a_I M3 113 8) + (1 : Int32))))) hE.1 rfl ?_
        have hm : min n 3 = n := by omega
        have hm2 : min (n + 1) 3 = n + 1 := by omega
        rw [hm] at hw
        have hb8 := vfd_3 (g := gt9 B lim) (s := s) (k := n) (by omega) hall
        have hlb := isDg_T hb
        have hst := i32_st hw hx3 hb8.1 (by omega) (by omega) (by omega)
        refine ih (n := n + 1) (by omega) (by omega) (En_s (by decide) (En_s (by decide) hE)) hn1 (by show (a_I M3 113 8 + 1).toInt = _; rw [h8]; omega) (by rw [hm2]; exact hst) hall2 hfw2 (fun M4 nn4 f4 => h M4 nn4 (Fx_tr (Fx_s (by decide) (Fx_s (by decide) Fx_rf)) f4))
      · skip
        refine nv_ifc hct true rfl (ccT4 hnn (show ((3 : Int32)).toInt = 3 from rfl) (by omega)) ?_
        refine nv_cut hct nvR 162 178 11 (S' := (d + 1, [], 162, 178, [(2, .inl (nn + 1)), (1, .inl c), (0, .inr (.inr (some 113)))], [], (s_I M2 113 8 ((a_I M2 113 8) + (1 : Int32))))) hE.1 rfl ?_
        refine ih (n := n + 1) (by omega) (by omega) (En_s (by decide) hE) hn1 (by show (a_I M2 113 8 + 1).toInt = _; rw [h8]; omega) (by rw [show min (n + 1) 3 = min n 3 by omega]; exact hw) hall2 hfw2 (fun M4 nn4 f4 => h M4 nn4 (Fx_tr (Fx_s (by decide) Fx_rf) f4))
set_option maxHeartbeats 4000000 in
theorem r_over {cd : Nat → Nat → Option aI} {z : Bool} (hz : ∀ m p i, cd0 z m p = some i → cd m p = some i) {τ : Nat → Nat} {B : Nat → Int} {lim : Nat} {M : aM} (hE : EnR τ B lim M) (hs : (a_I M 113 9).toInt = 5) {d : Nat} : wpS cd (d, [], 162, 0, nv_l τ (la 0 [.inr (.inr (some 113))]), [], M) (fun r M' => r = none ∧ M' = M) := by
  show wpS cd (nv_S τ (d, [], 162, 0, la 0 [.inr (.inr (some 113))], [], M)) _
  have hct := hc_of hz
  refine nv_cut hct nvR 162 5 6 (S' := (d, [], 162, 5, [(0, .inr (.inr (some 113)))], [.inl (5 : Int32), .inl (a_I M 113 9)], M)) hE.1 rfl ?_
  refine nv_ifc hct false rfl (ccF5 hs (show ((5 : Int32)).toInt = 5 from rfl) rfl) ?_
  refine nv_cut hct nvR 162 8 3 (S' := (d, [], 162, 8, [(0, .inr (.inr (some 113)))], [], M)) hE.1 rfl ?_
  exact nv_vret hct rfl ⟨rfl, rfl⟩
set_option maxHeartbeats 8000000 in
theorem r_goesOn {cd : Nat → Nat → Option aI} {z : Bool} (hz : ∀ m p i, cd0 z m p = some i → cd m p = some i) {τ : Nat → Nat} {B : Nat → Int} {lim : Nat} {M : aM} (hE : EnR τ B lim M) {q : Nat} (hq : q ≤ lim) (hat : (a_I M 113 8).toInt = (q : Int)) (hs : (a_I M 113 9).toInt ≠ 5) {d : Nat} : wpS cd (d + 1, [], 162, 0, nv_l τ (la 0 [.inr (.inr (some 113))]), [], M) (fun r M' => r = none ∧ FrX [8, 9, 10, 11, 12] M M' ∧ TkR B lim M' q) := by
  show wpS cd (nv_S τ (d + 1, [], 162, 0, la 0 [.inr (.inr (some 113))], [], M)) _
  have hct := hc_of hz
  have hl := hE.2.2.2.1
  refine nv_cut hct nvR 162 5 6 (S' := (d + 1, [], 162, 5, [(0, .inr (.inr (some 113)))], [.inl (5 : Int32), .inl (a_I M 113 9)], M)) hE.1 rfl ?_
  refine nv_ifc hct true rfl (ccT5 rfl (show ((5 : Int32)).toInt = 5 from rfl) hs) ?_
  refine r_skip hz _ rfl hq hE hat (fun M1 f1 h1 => ?_)
  have E1 := Fx_E (by decide) f1 hE
  have f1 := Fx_up (l' := [8, 9, 10, 11, 12]) f1 (by decide)
  have hsl := skp_le (B := B) hq
  refine nv_cut hct nvR 158 0 17 (S' := (d, [(162, 61, [(0, .inr (.inr (some 113)))], [])], 158, 0, la 0 [.inr (.inr (some 113)), .inl (a_I M1 113 8)], [], (s_I (s_I (s_I M1 113 10 (a_I M1 113 8)) 113 9 (0 : Int32)) 113 11 (0 : Int32)))) E1.1 rfl ?_
  have E2 : EnR τ B lim (s_I (s_I (s_I M1 113 10 (a_I M1 113 8)) 113 9 (0 : Int32)) 113 11 (0 : Int32)) := (En_s (by decide) (En_s (by decide) (En_s (by decide) E1)))
  refine nv_calli (r_byteAt hz E2 (p := skp B lim q) h1) (fun c M2 ⟨e2, hx⟩ => ?_)
  subst e2
  have f2 : FrX [8, 9, 10, 11, 12] M (s_I (s_I (s_I M1 113 10 (a_I M1 113 8)) 113 9 (0 : Int32)) 113 11 (0 : Int32)) := Fx_s (by decide) (Fx_s (by decide) (Fx_s (by decide) f1))
  refine nv_cut hct nvR 162 66 8 (S' := (d + 1, [], 162, 66, [(2, .inl (0 : Int32)), (1, .inl c), (0, .inr (.inr (some 113)))], [.inl (-1 : Int32), .inl c], (s_I (s_I (s_I M1 113 10 (a_I M1 113 8)) 113 9 (0 : Int32)) 113 11 (0 : Int32)))) E2.1 rfl ?_
  by_cases hc : gt9 B lim (skp B lim q) = -1
  · skip
    refine nv_ifc hct false rfl (ccF5 hx (show ((-1 : Int32)).toInt = -1 from rfl) hc) ?_
    refine nv_cut hct nvR 162 281 7 (S' := (d + 1, [], 162, 281, [(2, .inl (0 : Int32)), (1, .inl c), (0, .inr (.inr (some 113)))], [], (s_I (s_I (s_I (s_I M1 113 10 (a_I M1 113 8)) 113 9 (0 : Int32)) 113 11 (0 : Int32)) 113 9 (1 : Int32)))) E2.1 rfl ?_
    refine nv_vret hct rfl ⟨rfl, Fx_s (by decide) f2, ?_⟩
    refine ⟨h1, Or.inl ⟨?_, rfl⟩⟩
    unfold knd; rw [hc]; rfl
  · skip
    refine nv_ifc hct true rfl (ccT5 hx (show ((-1 : Int32)).toInt = -1 from rfl) hc) ?_
    refine nv_cut hct nvR 159 0 5 (S' := (d, [(162, 81, [(2, .inl (0 : Int32)), (1, .inl c), (0, .inr (.inr (some 113)))], [])], 159, 0, la 0 [.inl c], [], (s_I (s_I (s_I M1 113 10 (a_I M1 113 8)) 113 9 (0 : Int32)) 113 11 (0 : Int32)))) E2.1 rfl ?_
    refine nv_calli (r_isLt hz E2 hx) (fun y M3 ⟨e3, hy⟩ => ?_)
    subst e3
    refine nv_cut hct nvR 162 81 3 (S' := (d + 1, [], 162, 81, [(2, .inl (0 : Int32)), (1, .inl c), (0, .inr (.inr (some 113)))], [.inl y], (s_I (s_I (s_I M1 113 10 (a_I M1 113 8)) 113 9 (0 : Int32)) 113 11 (0 : Int32)))) E2.1 rfl ?_
    cases hb : isLt (gt9 B lim (skp B lim q)) with
    | true =>
      refine nv_if hct false rfl (zcF1 (show y.toInt = 1 by rw [hy, hb]; rfl) (by decide)) ?_
      refine nv_cut hct nvR 162 85 4 (S' := (d + 1, [], 162, 85, [(2, .inl (0 : Int32)), (1, .inl c), (0, .inr (.inr (some 113)))], [.inr (.inr (some 113))], (s_I (s_I (s_I M1 113 10 (a_I M1 113 8)) 113 9 (0 : Int32)) 113 11 (0 : Int32)))) E2.1 rfl ?_
      refine nv_z hz (lo' := [(2, .inl (0 : Int32)), (1, .inl c), (0, .inr (.inr (some 113)))]) (st' := [.inr (.inl (0 : Int64)), .inr (.inr (some 113))]) (M' := (s_I (s_I (s_I M1 113 10 (a_I M1 113 8)) 113 9 (0 : Int32)) 113 11 (0 : Int32))) rfl rfl ?_
      refine nv_putj hz E2.1 rfl (show nvR.1 113 = 13 + 1 from rfl) ?_
      have hin := gt9_in (B := B) (lim := lim) (k := skp B lim q) hc
      have hnx : nxt B lim q = ewd B lim (skp B lim q) := by unfold nxt; rw [hb]; rfl
      have hkn : knd B lim q = if ewd B lim (skp B lim q) - skp B lim q ≤ 8 then 1 else 4 := by unfold knd; rw [hb]; rfl
      refine r_let hz (s := skp B lim q) _ (n := 0) rfl (by omega) (En_j E2) rfl h1 rfl (fun j hj => absurd hj (Nat.not_lt_zero j)) rfl (fun M4 nn4 f4 hn4 ha4 hw4 hall4 => ?_)
      have E4 := Fx_E (by decide) f4 (En_j E2)
      have f5 : FrX [8, 9, 10, 11, 12] M M4 := Fx_tr (Fx_j f2) (Fx_up f4 (by decide))
      have p4 : (a_I M4 113 10).toInt = (skp B lim q : Int) := by rw [Fx_I f4 (by decide)]; exact h1
      have s4 : a_I M4 113 9 = 0 := by rw [Fx_I f4 (by decide)]; rfl
      refine nv_cut hct nvR 162 155 5 (S' := (d + 1, [], 162, 155, [(2, .inl nn4), (1, .inl c), (0, .inr (.inr (some 113)))], [.inl (8 : Int32), .inl nn4], M4)) E4.1 rfl ?_
      by_cases h8 : ewd B lim (skp B lim q) - skp B lim q ≤ 8
      · skip
        refine nv_ifc hct false rfl (ccF3 hn4 (show ((8 : Int32)).toInt = 8 from rfl) (by omega)) ?_
        refine nv_cut hct nvR 162 281 7 (S' := (d + 1, [], 162, 281, [(2, .inl nn4), (1, .inl c), (0, .inr (.inr (some 113)))], [], (s_I M4 113 9 (2 : Int32)))) E4.1 rfl ?_
        refine nv_vret hct rfl ⟨rfl, Fx_s (by decide) f5, p4, Or.inr (Or.inl ⟨by rw [hkn, if_pos h8], rfl, by rw [hnx]; exact ha4, ?_⟩)⟩
        rw [hnx]; rw [show min (ewd B lim (skp B lim q) - skp B lim q) 8 = ewd B lim (skp B lim q) - skp B lim q by omega] at hw4; exact hw4
      · skip
        refine nv_ifc hct true rfl (ccT3 hn4 (show ((8 : Int32)).toInt = 8 from rfl) (by omega)) ?_
        exact nv_vret hct rfl ⟨rfl, f5, p4, Or.inr (Or.inr (Or.inr (Or.inr ⟨by rw [hkn, if_neg h8], Or.inl s4⟩)))⟩
    | false =>
      refine nv_if hct true rfl (zcT1 (show y.toInt = 0 by rw [hy, hb]; rfl) rfl) ?_
      refine nv_cut hct nvR 160 0 5 (S' := (d, [(162, 170, [(2, .inl (0 : Int32)), (1, .inl c), (0, .inr (.inr (some 113)))], [])], 160, 0, la 0 [.inl c], [], (s_I (s_I (s_I M1 113 10 (a_I M1 113 8)) 113 9 (0 : Int32)) 113 11 (0 : Int32)))) E2.1 rfl ?_
      refine nv_calli (r_isDg hz E2 hx) (fun y4 M4 ⟨e4, hy4⟩ => ?_)
      subst e4
      refine nv_cut hct nvR 162 170 3 (S' := (d + 1, [], 162, 170, [(2, .inl (0 : Int32)), (1, .inl c), (0, .inr (.inr (some 113)))], [.inl y4], (s_I (s_I (s_I M1 113 10 (a_I M1 113 8)) 113 9 (0 : Int32)) 113 11 (0 : Int32)))) E2.1 rfl ?_
      cases hd : isDg (gt9 B lim (skp B lim q)) with
      | true =>
        refine nv_if hct false rfl (zcF1 (show y4.toInt = 1 by rw [hy4, hd]; rfl) (by decide)) ?_
        refine nv_cut hct nvR 162 178 6 (S' := (d + 1, [], 162, 178, [(2, .inl (0 : Int32)), (1, .inl c), (0, .inr (.inr (some 113)))], [], (s_I (s_I (s_I (s_I M1 113 10 (a_I M1 113 8)) 113 9 (0 : Int32)) 113 11 (0 : Int32)) 113 12 (0 : Int32)))) E2.1 rfl ?_
        have hnx : nxt B lim q = edg B lim (skp B lim q) := by unfold nxt; rw [hb, hd]; rfl
        have hkn : knd B lim q = if edg B lim (skp B lim q) - skp B lim q ≤ 3 then 2 else 4 := by unfold knd; rw [hb, hd]; rfl
        have E3 : EnR τ B lim (s_I (s_I (s_I (s_I M1 113 10 (a_I M1 113 8)) 113 9 (0 : Int32)) 113 11 (0 : Int32)) 113 12 (0 : Int32)) := (En_s (by decide) E2)
        have f3 : FrX [8, 9, 10, 11, 12] M (s_I (s_I (s_I (s_I M1 113 10 (a_I M1 113 8)) 113 9 (0 : Int32)) 113 11 (0 : Int32)) 113 12 (0 : Int32)) := Fx_s (by decide) f2
        refine r_dig hz (s := skp B lim q) _ (n := 0) rfl (by omega) E3 rfl h1 rfl (fun j hj => absurd hj (Nat.not_lt_zero j)) rfl (fun M5 nn5 f5 hn5 ha5 hw5 hall5 => ?_)
        have E5 := Fx_E (by decide) f5 E3
        have f6 : FrX [8, 9, 10, 11, 12] M M5 := Fx_tr f3 (Fx_up f5 (by decide))
        have p5 : (a_I M5 113 10).toInt = (skp B lim q : Int) := by rw [Fx_I f5 (by decide)]; exact h1
        have s5 : a_I M5 113 9 = 0 := by rw [Fx_I f5 (by decide)]; rfl
        refine nv_cut hct nvR 162 238 5 (S' := (d + 1, [], 162, 238, [(2, .inl nn5), (1, .inl c), (0, .inr (.inr (some 113)))], [.inl (3 : Int32), .inl nn5], M5)) E5.1 rfl ?_
        by_cases h8 : edg B lim (skp B lim q) - skp B lim q ≤ 3
        · skip
          refine nv_ifc hct false rfl (ccF3 hn5 (show ((3 : Int32)).toInt = 3 from rfl) (by omega)) ?_
          refine nv_cut hct nvR 162 281 7 (S' := (d + 1, [], 162, 281, [(2, .inl nn5), (1, .inl c), (0, .inr (.inr (some 113)))], [], (s_I M5 113 9 (3 : Int32)))) E5.1 rfl ?_
          refine nv_vret hct rfl ⟨rfl, Fx_s (by decide) f6, p5, Or.inr (Or.inr (Or.inl ⟨by rw [hkn, if_pos h8], rfl, by rw [hnx]; exact ha5, ?_⟩))⟩
          unfold val; rw [hnx]; rw [show min (edg B lim (skp B lim q) - skp B lim q) 3 = edg B lim (skp B lim q) - skp B lim q by omega] at hw5; exact hw5
        · skip
          refine nv_ifc hct true rfl (ccT3 hn5 (show ((3 : Int32)).toInt = 3 from rfl) (by omega)) ?_
          exact nv_vret hct rfl ⟨rfl, f6, p5, Or.inr (Or.inr (Or.inr (Or.inr ⟨by rw [hkn, if_neg h8], Or.inl s5⟩)))⟩
      | false =>
        refine nv_if hct true rfl (zcT1 (show y4.toInt = 0 by rw [hy4, hd]; rfl) rfl) ?_
        refine nv_cut hct nvR 162 252 5 (S' := (d + 1, [], 162, 252, [(2, .inl (0 : Int32)), (1, .inl c), (0, .inr (.inr (some 113)))], [.inl (59 : Int32), .inl c], (s_I (s_I (s_I M1 113 10 (a_I M1 113 8)) 113 9 (0 : Int32)) 113 11 (0 : Int32)))) E2.1 rfl ?_
        have h8 := add_p h1 (by omega) (by omega)
        by_cases h59 : gt9 B lim (skp B lim q) = 59
        · skip
          refine nv_ifc hct true rfl (ccT1 hx (show ((59 : Int32)).toInt = 59 from rfl) h59) ?_
          refine nv_cut hct nvR 162 281 15 (S' := (d + 1, [], 162, 281, [(2, .inl (0 : Int32)), (1, .inl c), (0, .inr (.inr (some 113)))], [], (s_I (s_I (s_I (s_I (s_I (s_I M1 113 10 (a_I M1 113 8)) 113 9 (0 : Int32)) 113 11 (0 : Int32)) 113 9 (4 : Int32)) 113 11 c) 113 8 ((a_I M1 113 8) + (1 : Int32))))) E2.1 rfl ?_
          have hcc : c = 59 := Int32.toInt_inj.mp (by rw [hx, h59]; rfl)
          refine nv_vret hct rfl ⟨rfl, Fx_s (by decide) (Fx_s (by decide) (Fx_s (by decide) f2)), h1, Or.inr (Or.inr (Or.inr (Or.inl ⟨?_, rfl, hcc, ?_⟩)))⟩
          · unfold knd; rw [hb, hd]; show (if _ then _ else _) = _; rw [if_neg hc, if_pos h59]
          · show (a_I M1 113 8 + 1).toInt = _; rw [h8]; unfold nxt; rw [hb, hd]; show _ = ((if _ then _ else _ : Nat) : Int); rw [if_neg hc]; omega
        · skip
          refine nv_ifc hct false rfl (ccF1 hx (show ((59 : Int32)).toInt = 59 from rfl) h59) ?_
          refine nv_cut hct nvR 162 258 5 (S' := (d + 1, [], 162, 258, [(2, .inl (0 : Int32)), (1, .inl c), (0, .inr (.inr (some 113)))], [.inl (44 : Int32), .inl c], (s_I (s_I (s_I M1 113 10 (a_I M1 113 8)) 113 9 (0 : Int32)) 113 11 (0 : Int32)))) E2.1 rfl ?_
          have hk4 : knd B lim q = 4 := by unfold knd; rw [hb, hd]; show (if _ then _ else _) = _; rw [if_neg hc, if_neg h59]
          by_cases h44 : gt9 B lim (skp B lim q) = 44
          · skip
            refine nv_ifc hct false rfl (ccF5 hx (show ((44 : Int32)).toInt = 44 from rfl) h44) ?_
            refine nv_cut hct nvR 162 281 15 (S' := (d + 1, [], 162, 281, [(2, .inl (0 : Int32)), (1, .inl c), (0, .inr (.inr (some 113)))], [], (s_I (s_I (s_I (s_I (s_I (s_I M1 113 10 (a_I M1 113 8)) 113 9 (0 : Int32)) 113 11 (0 : Int32)) 113 9 (4 : Int32)) 113 11 c) 113 8 ((a_I M1 113 8) + (1 : Int32))))) E2.1 rfl ?_
            have hcc : c = 44 := Int32.toInt_inj.mp (by rw [hx, h44]; rfl)
            exact nv_vret hct rfl ⟨rfl, Fx_s (by decide) (Fx_s (by decide) (Fx_s (by decide) f2)), h1, Or.inr (Or.inr (Or.inr (Or.inr ⟨hk4, Or.inr ⟨rfl, hcc⟩⟩)))⟩
          · skip
            refine nv_ifc hct true rfl (ccT5 hx (show ((44 : Int32)).toInt = 44 from rfl) h44) ?_
            exact nv_vret hct rfl ⟨rfl, f2, h1, Or.inr (Or.inr (Or.inr (Or.inr ⟨hk4, Or.inl rfl⟩)))⟩
