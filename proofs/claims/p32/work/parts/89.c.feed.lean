/-! feed of the class and of the reference: printed by wip/gen/feed.py -/
def nvB_K (a : Nat) : Nat := bif Nat.blt a 137 then (bif Nat.blt a 68 then (bif Nat.blt a 40 then (bif Nat.blt a 26 then (bif Nat.blt a 19 then (bif Nat.blt a 3 then (bif Nat.blt a 1 then (bif Nat.beq a 0 then 12 else 0) else (bif Nat.blt a 2 then (bif Nat.beq a 1 then 7 else 0) else (bif Nat.beq a 2 then 10 else 0))) else (bif Nat.blt a 17 then (bif Nat.blt a 16 then (bif Nat.beq a 3 then 15 else 0) else (bif Nat.beq a 16 then 16 else 0)) else (bif Nat.blt a 18 then (bif Nat.beq a 17 then 16 else 0) else (bif Nat.beq a 18 then 16 else 0)))) else (bif Nat.blt a 22 then (bif Nat.blt a 20 then (bif Nat.beq a 19 then 4 else 0) else (bif Nat.blt a 21 then (bif Nat.beq a 20 then 2 else 0) else (bif Nat.beq a 21 then 20 else 0))) else (bif Nat.blt a 24 then (bif Nat.blt a 23 then (bif Nat.beq a 22 then 16 else 0) else (bif Nat.beq a 23 then 16 else 0)) else (bif Nat.blt a 25 then (bif Nat.beq a 24 then 16 else 0) else (bif Nat.beq a 25 then 16 else 0))))) else (bif Nat.blt a 33 then (bif Nat.blt a 29 then (bif Nat.blt a 27 then (bif Nat.beq a 26 then 16 else 0) else (bif Nat.blt a 28 then (bif Nat.beq a 27 then 16 else 0) else (bif Nat.beq a 28 then 16 else 0))) else (bif Nat.blt a 31 then (bif Nat.blt a 30 then (bif Nat.beq a 29 then 16 else 0) else (bif Nat.beq a 30 then 16 else 0)) else (bif Nat.blt a 32 then (bif Nat.beq a 31 then 16 else 0) else (bif Nat.beq a 32 then 8 else 0)))) else (bif Nat.blt a 36 then (bif Nat.blt a 34 then (bif Nat.beq a 33 then 19 else 0) else (bif Nat.blt a 35 then (bif Nat.beq a 34 then 16 else 0) else (bif Nat.beq a 35 then 16 else 0))) else (bif Nat.blt a 38 then (bif Nat.blt a 37 then (bif Nat.beq a 36 then 2 else 0) else (bif Nat.beq a 37 then 2 else 0)) else (bif Nat.blt a 39 then (bif Nat.beq a 38 then 2 else 0) else (bif Nat.beq a 39 then 2 else 0)))))) else (bif Nat.blt a 54 then (bif Nat.blt a 47 then (bif Nat.blt a 43 then (bif Nat.blt a 41 then (bif Nat.beq a 40 then 2 else 0) else (bif Nat.blt a 42 then (bif Nat.beq a 41 then 2 else 0) else (bif Nat.beq a 42 then 2 else 0))) else (bif Nat.blt a 45 then (bif Nat.blt a 44 then (bif Nat.beq a 43 then 2 else 0) else (bif Nat.beq a 44 then 2 else 0)) else (bif Nat.blt a 46 then (bif Nat.beq a 45 then 2 else 0) else (bif Nat.beq a 46 then 3 else 0)))) else (bif Nat.blt a 50 then (bif Nat.blt a 48 then (bif Nat.beq a 47 then 2 else 0) else (bif Nat.blt a 49 then (bif Nat.beq a 48 then 16 else 0) else (bif Nat.beq a 49 then 16 else 0))) else (bif Nat.blt a 52 then (bif Nat.blt a 51 then (bif Nat.beq a 50 then 16 else 0) else (bif Nat.beq a 51 then 16 else 0)) else (bif Nat.blt a 53 then (bif Nat.beq a 52 then 5 else 0) else (bif Nat.beq a 53 then 2 else 0))))) else (bif Nat.blt a 61 then (bif Nat.blt a 57 then (bif Nat.blt a 55 then (bif Nat.beq a 54 then 16 else 0) else (bif Nat.blt a 56 then (bif Nat.beq a 55 then 16 else 0) else (bif Nat.beq a 56 then 20 else 0))) else (bif Nat.blt a 59 then (bif Nat.blt a 58 then (bif Nat.beq a 57 then 16 else 0) else (bif Nat.beq a 58 then 16 else 0)) else (bif Nat.blt a 60 then (bif Nat.beq a 59 then 16 else 0) else (bif Nat.beq a 60 then 1 else 0)))) else (bif Nat.blt a 64 then (bif Nat.blt a 62 then (bif Nat.beq a 61 then 16 else 0) else (bif Nat.blt a 63 then (bif Nat.beq a 62 then 16 else 0) else (bif Nat.beq a 63 then 20 else 0))) else (bif Nat.blt a 66 then (bif Nat.blt a 65 then (bif Nat.beq a 64 then 16 else 0) else (bif Nat.beq a 65 then 16 else 0)) else (bif Nat.blt a 67 then (bif Nat.beq a 66 then 16 else 0) else (bif Nat.beq a 67 then 16 else 0))))))) else (bif Nat.blt a 96 then (bif Nat.blt a 82 then (bif Nat.blt a 75 then (bif Nat.blt a 71 then (bif Nat.blt a 69 then (bif Nat.beq a 68 then 16 else 0) else (bif Nat.blt a 70 then (bif Nat.beq a 69 then 16 else 0) else (bif Nat.beq a 70 then 16 else 0))) else (bif Nat.blt a 73 then (bif Nat.blt a 72 then (bif Nat.beq a 71 then 16 else 0) else (bif Nat.beq a 72 then 16 else 0)) else (bif Nat.blt a 74 then (bif Nat.beq a 73 then 16 else 0) else (bif Nat.beq a 74 then 16 else 0)))) else (bif Nat.blt a 78 then (bif Nat.blt a 76 then (bif Nat.beq a 75 then 16 else 0) else (bif Nat.blt a 77 then (bif Nat.beq a 76 then 16 else 0) else (bif Nat.beq a 77 then 16 else 0))) else (bif Nat.blt a 80 then (bif Nat.blt a 79 then (bif Nat.beq a 78 then 16 else 0) else (bif Nat.beq a 79 then 16 else 0)) else (bif Nat.blt a 81 then (bif Nat.beq a 80 then 16 else 0) else (bif Nat.beq a 81 then 16 else 0))))) else (bif Nat.blt a 89 then (bif Nat.blt a 85 then (bif Nat.blt a 83 then (bif Nat.beq a 82 then 16 else 0) else (bif Nat.blt a 84 then (bif Nat.beq a 83 then 16 else 0) else (bif Nat.beq a 84 then 16 else 0))) else (bif Nat.blt a 87 then (bif Nat.blt a 86 then (bif Nat.beq a 85 then 16 else 0) else (bif Nat.beq a 86 then 16 else 0)) else (bif Nat.blt a 88 then (bif Nat.beq a 87 then 16 else 0) else (bif Nat.beq a 88 then 16 else 0)))) else (bif Nat.blt a 92 then (bif Nat.blt a 90 then (bif Nat.beq a 89 then 16 else 0) else (bif Nat.blt a 91 then (bif Nat.beq a 90 then 16 else 0) else (bif Nat.beq a 91 then 16 else 0))) else (bif Nat.blt a 94 then (bif Nat.blt a 93 then (bif Nat.beq a 92 then 16 else 0) else (bif Nat.beq a 93 then 16 else 0)) else (bif Nat.blt a 95 then (bif Nat.beq a 94 then 16 else 0) else (bif Nat.beq a 95 then 11 else 0)))))) else (bif Nat.blt a 122 then (bif Nat.blt a 115 then (bif Nat.blt a 99 then (bif Nat.blt a 97 then (bif Nat.beq a 96 then 18 else 0) else (bif Nat.blt a 98 then (bif Nat.beq a 97 then 16 else 0) else (bif Nat.beq a 98 then 16 else 0))) else (bif Nat.blt a 113 then (bif Nat.blt a 100 then (bif Nat.beq a 99 then 16 else 0) else (bif Nat.beq a 100 then 16 else 0)) else (bif Nat.blt a 114 then (bif Nat.beq a 113 then 14 else 0) else (bif Nat.beq a 114 then 15 else 0)))) else (bif Nat.blt a 118 then (bif Nat.blt a 116 then (bif Nat.beq a 115 then 16 else 0) else (bif Nat.blt a 117 then (bif Nat.beq a 116 then 16 else 0) else (bif Nat.beq a 117 then 16 else 0))) else (bif Nat.blt a 120 then (bif Nat.blt a 119 then (bif Nat.beq a 118 then 16 else 0) else (bif Nat.beq a 119 then 16 else 0)) else (bif Nat.blt a 121 then (bif Nat.beq a 120 then 16 else 0) else (bif Nat.beq a 121 then 16 else 0))))) else (bif Nat.blt a 129 then (bif Nat.blt a 125 then (bif Nat.blt a 123 then (bif Nat.beq a 122 then 16 else 0) else (bif Nat.blt a 124 then (bif Nat.beq a 123 then 16 else 0) else (bif Nat.beq a 124 then 16 else 0))) else (bif Nat.blt a 127 then (bif Nat.blt a 126 then (bif Nat.beq a 125 then 16 else 0) else (bif Nat.beq a 126 then 16 else 0)) else (bif Nat.blt a 128 then (bif Nat.beq a 127 then 16 else 0) else (bif Nat.beq a 128 then 16 else 0)))) else (bif Nat.blt a 133 then (bif Nat.blt a 131 then (bif Nat.blt a 130 then (bif Nat.beq a 129 then 16 else 0) else (bif Nat.beq a 130 then 16 else 0)) else (bif Nat.blt a 132 then (bif Nat.beq a 131 then 16 else 0) else (bif Nat.beq a 132 then 16 else 0))) else (bif Nat.blt a 135 then (bif Nat.blt a 134 then (bif Nat.beq a 133 then 16 else 0) else (bif Nat.beq a 134 then 16 else 0)) else (bif Nat.blt a 136 then (bif Nat.beq a 135 then 18 else 0) else (bif Nat.beq a 136 then 17 else 0)))))))) else 0
def nvB_N (a : Nat) : Nat := bif Nat.blt a 137 then (bif Nat.blt a 78 then (bif Nat.blt a 54 then (bif Nat.blt a 28 then (bif Nat.blt a 22 then (bif Nat.blt a 17 then (bif Nat.blt a 16 then (bif Nat.beq a 3 then 701 else 0) else (bif Nat.beq a 16 then 9 else 0)) else (bif Nat.blt a 18 then (bif Nat.beq a 17 then 9 else 0) else (bif Nat.blt a 21 then (bif Nat.beq a 18 then 9 else 0) else (bif Nat.beq a 21 then 8 else 0)))) else (bif Nat.blt a 25 then (bif Nat.blt a 23 then (bif Nat.beq a 22 then 31 else 0) else (bif Nat.blt a 24 then (bif Nat.beq a 23 then 31 else 0) else (bif Nat.beq a 24 then 31 else 0))) else (bif Nat.blt a 26 then (bif Nat.beq a 25 then 31 else 0) else (bif Nat.blt a 27 then (bif Nat.beq a 26 then 31 else 0) else (bif Nat.beq a 27 then 31 else 0))))) else (bif Nat.blt a 34 then (bif Nat.blt a 30 then (bif Nat.blt a 29 then (bif Nat.beq a 28 then 31 else 0) else (bif Nat.beq a 29 then 21 else 0)) else (bif Nat.blt a 31 then (bif Nat.beq a 30 then 21 else 0) else (bif Nat.blt a 33 then (bif Nat.beq a 31 then 21 else 0) else (bif Nat.beq a 33 then 11 else 0)))) else (bif Nat.blt a 49 then (bif Nat.blt a 35 then (bif Nat.beq a 34 then 8 else 0) else (bif Nat.blt a 48 then (bif Nat.beq a 35 then 8 else 0) else (bif Nat.beq a 48 then 31 else 0))) else (bif Nat.blt a 50 then (bif Nat.beq a 49 then 31 else 0) else (bif Nat.blt a 51 then (bif Nat.beq a 50 then 31 else 0) else (bif Nat.beq a 51 then 31 else 0)))))) else (bif Nat.blt a 66 then (bif Nat.blt a 59 then (bif Nat.blt a 56 then (bif Nat.blt a 55 then (bif Nat.beq a 54 then 13 else 0) else (bif Nat.beq a 55 then 13 else 0)) else (bif Nat.blt a 57 then (bif Nat.beq a 56 then 4 else 0) else (bif Nat.blt a 58 then (bif Nat.beq a 57 then 249 else 0) else (bif Nat.beq a 58 then 249 else 0)))) else (bif Nat.blt a 63 then (bif Nat.blt a 61 then (bif Nat.beq a 59 then 249 else 0) else (bif Nat.blt a 62 then (bif Nat.beq a 61 then 31 else 0) else (bif Nat.beq a 62 then 31 else 0))) else (bif Nat.blt a 64 then (bif Nat.beq a 63 then 31 else 0) else (bif Nat.blt a 65 then (bif Nat.beq a 64 then 31 else 0) else (bif Nat.beq a 65 then 31 else 0))))) else (bif Nat.blt a 72 then (bif Nat.blt a 69 then (bif Nat.blt a 67 then (bif Nat.beq a 66 then 31 else 0) else (bif Nat.blt a 68 then (bif Nat.beq a 67 then 31 else 0) else (bif Nat.beq a 68 then 31 else 0))) else (bif Nat.blt a 70 then (bif Nat.beq a 69 then 31 else 0) else (bif Nat.blt a 71 then (bif Nat.beq a 70 then 31 else 0) else (bif Nat.beq a 71 then 31 else 0)))) else (bif Nat.blt a 75 then (bif Nat.blt a 73 then (bif Nat.beq a 72 then 31 else 0) else (bif Nat.blt a 74 then (bif Nat.beq a 73 then 31 else 0) else (bif Nat.beq a 74 then 31 else 0))) else (bif Nat.blt a 76 then (bif Nat.beq a 75 then 31 else 0) else (bif Nat.blt a 77 then (bif Nat.beq a 76 then 31 else 0) else (bif Nat.beq a 77 then 31 else 0))))))) else (bif Nat.blt a 114 then (bif Nat.blt a 89 then (bif Nat.blt a 83 then (bif Nat.blt a 80 then (bif Nat.blt a 79 then (bif Nat.beq a 78 then 31 else 0) else (bif Nat.beq a 79 then 31 else 0)) else (bif Nat.blt a 81 then (bif Nat.beq a 80 then 31 else 0) else (bif Nat.blt a 82 then (bif Nat.beq a 81 then 31 else 0) else (bif Nat.beq a 82 then 31 else 0)))) else (bif Nat.blt a 86 then (bif Nat.blt a 84 then (bif Nat.beq a 83 then 31 else 0) else (bif Nat.blt a 85 then (bif Nat.beq a 84 then 31 else 0) else (bif Nat.beq a 85 then 31 else 0))) else (bif Nat.blt a 87 then (bif Nat.beq a 86 then 31 else 0) else (bif Nat.blt a 88 then (bif Nat.beq a 87 then 31 else 0) else (bif Nat.beq a 88 then 31 else 0))))) else (bif Nat.blt a 94 then (bif Nat.blt a 91 then (bif Nat.blt a 90 then (bif Nat.beq a 89 then 31 else 0) else (bif Nat.beq a 90 then 31 else 0)) else (bif Nat.blt a 92 then (bif Nat.beq a 91 then 31 else 0) else (bif Nat.blt a 93 then (bif Nat.beq a 92 then 31 else 0) else (bif Nat.beq a 93 then 31 else 0)))) else (bif Nat.blt a 98 then (bif Nat.blt a 96 then (bif Nat.beq a 94 then 3 else 0) else (bif Nat.blt a 97 then (bif Nat.beq a 96 then 31 else 0) else (bif Nat.beq a 97 then 31 else 0))) else (bif Nat.blt a 99 then (bif Nat.beq a 98 then 31 else 0) else (bif Nat.blt a 100 then (bif Nat.beq a 99 then 31 else 0) else (bif Nat.beq a 100 then 31 else 0)))))) else (bif Nat.blt a 125 then (bif Nat.blt a 119 then (bif Nat.blt a 116 then (bif Nat.blt a 115 then (bif Nat.beq a 114 then 701 else 0) else (bif Nat.beq a 115 then 11 else 0)) else (bif Nat.blt a 117 then (bif Nat.beq a 116 then 11 else 0) else (bif Nat.blt a 118 then (bif Nat.beq a 117 then 31 else 0) else (bif Nat.beq a 118 then 31 else 0)))) else (bif Nat.blt a 122 then (bif Nat.blt a 120 then (bif Nat.beq a 119 then 31 else 0) else (bif Nat.blt a 121 then (bif Nat.beq a 120 then 31 else 0) else (bif Nat.beq a 121 then 31 else 0))) else (bif Nat.blt a 123 then (bif Nat.beq a 122 then 31 else 0) else (bif Nat.blt a 124 then (bif Nat.beq a 123 then 31 else 0) else (bif Nat.beq a 124 then 8 else 0))))) else (bif Nat.blt a 131 then (bif Nat.blt a 128 then (bif Nat.blt a 126 then (bif Nat.beq a 125 then 13 else 0) else (bif Nat.blt a 127 then (bif Nat.beq a 126 then 13 else 0) else (bif Nat.beq a 127 then 21 else 0))) else (bif Nat.blt a 129 then (bif Nat.beq a 128 then 21 else 0) else (bif Nat.blt a 130 then (bif Nat.beq a 129 then 21 else 0) else (bif Nat.beq a 130 then 3 else 0)))) else (bif Nat.blt a 134 then (bif Nat.blt a 132 then (bif Nat.beq a 131 then 31 else 0) else (bif Nat.blt a 133 then (bif Nat.beq a 132 then 31 else 0) else (bif Nat.beq a 133 then 31 else 0))) else (bif Nat.blt a 135 then (bif Nat.beq a 134 then 31 else 0) else (bif Nat.blt a 136 then (bif Nat.beq a 135 then 31 else 0) else (bif Nat.beq a 136 then 2 else 0)))))))) else 0
def nvB_P (a k : Nat) : Option (Option Nat) := bif Nat.blt a 137 && Nat.blt k 50 then (bif Nat.blt a 46 then (bif Nat.blt a 2 then (bif Nat.blt a 1 then (bif Nat.beq a 0 then (bif Nat.beq k 0 then some (some 1) else (bif Nat.beq k 1 then some (some 19) else (bif Nat.beq k 2 then some (some 32) else (bif Nat.beq k 3 then some (some 46) else (bif Nat.beq k 4 then some (some 52) else (bif Nat.beq k 5 then some (some 60) else (bif Nat.beq k 6 then some (some 95) else none))))))) else none) else (bif Nat.beq a 1 then (bif Nat.beq k 0 then some (some 2) else (bif Nat.beq k 2 then some (some 16) else (bif Nat.beq k 3 then some (some 17) else (bif Nat.beq k 4 then some (some 18) else none)))) else none)) else (bif Nat.blt a 19 then (bif Nat.beq a 2 then (bif Nat.beq k 0 then some (some 3) else none) else none) else (bif Nat.blt a 32 then (bif Nat.beq a 19 then (bif Nat.beq k 0 then some (some 20) else (bif Nat.beq k 1 then some (some 21) else (bif Nat.beq k 2 then some (some 29) else (bif Nat.beq k 3 then some (some 30) else (bif Nat.beq k 4 then some (some 31) else none))))) else none) else (bif Nat.beq a 32 then (bif Nat.beq k 0 then some (some 33) else (bif Nat.beq k 1 then some (some 34) else (bif Nat.beq k 2 then some (some 35) else none))) else none)))) else (bif Nat.blt a 60 then (bif Nat.blt a 52 then (bif Nat.beq a 46 then (bif Nat.beq k 0 then some (some 47) else (bif Nat.beq k 1 then some (some 48) else (bif Nat.beq k 2 then some (some 49) else (bif Nat.beq k 3 then some (some 50) else (bif Nat.beq k 4 then some (some 51) else none))))) else none) else (bif Nat.beq a 52 then (bif Nat.beq k 0 then some (some 53) else (bif Nat.beq k 1 then some (some 54) else (bif Nat.beq k 2 then some (some 55) else (bif Nat.beq k 3 then some (some 56) else none)))) else none)) else (bif Nat.blt a 95 then (bif Nat.beq a 60 then (bif Nat.beq k 0 then some (some 61) else (bif Nat.beq k 1 then some (some 62) else (bif Nat.beq k 2 then some (some 63) else (bif Nat.beq k 3 then some (some 94) else none)))) else none) else (bif Nat.blt a 113 then (bif Nat.beq a 95 then (bif Nat.beq k 0 then some (some 96) else (bif Nat.beq k 1 then some (some 97) else (bif Nat.beq k 2 then some (some 98) else (bif Nat.beq k 3 then some (some 99) else (bif Nat.beq k 4 then some (some 100) else none))))) else none) else (bif Nat.beq a 113 then (bif Nat.beq k 5 then some (some 114) else (bif Nat.beq k 17 then some (some 115) else (bif Nat.beq k 18 then some (some 116) else (bif Nat.beq k 19 then some (some 117) else (bif Nat.beq k 20 then some (some 118) else (bif Nat.beq k 21 then some (some 119) else (bif Nat.beq k 22 then some (some 120) else (bif Nat.beq k 23 then some (some 121) else (bif Nat.beq k 24 then some (some 122) else (bif Nat.beq k 25 then some (some 123) else (bif Nat.beq k 27 then some (some 124) else (bif Nat.beq k 29 then some (some 125) else (bif Nat.beq k 30 then some (some 126) else (bif Nat.beq k 32 then some (some 127) else (bif Nat.beq k 33 then some (some 128) else (bif Nat.beq k 34 then some (some 129) else (bif Nat.beq k 36 then some (some 130) else (bif Nat.beq k 38 then some (some 131) else (bif Nat.beq k 39 then some (some 132) else (bif Nat.beq k 40 then some (some 133) else (bif Nat.beq k 41 then some (some 134) else (bif Nat.beq k 42 then some (some 135) else none)))))))))))))))))))))) else none))))) else none
def nvB : nv_T := (nvB_K, nvB_N, nvB_P)

/-- all but these ints as before -/
def eqE (f : Nat → Nat → Bool) (M M' : aM) : Prop := (a_n M' = a_n M ∧ a_z M' = a_z M ∧ a_c M' = a_c M) ∧ (a_K M' = a_K M ∧ a_N M' = a_N M ∧ a_J M' = a_J M ∧ a_P M' = a_P M) ∧ ∀ a k, f a k = false → a_I M' a k = a_I M a k
theorem eqE_rf {f : Nat → Nat → Bool} {M : aM} : eqE f M M := ⟨⟨rfl, rfl, rfl⟩, ⟨rfl, rfl, rfl, rfl⟩, fun _ _ _ => rfl⟩
theorem eqE_tr {f : Nat → Nat → Bool} {M M1 M2 : aM} (h : eqE f M M1) (g : eqE f M1 M2) : eqE f M M2 := ⟨⟨g.1.1.trans h.1.1, g.1.2.1.trans h.1.2.1, g.1.2.2.trans h.1.2.2⟩, ⟨g.2.1.1.trans h.2.1.1, g.2.1.2.1.trans h.2.1.2.1, g.2.1.2.2.1.trans h.2.1.2.2.1, g.2.1.2.2.2.trans h.2.1.2.2.2⟩, fun a k q => (g.2.2 a k q).trans (h.2.2 a k q)⟩
theorem eqE_up {f g : Nat → Nat → Bool} {M M1 : aM} (h : eqE f M M1) (hs : ∀ a k, g a k = false → f a k = false) : eqE g M M1 := ⟨h.1, h.2.1, fun a k q => h.2.2 a k (hs a k q)⟩
theorem eqE_s {f : Nat → Nat → Bool} {M M1 : aM} {a k : Nat} {v : Int32} (h : eqE f M M1) (hf : f a k = true) : eqE f M (s_I M1 a k v) := ⟨h.1, h.2.1, fun b j q => by
  rw [aI_sI, if_neg (fun e => by rw [e.1, e.2, hf] at q; cases q)]
  exact h.2.2 b j q⟩
theorem eqE_A {T : nv_T} {τ : Nat → Nat} {f : Nat → Nat → Bool} {M M1 : aM} (h : eqE f M M1) (hA : nv_A T τ M) : nv_A T τ M1 := by
  obtain ⟨⟨h1, _, _⟩, ⟨h2, h3, _, h4⟩, _⟩ := h
  unfold nv_A at hA ⊢
  rw [h1, h2, h3, h4]
  exact hA
/-- the tape: bytes k .. k + n - 1, and how much is filled -/
def fdF (t s b k n : Nat) (a j : Nat) : Bool := (Nat.beq a t && Nat.beq j s) || (Nat.beq a b && (Nat.ble k j && Nat.blt j (k + n)))
theorem fdF_t {t s b k n : Nat} : fdF t s b k n t s = true := by unfold fdF; rw [Nat.beq_refl, Nat.beq_refl]; rfl
theorem fdF_b {t s b k n j : Nat} (h1 : k ≤ j) (h2 : j < k + n) : fdF t s b k n b j = true := by
  unfold fdF
  rw [Nat.beq_refl, show Nat.ble k j = true from Nat.ble_eq.mpr h1, show Nat.blt j (k + n) = true from Nat.ble_eq.mpr h2]
  simp
theorem fdF_f {t s b k n j : Nat} (hb : b ≠ t) (h : j < k ∨ k + n ≤ j) : fdF t s b k n b j = false := by
  unfold fdF
  rw [nbF hb, Nat.beq_refl]
  rcases h with h | h
  · rw [show Nat.ble k j = false from Bool.eq_false_iff.mpr (fun q => by have := Nat.le_of_ble_eq_true q; omega)]
    simp
  · rw [show Nat.blt j (k + n) = false from Bool.eq_false_iff.mpr (fun q => by have := blt_lt q; omega)]
    simp
theorem fdF_up {t s b k n k' n' a j : Nat} (h1 : k ≤ k') (h2 : k' + n' ≤ k + n) (h : fdF t s b k n a j = false) : fdF t s b k' n' a j = false := by
  cases hc : fdF t s b k' n' a j with
  | false => rfl
  | true =>
    unfold fdF at hc
    rcases (Bool.or_eq_true _ _).mp hc with e | e
    · obtain ⟨e1, e2⟩ := (Bool.and_eq_true _ _).mp e
      rw [nbT e1, nbT e2, fdF_t] at h
      cases h
    · obtain ⟨e1, e2⟩ := (Bool.and_eq_true _ _).mp e
      obtain ⟨e3, e4⟩ := (Bool.and_eq_true _ _).mp e2
      have e3 := Nat.le_of_ble_eq_true e3
      have e4 := blt_lt e4
      rw [nbT e1, fdF_b (by omega) (by omega)] at h
      cases h
/-- bytes l have come onto the tape from k on -/
def FD (t s b k : Nat) (M0 M : aM) (l : List Int32) : Prop := eqE (fdF t s b k l.length) M0 M ∧ (a_I M t s).toInt = ((k + l.length : Nat) : Int) ∧ ∀ j, j < l.length → a_I M b (k + j) = l.getD j 0
theorem FD_nil {t s b k : Nat} {M : aM} (h : (a_I M t s).toInt = (k : Int)) : FD t s b k M M [] := ⟨eqE_rf, h, fun j hj => absurd hj (Nat.not_lt_zero j)⟩
theorem FD_app {t s b k : Nat} (hb : b ≠ t) {M0 M1 M2 : aM} {l1 l2 : List Int32} (h : FD t s b k M0 M1 l1) (g : FD t s b (k + l1.length) M1 M2 l2) : FD t s b k M0 M2 (l1 ++ l2) := by
  obtain ⟨h1, h2, h3⟩ := h
  obtain ⟨g1, g2, g3⟩ := g
  refine ⟨eqE_tr (eqE_up h1 (fun a j q => fdF_up (Nat.le_refl _) (by rw [List.length_append]; omega) q)) (eqE_up g1 (fun a j q => fdF_up (by omega) (by rw [List.length_append]; omega) q)), by rw [g2, List.length_append]; omega, fun j hj => ?_⟩
  rw [List.length_append] at hj
  by_cases hl : j < l1.length
  · rw [g1.2.2 b (k + j) (fdF_f hb (by omega)), h3 j hl, List.getD_eq_getElem?_getD, List.getD_eq_getElem?_getD, List.getElem?_append_left hl]
  · have := g3 (j - l1.length) (by omega)
    rw [show k + l1.length + (j - l1.length) = k + j by omega] at this
    rw [this, List.getD_eq_getElem?_getD, List.getD_eq_getElem?_getD, List.getElem?_append_right (by omega)]
def by8 (x : Int32) : Int32 := vp_nar .byte x.toInt8.toInt32
theorem FD_one {t s b k : Nat} (hb : b ≠ t) {M : aM} {f x y : Int32} (hf : f.toInt = (k : Int)) (hx : x.toInt = (k : Int) + 1) : FD t s b k M (s_I (s_I M b f.toNatClampNeg y) t s x) [y] := by
  rw [tnc hf]
  refine ⟨eqE_s (eqE_s eqE_rf (fdF_b (Nat.le_refl _) (by show k < k + 1; omega))) fdF_t, ?_, fun j hj => ?_⟩
  · rw [aI_sI, if_pos ⟨rfl, rfl⟩, hx]
    rfl
  · have : j = 0 := by
      have : j < 1 := hj
      omega
    subst this
    rw [aI_sI, if_neg (fun q => hb q.1), aI_sI, if_pos ⟨rfl, rfl⟩]
    rfl
set_option maxHeartbeats 4000000 in
theorem c_put1 {cd : Nat → Nat → Option aI} (hct : ∀ m p o, ct m p = some o → cd m p = some (semO o)) {τ : Nat → Nat} {M : aM} (hA : nv_A nvB τ M) (x sh : Int32) {k : Nat} (hk : (a_I M 2 1).toInt = (k : Int)) (h7 : k < 700) {d : Nat} {Q : aQ} (h : ∀ M1, FD 2 1 3 k M M1 [by8 (binf 6 x sh)] → wpS cd (nv_S τ (d, [], 88, 49, [(2, .inl sh), (0, .inr (.inr (some 2))), (1, .inl x)], [], M1)) Q) : wpS cd (nv_S τ (d, [], 88, 7, [(2, .inl sh), (0, .inr (.inr (some 2))), (1, .inl x)], [], M)) Q := by
  refine nv_cut hct nvB 88 11 5 (S' := (d, [], 88, 11, [(2, .inl sh), (0, .inr (.inr (some 2))), (1, .inl x)], [.inl (a_I M 2 1)], M)) hA rfl ?_
  refine nv_if hct false rfl (zcF0 hk (by omega)) ?_
  refine nv_cut hct nvB 88 23 8 (S' := (d, [], 88, 23, [(2, .inl sh), (0, .inr (.inr (some 2))), (1, .inl x)], [.inl (Int32.ofNat 700), .inl (a_I M 2 1)], M)) hA rfl ?_
  refine nv_ifc hct false rfl (ccF4 hk (show ((Int32.ofNat 700)).toInt = 700 from rfl) (by omega)) ?_
  refine nv_cut hct nvB 88 38 11 (S' := (d, [], 88, 38, [(2, .inl sh), (0, .inr (.inr (some 2))), (1, .inl x)], [.inl ((binf 6 x sh).toInt8.toInt32), .inl (a_I M 2 1), .inr (.inr (some 3))], M)) hA rfl ?_
  refine nv_ast hct hA rfl (show nvB.1 3 = 14 + 1 from rfl) (show nvB.2.1 3 = 700 + 1 from rfl) (inb_p hk h7) ?_
  refine nv_cut hct nvB 88 49 9 (S' := (d, [], 88, 49, [(2, .inl sh), (0, .inr (.inr (some 2))), (1, .inl x)], [], (s_I (s_I M 3 (a_I M 2 1).toNatClampNeg (astf 1 ((binf 6 x sh).toInt8.toInt32))) 2 1 ((a_I M 2 1) + (1 : Int32))))) (nv_As hA) rfl ?_
  exact h _ (FD_one (by decide) hk (add_p hk (by omega) (by omega)))
set_option maxHeartbeats 4000000 in
theorem c_put {cd : Nat → Nat → Option aI} (hct : ∀ m p o, ct m p = some o → cd m p = some (semO o)) {τ : Nat → Nat} {M : aM} (hA : nv_A nvB τ M) (x : Int32) {k : Nat} (hk : (a_I M 2 1).toInt = (k : Int)) (h7 : k + 4 ≤ 700) {d : Nat} : wpS cd (d, [], 88, 0, nv_l τ (la 0 [.inr (.inr (some 2)), .inl x]), [], M) (fun r M' => r = none ∧ FD 2 1 3 k M M' [by8 (binf 6 x 24), by8 (binf 6 x 16), by8 (binf 6 x 8), by8 (binf 6 x 0)]) := by
  show wpS cd (nv_S τ (d, [], 88, 0, la 0 [.inr (.inr (some 2)), .inl x], [], M)) _
  refine nv_cut hct nvB 88 7 7 (S' := (d, [], 88, 7, [(2, .inl (24 : Int32)), (0, .inr (.inr (some 2))), (1, .inl x)], [], M)) hA rfl ?_
  refine c_put1 hct hA x _ (k := k + 0) hk (by omega) (fun M1 f1 => ?_)
  have g1 := f1
  have A1 := eqE_A g1.1 hA
  refine nv_cut hct nvB 88 7 7 (S' := (d, [], 88, 7, [(2, .inl (16 : Int32)), (0, .inr (.inr (some 2))), (1, .inl x)], [], M1)) A1 rfl ?_
  refine c_put1 hct A1 x _ (k := k + 1) (g1.2.1) (by omega) (fun M2 f2 => ?_)
  have g2 := FD_app (by decide) g1 f2
  have A2 := eqE_A g2.1 hA
  refine nv_cut hct nvB 88 7 7 (S' := (d, [], 88, 7, [(2, .inl (8 : Int32)), (0, .inr (.inr (some 2))), (1, .inl x)], [], M2)) A2 rfl ?_
  refine c_put1 hct A2 x _ (k := k + 2) (g2.2.1) (by omega) (fun M3 f3 => ?_)
  have g3 := FD_app (by decide) g2 f3
  have A3 := eqE_A g3.1 hA
  refine nv_cut hct nvB 88 7 7 (S' := (d, [], 88, 7, [(2, .inl (0 : Int32)), (0, .inr (.inr (some 2))), (1, .inl x)], [], M3)) A3 rfl ?_
  refine c_put1 hct A3 x _ (k := k + 3) (g3.2.1) (by omega) (fun M4 f4 => ?_)
  have g4 := FD_app (by decide) g3 f4
  have A4 := eqE_A g4.1 hA
  refine nv_cut hct nvB 88 55 7 (S' := (d, [], 88, 55, [(2, .inl (-8 : Int32)), (0, .inr (.inr (some 2))), (1, .inl x)], [], M4)) A4 rfl ?_
  exact nv_vret hct rfl ⟨rfl, g4⟩
/-- the twenty bytes of five numbers -/
def fd4 (x : Int32) : List Int32 := [by8 (binf 6 x 24), by8 (binf 6 x 16), by8 (binf 6 x 8), by8 (binf 6 x 0)]
def fd20 (x1 x2 x3 x4 x5 : Int32) : List Int32 := (((fd4 x1 ++ fd4 x2) ++ fd4 x3) ++ fd4 x4) ++ fd4 x5
set_option maxHeartbeats 4000000 in
theorem c_feed {cd : Nat → Nat → Option aI} (hct : ∀ m p o, ct m p = some o → cd m p = some (semO o)) {τ : Nat → Nat} {M : aM} (hA : nv_A nvB τ M) (x1 x2 x3 x4 x5 : Int32) {k : Nat} (hk : (a_I M 2 1).toInt = (k : Int)) (h7 : k ≤ 700) {d : Nat} : wpS cd (d + 1, [], 104, 0, nv_l τ (la 0 [.inr (.inr (some 0)), .inl x1, .inl x2, .inl x3, .inl x4, .inl x5]), [], M) (fun r M' => ∃ y, r = some (.inl y) ∧ ((680 < k ∧ M' = M ∧ y = -1) ∨ (k ≤ 680 ∧ y.toInt = (k : Int) + 20 ∧ FD 2 1 3 k M M' (fd20 x1 x2 x3 x4 x5)))) := by
  show wpS cd (nv_S τ (d + 1, [], 104, 0, la 0 [.inr (.inr (some 0)), .inl x1, .inl x2, .inl x3, .inl x4, .inl x5], [], M)) _
  refine nv_cut hct nvB 104 17 10 (S' := (d + 1, [], 104, 17, [(6, .inr (.inr (some 2))), (0, .inr (.inr (some 0))), (1, .inl x1), (2, .inl x2), (3, .inl x3), (4, .inl x4), (5, .inl x5)], [.inl (680 : Int32), .inl (a_I M 2 1)], M)) hA rfl ?_
  by_cases hc : k ≤ 680
  · skip
    refine nv_ifc hct true rfl (ccT2 hk (show ((680 : Int32)).toInt = 680 from rfl) (by omega)) ?_
    refine nv_cut hct nvB 88 0 6 (S' := (d, [(104, 28, [(6, .inr (.inr (some 2))), (0, .inr (.inr (some 0))), (1, .inl x1), (2, .inl x2), (3, .inl x3), (4, .inl x4), (5, .inl x5)], [])], 88, 0, la 0 [.inr (.inr (some 2)), .inl x1], [], M)) hA rfl ?_
    refine nv_callv (c_put hct hA x1 (k := k + 0) hk (by omega)) (fun M1 f1 => ?_)
    have g1 : FD 2 1 3 k M M1 _ := f1
    have A1 := eqE_A g1.1 hA
    refine nv_cut hct nvB 88 0 6 (S' := (d, [(104, 34, [(6, .inr (.inr (some 2))), (0, .inr (.inr (some 0))), (1, .inl x1), (2, .inl x2), (3, .inl x3), (4, .inl x4), (5, .inl x5)], [])], 88, 0, la 0 [.inr (.inr (some 2)), .inl x2], [], M1)) A1 rfl ?_
    refine nv_callv (c_put hct A1 x2 (k := k + 4) g1.2.1 (by omega)) (fun M2 f2 => ?_)
    have g2 : FD 2 1 3 k M M2 _ := FD_app (by decide) g1 f2
    have A2 := eqE_A g2.1 hA
    refine nv_cut hct nvB 88 0 6 (S' := (d, [(104, 40, [(6, .inr (.inr (some 2))), (0, .inr (.inr (some 0))), (1, .inl x1), (2, .inl x2), (3, .inl x3), (4, .inl x4), (5, .inl x5)], [])], 88, 0, la 0 [.inr (.inr (some 2)), .inl x3], [], M2)) A2 rfl ?_
    refine nv_callv (c_put hct A2 x3 (k := k + 8) g2.2.1 (by omega)) (fun M3 f3 => ?_)
    have g3 : FD 2 1 3 k M M3 _ := FD_app (by decide) g2 f3
    have A3 := eqE_A g3.1 hA
    refine nv_cut hct nvB 88 0 6 (S' := (d, [(104, 47, [(6, .inr (.inr (some 2))), (0, .inr (.inr (some 0))), (1, .inl x1), (2, .inl x2), (3, .inl x3), (4, .inl x4), (5, .inl x5)], [])], 88, 0, la 0 [.inr (.inr (some 2)), .inl x4], [], M3)) A3 rfl ?_
    refine nv_callv (c_put hct A3 x4 (k := k + 12) g3.2.1 (by omega)) (fun M4 f4 => ?_)
    have g4 : FD 2 1 3 k M M4 _ := FD_app (by decide) g3 f4
    have A4 := eqE_A g4.1 hA
    refine nv_cut hct nvB 88 0 6 (S' := (d, [(104, 54, [(6, .inr (.inr (some 2))), (0, .inr (.inr (some 0))), (1, .inl x1), (2, .inl x2), (3, .inl x3), (4, .inl x4), (5, .inl x5)], [])], 88, 0, la 0 [.inr (.inr (some 2)), .inl x5], [], M4)) A4 rfl ?_
    refine nv_callv (c_put hct A4 x5 (k := k + 16) g4.2.1 (by omega)) (fun M5 f5 => ?_)
    have g5 : FD 2 1 3 k M M5 _ := FD_app (by decide) g4 f5
    have A5 := eqE_A g5.1 hA
    refine nv_cut hct nvB 104 59 5 (S' := (d + 1, [], 104, 59, [(6, .inr (.inr (some 2))), (0, .inr (.inr (some 0))), (1, .inl x1), (2, .inl x2), (3, .inl x3), (4, .inl x4), (5, .inl x5)], [.inl (a_I M5 2 1)], M5)) A5 rfl ?_
    exact nv_iret hct rfl rfl ⟨_, rfl, Or.inr ⟨hc, by rw [g5.2.1]; show ((k + 20 : Nat) : Int) = _; omega, g5⟩⟩
  · skip
    refine nv_ifc hct false rfl (ccF2 hk (show ((680 : Int32)).toInt = 680 from rfl) (by omega)) ?_
    refine nv_cut hct nvB 104 21 4 (S' := (d + 1, [], 104, 21, [(6, .inr (.inr (some 2))), (0, .inr (.inr (some 0))), (1, .inl x1), (2, .inl x2), (3, .inl x3), (4, .inl x4), (5, .inl x5)], [.inl (-1 : Int32)], M)) hA rfl ?_
    exact nv_iret hct rfl rfl ⟨_, rfl, Or.inl ⟨by omega, rfl, rfl⟩⟩
set_option maxHeartbeats 4000000 in
theorem r_feed1 {cd : Nat → Nat → Option aI} (hct : ∀ m p o, ct m p = some o → cd m p = some (semO o)) {τ : Nat → Nat} {M : aM} (hA : nv_A nvB τ M) (x1 x2 x3 x4 x5 v j : Int32) {k : Nat} (hk : (a_I M 113 6).toInt = (k : Int)) (h7 : k < 700) {d : Nat} {Q : aQ} (h : ∀ M1, FD 113 6 114 k M M1 [by8 (binf 5 v (24 - 8 * (divf 1 j 4)))] → wpS cd (nv_S τ (d, [], 180, 111, [(7, .inl v), (6, .inl j), (0, .inr (.inr (some 113))), (1, .inl x1), (2, .inl x2), (3, .inl x3), (4, .inl x4), (5, .inl x5)], [], M1)) Q) : wpS cd (nv_S τ (d, [], 180, 78, [(7, .inl v), (6, .inl j), (0, .inr (.inr (some 113))), (1, .inl x1), (2, .inl x2), (3, .inl x3), (4, .inl x4), (5, .inl x5)], [], M)) Q := by
  refine nv_cut hct nvB 180 100 17 (S' := (d, [], 180, 100, [(7, .inl v), (6, .inl j), (0, .inr (.inr (some 113))), (1, .inl x1), (2, .inl x2), (3, .inl x3), (4, .inl x4), (5, .inl x5)], [.inl ((binf 5 v ((24 : Int32) - ((8 : Int32) * (divf 1 j (4 : Int32))))).toInt8.toInt32), .inl (a_I M 113 6), .inr (.inr (some 114))], M)) hA rfl ?_
  refine nv_ast hct hA rfl (show nvB.1 114 = 14 + 1 from rfl) (show nvB.2.1 114 = 700 + 1 from rfl) (inb_p hk h7) ?_
  refine nv_cut hct nvB 180 111 9 (S' := (d, [], 180, 111, [(7, .inl v), (6, .inl j), (0, .inr (.inr (some 113))), (1, .inl x1), (2, .inl x2), (3, .inl x3), (4, .inl x4), (5, .inl x5)], [], (s_I (s_I M 114 (a_I M 113 6).toNatClampNeg (astf 1 ((binf 5 v ((24 : Int32) - ((8 : Int32) * (divf 1 j (4 : Int32))))).toInt8.toInt32))) 113 6 ((a_I M 113 6) + (1 : Int32))))) (nv_As hA) rfl ?_
  exact h _ (FD_one (by decide) hk (add_p hk (by omega) (by omega)))
theorem sh8 (x : BitVec 32) (n : Nat) (h : n ≤ 24) : (x >>> n).signExtend 8 = (x.sshiftRight n).signExtend 8 := by
  apply BitVec.eq_of_getLsbD_eq
  intro i hi
  rw [BitVec.getLsbD_signExtend, BitVec.getLsbD_signExtend, BitVec.getLsbD_sshiftRight, BitVec.getLsbD_ushiftRight]
  have h1 : i < 32 := by omega
  have h2 : n + i < 32 := by omega
  have h3 : ¬ 32 ≤ i := by omega
  simp [h1, h2, h3]
theorem by8_s {x : Int32} : by8 (binf 6 x 24) = by8 (binf 5 x 24) ∧ by8 (binf 6 x 16) = by8 (binf 5 x 16) ∧ by8 (binf 6 x 8) = by8 (binf 5 x 8) ∧ by8 (binf 6 x 0) = by8 (binf 5 x 0) := by
  have key : ∀ n : Nat, n ≤ 24 → ∀ a b : Int32, a.toBitVec = x.toBitVec >>> n → b.toBitVec = x.toBitVec.sshiftRight n → by8 a = by8 b := fun n hn a b ha hb => by
    have : a.toInt8 = b.toInt8 := by
      apply Int8.toBitVec_inj.mp
      show a.toBitVec.signExtend 8 = b.toBitVec.signExtend 8
      rw [ha, hb]
      exact sh8 _ n hn
    unfold by8
    rw [this]
  exact ⟨key 24 (by omega) _ _ rfl rfl, key 16 (by omega) _ _ rfl rfl, key 8 (by omega) _ _ rfl rfl, key 0 (by omega) _ _ rfl rfl⟩
theorem fdE (x1 x2 x3 x4 x5 : Int32) : fd20 x1 x2 x3 x4 x5 = [by8 (binf 5 x1 24), by8 (binf 5 x1 16), by8 (binf 5 x1 8), by8 (binf 5 x1 0), by8 (binf 5 x2 24), by8 (binf 5 x2 16), by8 (binf 5 x2 8), by8 (binf 5 x2 0), by8 (binf 5 x3 24), by8 (binf 5 x3 16), by8 (binf 5 x3 8), by8 (binf 5 x3 0), by8 (binf 5 x4 24), by8 (binf 5 x4 16), by8 (binf 5 x4 8), by8 (binf 5 x4 0), by8 (binf 5 x5 24), by8 (binf 5 x5 16), by8 (binf 5 x5 8), by8 (binf 5 x5 0)] := by
  unfold fd20 fd4
  rw [by8_s.1, by8_s.2.1, by8_s.2.2.1, by8_s.2.2.2, by8_s.1, by8_s.2.1, by8_s.2.2.1, by8_s.2.2.2, by8_s.1, by8_s.2.1, by8_s.2.2.1, by8_s.2.2.2, by8_s.1, by8_s.2.1, by8_s.2.2.1, by8_s.2.2.2, by8_s.1, by8_s.2.1, by8_s.2.2.1, by8_s.2.2.2]
  simp only [List.cons_append, List.nil_append]
set_option maxHeartbeats 8000000 in
theorem r_feed {cd : Nat → Nat → Option aI} (hct : ∀ m p o, ct m p = some o → cd m p = some (semO o)) {τ : Nat → Nat} {M : aM} (hA : nv_A nvB τ M) (x1 x2 x3 x4 x5 : Int32) {k : Nat} (hk : (a_I M 113 6).toInt = (k : Int)) (h7 : k ≤ 700) {d : Nat} : wpS cd (d, [], 180, 0, nv_l τ (la 0 [.inr (.inr (some 113)), .inl x1, .inl x2, .inl x3, .inl x4, .inl x5]), [], M) (fun r M' => ∃ y, r = some (.inl y) ∧ ((680 < k ∧ M' = s_I M 113 0 0 ∧ y = -1) ∨ (k ≤ 680 ∧ y.toInt = (k : Int) + 20 ∧ FD 113 6 114 k (s_I M 113 0 0) M' (fd20 x1 x2 x3 x4 x5)))) := by
  show wpS cd (nv_S τ (d, [], 180, 0, la 0 [.inr (.inr (some 113)), .inl x1, .inl x2, .inl x3, .inl x4, .inl x5], [], M)) _
  refine nv_cut hct nvB 180 15 11 (S' := (d, [], 180, 15, [(0, .inr (.inr (some 113))), (1, .inl x1), (2, .inl x2), (3, .inl x3), (4, .inl x4), (5, .inl x5)], [.inl (700 : Int32), .inl ((a_I M 113 6) + (20 : Int32))], (s_I M 113 0 (0 : Int32)))) hA rfl ?_
  have h20 : (a_I M 113 6 + 20).toInt = (k : Int) + 20 := by
    rw [add_i]
    · rw [hk]; rfl
    · rw [hk]; show (-2147483648 : Int) ≤ (k : Int) + 20; omega
    · rw [hk]; show (k : Int) + 20 ≤ (2147483647 : Int); omega
  by_cases hc : k ≤ 680
  · skip
    refine nv_ifc hct true rfl (ccT2 h20 (show ((700 : Int32)).toInt = 700 from rfl) (by omega)) ?_
    have hk0 : (a_I (s_I M 113 0 0) 113 6).toInt = (k : Int) := hk
    have g0 : FD 113 6 114 k (s_I M 113 0 0) (s_I M 113 0 0) [] := FD_nil hk0
    refine nv_cut hct nvB 180 78 14 (S' := (d, [], 180, 78, [(7, .inl x1), (6, .inl (0 : Int32)), (0, .inr (.inr (some 113))), (1, .inl x1), (2, .inl x2), (3, .inl x3), (4, .inl x4), (5, .inl x5)], [], (s_I M 113 0 (0 : Int32)))) (nv_As hA) rfl ?_
    refine r_feed1 hct (nv_As hA) x1 x2 x3 x4 x5 _ _ (k := k + 0) hk0 (by omega) (fun M1 f1 => ?_)
    rw [show ((24 : Int32) - 8 * divf 1 0 4) = 24 by decide] at f1
    have g1 : FD 113 6 114 k (s_I M 113 0 0) M1 [by8 (binf 5 x1 24)] := FD_app (by decide) g0 f1
    have A1 := eqE_A g1.1 (nv_As hA)
    refine nv_cut hct nvB 180 78 14 (S' := (d, [], 180, 78, [(7, .inl x1), (6, .inl (1 : Int32)), (0, .inr (.inr (some 113))), (1, .inl x1), (2, .inl x2), (3, .inl x3), (4, .inl x4), (5, .inl x5)], [], M1)) A1 rfl ?_
    refine r_feed1 hct A1 x1 x2 x3 x4 x5 _ _ (k := k + 1) g1.2.1 (by omega) (fun M2 f2 => ?_)
    rw [show ((24 : Int32) - 8 * divf 1 1 4) = 16 by decide] at f2
    have g2 : FD 113 6 114 k (s_I M 113 0 0) M2 [by8 (binf 5 x1 24), by8 (binf 5 x1 16)] := FD_app (by decide) g1 f2
    have A2 := eqE_A g2.1 (nv_As hA)
    refine nv_cut hct nvB 180 78 14 (S' := (d, [], 180, 78, [(7, .inl x1), (6, .inl (2 : Int32)), (0, .inr (.inr (some 113))), (1, .inl x1), (2, .inl x2), (3, .inl x3), (4, .inl x4), (5, .inl x5)], [], M2)) A2 rfl ?_
    refine r_feed1 hct A2 x1 x2 x3 x4 x5 _ _ (k := k + 2) g2.2.1 (by omega) (fun M3 f3 => ?_)
    rw [show ((24 : Int32) - 8 * divf 1 2 4) = 8 by decide] at f3
    have g3 : FD 113 6 114 k (s_I M 113 0 0) M3 [by8 (binf 5 x1 24), by8 (binf 5 x1 16), by8 (binf 5 x1 8)] := FD_app (by decide) g2 f3
    have A3 := eqE_A g3.1 (nv_As hA)
    refine nv_cut hct nvB 180 78 14 (S' := (d, [], 180, 78, [(7, .inl x1), (6, .inl (3 : Int32)), (0, .inr (.inr (some 113))), (1, .inl x1), (2, .inl x2), (3, .inl x3), (4, .inl x4), (5, .inl x5)], [], M3)) A3 rfl ?_
    refine r_feed1 hct A3 x1 x2 x3 x4 x5 _ _ (k := k + 3) g3.2.1 (by omega) (fun M4 f4 => ?_)
    rw [show ((24 : Int32) - 8 * divf 1 3 4) = 0 by decide] at f4
    have g4 : FD 113 6 114 k (s_I M 113 0 0) M4 [by8 (binf 5 x1 24), by8 (binf 5 x1 16), by8 (binf 5 x1 8), by8 (binf 5 x1 0)] := FD_app (by decide) g3 f4
    have A4 := eqE_A g4.1 (nv_As hA)
    refine nv_cut hct nvB 180 78 17 (S' := (d, [], 180, 78, [(7, .inl x2), (6, .inl (4 : Int32)), (0, .inr (.inr (some 113))), (1, .inl x1), (2, .inl x2), (3, .inl x3), (4, .inl x4), (5, .inl x5)], [], M4)) A4 rfl ?_
    refine r_feed1 hct A4 x1 x2 x3 x4 x5 _ _ (k := k + 4) g4.2.1 (by omega) (fun M5 f5 => ?_)
    rw [show ((24 : Int32) - 8 * divf 1 4 4) = 24 by decide] at f5
    have g5 : FD 113 6 114 k (s_I M 113 0 0) M5 [by8 (binf 5 x1 24), by8 (binf 5 x1 16), by8 (binf 5 x1 8), by8 (binf 5 x1 0), by8 (binf 5 x2 24)] := FD_app (by decide) g4 f5
    have A5 := eqE_A g5.1 (nv_As hA)
    refine nv_cut hct nvB 180 78 17 (S' := (d, [], 180, 78, [(7, .inl x2), (6, .inl (5 : Int32)), (0, .inr (.inr (some 113))), (1, .inl x1), (2, .inl x2), (3, .inl x3), (4, .inl x4), (5, .inl x5)], [], M5)) A5 rfl ?_
    refine r_feed1 hct A5 x1 x2 x3 x4 x5 _ _ (k := k + 5) g5.2.1 (by omega) (fun M6 f6 => ?_)
    rw [show ((24 : Int32) - 8 * divf 1 5 4) = 16 by decide] at f6
    have g6 : FD 113 6 114 k (s_I M 113 0 0) M6 [by8 (binf 5 x1 24), by8 (binf 5 x1 16), by8 (binf 5 x1 8), by8 (binf 5 x1 0), by8 (binf 5 x2 24), by8 (binf 5 x2 16)] := FD_app (by decide) g5 f6
    have A6 := eqE_A g6.1 (nv_As hA)
    refine nv_cut hct nvB 180 78 17 (S' := (d, [], 180, 78, [(7, .inl x2), (6, .inl (6 : Int32)), (0, .inr (.inr (some 113))), (1, .inl x1), (2, .inl x2), (3, .inl x3), (4, .inl x4), (5, .inl x5)], [], M6)) A6 rfl ?_
    refine r_feed1 hct A6 x1 x2 x3 x4 x5 _ _ (k := k + 6) g6.2.1 (by omega) (fun M7 f7 => ?_)
    rw [show ((24 : Int32) - 8 * divf 1 6 4) = 8 by decide] at f7
    have g7 : FD 113 6 114 k (s_I M 113 0 0) M7 [by8 (binf 5 x1 24), by8 (binf 5 x1 16), by8 (binf 5 x1 8), by8 (binf 5 x1 0), by8 (binf 5 x2 24), by8 (binf 5 x2 16), by8 (binf 5 x2 8)] := FD_app (by decide) g6 f7
    have A7 := eqE_A g7.1 (nv_As hA)
    refine nv_cut hct nvB 180 78 17 (S' := (d, [], 180, 78, [(7, .inl x2), (6, .inl (7 : Int32)), (0, .inr (.inr (some 113))), (1, .inl x1), (2, .inl x2), (3, .inl x3), (4, .inl x4), (5, .inl x5)], [], M7)) A7 rfl ?_
    refine r_feed1 hct A7 x1 x2 x3 x4 x5 _ _ (k := k + 7) g7.2.1 (by omega) (fun M8 f8 => ?_)
    rw [show ((24 : Int32) - 8 * divf 1 7 4) = 0 by decide] at f8
    have g8 : FD 113 6 114 k (s_I M 113 0 0) M8 [by8 (binf 5 x1 24), by8 (binf 5 x1 16), by8 (binf 5 x1 8), by8 (binf 5 x1 0), by8 (binf 5 x2 24), by8 (binf 5 x2 16), by8 (binf 5 x2 8), by8 (binf 5 x2 0)] := FD_app (by decide) g7 f8
    have A8 := eqE_A g8.1 (nv_As hA)
    refine nv_cut hct nvB 180 78 20 (S' := (d, [], 180, 78, [(7, .inl x3), (6, .inl (8 : Int32)), (0, .inr (.inr (some 113))), (1, .inl x1), (2, .inl x2), (3, .inl x3), (4, .inl x4), (5, .inl x5)], [], M8)) A8 rfl ?_
    refine r_feed1 hct A8 x1 x2 x3 x4 x5 _ _ (k := k + 8) g8.2.1 (by omega) (fun M9 f9 => ?_)
    rw [show ((24 : Int32) - 8 * divf 1 8 4) = 24 by decide] at f9
    have g9 : FD 113 6 114 k (s_I M 113 0 0) M9 [by8 (binf 5 x1 24), by8 (binf 5 x1 16), by8 (binf 5 x1 8), by8 (binf 5 x1 0), by8 (binf 5 x2 24), by8 (binf 5 x2 16), by8 (binf 5 x2 8), by8 (binf 5 x2 0), by8 (binf 5 x3 24)] := FD_app (by decide) g8 f9
    have A9 := eqE_A g9.1 (nv_As hA)
    refine nv_cut hct nvB 180 78 20 (S' := (d, [], 180, 78, [(7, .inl x3), (6, .inl (9 : Int32)), (0, .inr (.inr (some 113))), (1, .inl x1), (2, .inl x2), (3, .inl x3), (4, .inl x4), (5, .inl x5)], [], M9)) A9 rfl ?_
    refine r_feed1 hct A9 x1 x2 x3 x4 x5 _ _ (k := k + 9) g9.2.1 (by omega) (fun M10 f10 => ?_)
    rw [show ((24 : Int32) - 8 * divf 1 9 4) = 16 by decide] at f10
    have g10 : FD 113 6 114 k (s_I M 113 0 0) M10 [by8 (binf 5 x1 24), by8 (binf 5 x1 16), by8 (binf 5 x1 8), by8 (binf 5 x1 0), by8 (binf 5 x2 24), by8 (binf 5 x2 16), by8 (binf 5 x2 8), by8 (binf 5 x2 0), by8 (binf 5 x3 24), by8 (binf 5 x3 16)] := FD_app (by decide) g9 f10
    have A10 := eqE_A g10.1 (nv_As hA)
    refine nv_cut hct nvB 180 78 20 (S' := (d, [], 180, 78, [(7, .inl x3), (6, .inl (10 : Int32)), (0, .inr (.inr (some 113))), (1, .inl x1), (2, .inl x2), (3, .inl x3), (4, .inl x4), (5, .inl x5)], [], M10)) A10 rfl ?_
    refine r_feed1 hct A10 x1 x2 x3 x4 x5 _ _ (k := k + 10) g10.2.1 (by omega) (fun M11 f11 => ?_)
    rw [show ((24 : Int32) - 8 * divf 1 10 4) = 8 by decide] at f11
    have g11 : FD 113 6 114 k (s_I M 113 0 0) M11 [by8 (binf 5 x1 24), by8 (binf 5 x1 16), by8 (binf 5 x1 8), by8 (binf 5 x1 0), by8 (binf 5 x2 24), by8 (binf 5 x2 16), by8 (binf 5 x2 8), by8 (binf 5 x2 0), by8 (binf 5 x3 24), by8 (binf 5 x3 16), by8 (binf 5 x3 8)] := FD_app (by decide) g10 f11
    have A11 := eqE_A g11.1 (nv_As hA)
    refine nv_cut hct nvB 180 78 20 (S' := (d, [], 180, 78, [(7, .inl x3), (6, .inl (11 : Int32)), (0, .inr (.inr (some 113))), (1, .inl x1), (2, .inl x2), (3, .inl x3), (4, .inl x4), (5, .inl x5)], [], M11)) A11 rfl ?_
    refine r_feed1 hct A11 x1 x2 x3 x4 x5 _ _ (k := k + 11) g11.2.1 (by omega) (fun M12 f12 => ?_)
    rw [show ((24 : Int32) - 8 * divf 1 11 4) = 0 by decide] at f12
    have g12 : FD 113 6 114 k (s_I M 113 0 0) M12 [by8 (binf 5 x1 24), by8 (binf 5 x1 16), by8 (binf 5 x1 8), by8 (binf 5 x1 0), by8 (binf 5 x2 24), by8 (binf 5 x2 16), by8 (binf 5 x2 8), by8 (binf 5 x2 0), by8 (binf 5 x3 24), by8 (binf 5 x3 16), by8 (binf 5 x3 8), by8 (binf 5 x3 0)] := FD_app (by decide) g11 f12
    have A12 := eqE_A g12.1 (nv_As hA)
    refine nv_cut hct nvB 180 78 23 (S' := (d, [], 180, 78, [(7, .inl x4), (6, .inl (12 : Int32)), (0, .inr (.inr (some 113))), (1, .inl x1), (2, .inl x2), (3, .inl x3), (4, .inl x4), (5, .inl x5)], [], M12)) A12 rfl ?_
    refine r_feed1 hct A12 x1 x2 x3 x4 x5 _ _ (k := k + 12) g12.2.1 (by omega) (fun M13 f13 => ?_)
    rw [show ((24 : Int32) - 8 * divf 1 12 4) = 24 by decide] at f13
    have g13 : FD 113 6 114 k (s_I M 113 0 0) M13 [by8 (binf 5 x1 24), by8 (binf 5 x1 16), by8 (binf 5 x1 8), by8 (binf 5 x1 0), by8 (binf 5 x2 24), by8 (binf 5 x2 16), by8 (binf 5 x2 8), by8 (binf 5 x2 0), by8 (binf 5 x3 24), by8 (binf 5 x3 16), by8 (binf 5 x3 8), by8 (binf 5 x3 0), by8 (binf 5 x4 24)] := FD_app (by decide) g12 f13
    have A13 := eqE_A g13.1 (nv_As hA)
    refine nv_cut hct nvB 180 78 23 (S' := (d, [], 180, 78, [(7, .inl x4), (6, .inl (13 : Int32)), (0, .inr (.inr (some 113))), (1, .inl x1), (2, .inl x2), (3, .inl x3), (4, .inl x4), (5, .inl x5)], [], M13)) A13 rfl ?_
    refine r_feed1 hct A13 x1 x2 x3 x4 x5 _ _ (k := k + 13) g13.2.1 (by omega) (fun M14 f14 => ?_)
    rw [show ((24 : Int32) - 8 * divf 1 13 4) = 16 by decide] at f14
    have g14 : FD 113 6 114 k (s_I M 113 0 0) M14 [by8 (binf 5 x1 24), by8 (binf 5 x1 16), by8 (binf 5 x1 8), by8 (binf 5 x1 0), by8 (binf 5 x2 24), by8 (binf 5 x2 16), by8 (binf 5 x2 8), by8 (binf 5 x2 0), by8 (binf 5 x3 24), by8 (binf 5 x3 16), by8 (binf 5 x3 8), by8 (binf 5 x3 0), by8 (binf 5 x4 24), by8 (binf 5 x4 16)] := FD_app (by decide) g13 f14
    have A14 := eqE_A g14.1 (nv_As hA)
    refine nv_cut hct nvB 180 78 23 (S' := (d, [], 180, 78, [(7, .inl x4), (6, .inl (14 : Int32)), (0, .inr (.inr (some 113))), (1, .inl x1), (2, .inl x2), (3, .inl x3), (4, .inl x4), (5, .inl x5)], [], M14)) A14 rfl ?_
    refine r_feed1 hct A14 x1 x2 x3 x4 x5 _ _ (k := k + 14) g14.2.1 (by omega) (fun M15 f15 => ?_)
    rw [show ((24 : Int32) - 8 * divf 1 14 4) = 8 by decide] at f15
    have g15 : FD 113 6 114 k (s_I M 113 0 0) M15 [by8 (binf 5 x1 24), by8 (binf 5 x1 16), by8 (binf 5 x1 8), by8 (binf 5 x1 0), by8 (binf 5 x2 24), by8 (binf 5 x2 16), by8 (binf 5 x2 8), by8 (binf 5 x2 0), by8 (binf 5 x3 24), by8 (binf 5 x3 16), by8 (binf 5 x3 8), by8 (binf 5 x3 0), by8 (binf 5 x4 24), by8 (binf 5 x4 16), by8 (binf 5 x4 8)] := FD_app (by decide) g14 f15
    have A15 := eqE_A g15.1 (nv_As hA)
    refine nv_cut hct nvB 180 78 23 (S' := (d, [], 180, 78, [(7, .inl x4), (6, .inl (15 : Int32)), (0, .inr (.inr (some 113))), (1, .inl x1), (2, .inl x2), (3, .inl x3), (4, .inl x4), (5, .inl x5)], [], M15)) A15 rfl ?_
    refine r_feed1 hct A15 x1 x2 x3 x4 x5 _ _ (k := k + 15) g15.2.1 (by omega) (fun M16 f16 => ?_)
    rw [show ((24 : Int32) - 8 * divf 1 15 4) = 0 by decide] at f16
    have g16 : FD 113 6 114 k (s_I M 113 0 0) M16 [by8 (binf 5 x1 24), by8 (binf 5 x1 16), by8 (binf 5 x1 8), by8 (binf 5 x1 0), by8 (binf 5 x2 24), by8 (binf 5 x2 16), by8 (binf 5 x2 8), by8 (binf 5 x2 0), by8 (binf 5 x3 24), by8 (binf 5 x3 16), by8 (binf 5 x3 8), by8 (binf 5 x3 0), by8 (binf 5 x4 24), by8 (binf 5 x4 16), by8 (binf 5 x4 8), by8 (binf 5 x4 0)] := FD_app (by decide) g15 f16
    have A16 := eqE_A g16.1 (nv_As hA)
    refine nv_cut hct nvB 180 78 22 (S' := (d, [], 180, 78, [(7, .inl x5), (6, .inl (16 : Int32)), (0, .inr (.inr (some 113))), (1, .inl x1), (2, .inl x2), (3, .inl x3), (4, .inl x4), (5, .inl x5)], [], M16)) A16 rfl ?_
    refine r_feed1 hct A16 x1 x2 x3 x4 x5 _ _ (k := k + 16) g16.2.1 (by omega) (fun M17 f17 => ?_)
    rw [show ((24 : Int32) - 8 * divf 1 16 4) = 24 by decide] at f17
    have g17 : FD 113 6 114 k (s_I M 113 0 0) M17 [by8 (binf 5 x1 24), by8 (binf 5 x1 16), by8 (binf 5 x1 8), by8 (binf 5 x1 0), by8 (binf 5 x2 24), by8 (binf 5 x2 16), by8 (binf 5 x2 8), by8 (binf 5 x2 0), by8 (binf 5 x3 24), by8 (binf 5 x3 16), by8 (binf 5 x3 8), by8 (binf 5 x3 0), by8 (binf 5 x4 24), by8 (binf 5 x4 16), by8 (binf 5 x4 8), by8 (binf 5 x4 0), by8 (binf 5 x5 24)] := FD_app (by decide) g16 f17
    have A17 := eqE_A g17.1 (nv_As hA)
    refine nv_cut hct nvB 180 78 22 (S' := (d, [], 180, 78, [(7, .inl x5), (6, .inl (17 : Int32)), (0, .inr (.inr (some 113))), (1, .inl x1), (2, .inl x2), (3, .inl x3), (4, .inl x4), (5, .inl x5)], [], M17)) A17 rfl ?_
    refine r_feed1 hct A17 x1 x2 x3 x4 x5 _ _ (k := k + 17) g17.2.1 (by omega) (fun M18 f18 => ?_)
    rw [show ((24 : Int32) - 8 * divf 1 17 4) = 16 by decide] at f18
    have g18 : FD 113 6 114 k (s_I M 113 0 0) M18 [by8 (binf 5 x1 24), by8 (binf 5 x1 16), by8 (binf 5 x1 8), by8 (binf 5 x1 0), by8 (binf 5 x2 24), by8 (binf 5 x2 16), by8 (binf 5 x2 8), by8 (binf 5 x2 0), by8 (binf 5 x3 24), by8 (binf 5 x3 16), by8 (binf 5 x3 8), by8 (binf 5 x3 0), by8 (binf 5 x4 24), by8 (binf 5 x4 16), by8 (binf 5 x4 8), by8 (binf 5 x4 0), by8 (binf 5 x5 24), by8 (binf 5 x5 16)] := FD_app (by decide) g17 f18
    have A18 := eqE_A g18.1 (nv_As hA)
    refine nv_cut hct nvB 180 78 22 (S' := (d, [], 180, 78, [(7, .inl x5), (6, .inl (18 : Int32)), (0, .inr (.inr (some 113))), (1, .inl x1), (2, .inl x2), (3, .inl x3), (4, .inl x4), (5, .inl x5)], [], M18)) A18 rfl ?_
    refine r_feed1 hct A18 x1 x2 x3 x4 x5 _ _ (k := k + 18) g18.2.1 (by omega) (fun M19 f19 => ?_)
    rw [show ((24 : Int32) - 8 * divf 1 18 4) = 8 by decide] at f19
    have g19 : FD 113 6 114 k (s_I M 113 0 0) M19 [by8 (binf 5 x1 24), by8 (binf 5 x1 16), by8 (binf 5 x1 8), by8 (binf 5 x1 0), by8 (binf 5 x2 24), by8 (binf 5 x2 16), by8 (binf 5 x2 8), by8 (binf 5 x2 0), by8 (binf 5 x3 24), by8 (binf 5 x3 16), by8 (binf 5 x3 8), by8 (binf 5 x3 0), by8 (binf 5 x4 24), by8 (binf 5 x4 16), by8 (binf 5 x4 8), by8 (binf 5 x4 0), by8 (binf 5 x5 24), by8 (binf 5 x5 16), by8 (binf 5 x5 8)] := FD_app (by decide) g18 f19
    have A19 := eqE_A g19.1 (nv_As hA)
    refine nv_cut hct nvB 180 78 22 (S' := (d, [], 180, 78, [(7, .inl x5), (6, .inl (19 : Int32)), (0, .inr (.inr (some 113))), (1, .inl x1), (2, .inl x2), (3, .inl x3), (4, .inl x4), (5, .inl x5)], [], M19)) A19 rfl ?_
    refine r_feed1 hct A19 x1 x2 x3 x4 x5 _ _ (k := k + 19) g19.2.1 (by omega) (fun M20 f20 => ?_)
    rw [show ((24 : Int32) - 8 * divf 1 19 4) = 0 by decide] at f20
    have g20 : FD 113 6 114 k (s_I M 113 0 0) M20 [by8 (binf 5 x1 24), by8 (binf 5 x1 16), by8 (binf 5 x1 8), by8 (binf 5 x1 0), by8 (binf 5 x2 24), by8 (binf 5 x2 16), by8 (binf 5 x2 8), by8 (binf 5 x2 0), by8 (binf 5 x3 24), by8 (binf 5 x3 16), by8 (binf 5 x3 8), by8 (binf 5 x3 0), by8 (binf 5 x4 24), by8 (binf 5 x4 16), by8 (binf 5 x4 8), by8 (binf 5 x4 0), by8 (binf 5 x5 24), by8 (binf 5 x5 16), by8 (binf 5 x5 8), by8 (binf 5 x5 0)] := FD_app (by decide) g19 f20
    have A20 := eqE_A g20.1 (nv_As hA)
    refine nv_cut hct nvB 180 121 10 (S' := (d, [], 180, 121, [(6, .inl (20 : Int32)), (7, .inl x5), (0, .inr (.inr (some 113))), (1, .inl x1), (2, .inl x2), (3, .inl x3), (4, .inl x4), (5, .inl x5)], [.inl (a_I M20 113 6)], M20)) A20 rfl ?_
    rw [← fdE] at g20
    have hlen : (fd20 x1 x2 x3 x4 x5).length = 20 := rfl
    exact nv_iret hct rfl rfl ⟨_, rfl, Or.inr ⟨hc, by rw [g20.2.1, hlen]; omega, g20⟩⟩
  · skip
    refine nv_ifc hct false rfl (ccF2 h20 (show ((700 : Int32)).toInt = 700 from rfl) (by omega)) ?_
    refine nv_cut hct nvB 180 19 4 (S' := (d, [], 180, 19, [(0, .inr (.inr (some 113))), (1, .inl x1), (2, .inl x2), (3, .inl x3), (4, .inl x4), (5, .inl x5)], [.inl (-1 : Int32)], (s_I M 113 0 (0 : Int32)))) (nv_As hA) rfl ?_
    exact nv_iret hct rfl rfl ⟨_, rfl, Or.inl ⟨by omega, rfl, rfl⟩⟩
