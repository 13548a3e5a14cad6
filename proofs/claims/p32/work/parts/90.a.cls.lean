/-! The class's tokens: printed by wip/gen/clsp.py -/
def nvC_K (a : Nat) : Nat := bif Nat.blt a 312 then (bif Nat.blt a 74 then (bif Nat.blt a 43 then (bif Nat.blt a 27 then (bif Nat.blt a 19 then (bif Nat.blt a 3 then (bif Nat.blt a 1 then (bif Nat.beq a 0 then 12 else 0) else (bif Nat.blt a 2 then (bif Nat.beq a 1 then 7 else 0) else (bif Nat.beq a 2 then 10 else 0))) else (bif Nat.blt a 17 then (bif Nat.blt a 16 then (bif Nat.beq a 3 then 15 else 0) else (bif Nat.beq a 16 then 16 else 0)) else (bif Nat.blt a 18 then (bif Nat.beq a 17 then 16 else 0) else (bif Nat.beq a 18 then 16 else 0)))) else (bif Nat.blt a 23 then (bif Nat.blt a 21 then (bif Nat.blt a 20 then (bif Nat.beq a 19 then 4 else 0) else (bif Nat.beq a 20 then 2 else 0)) else (bif Nat.blt a 22 then (bif Nat.beq a 21 then 20 else 0) else (bif Nat.beq a 22 then 16 else 0))) else (bif Nat.blt a 25 then (bif Nat.blt a 24 then (bif Nat.beq a 23 then 16 else 0) else (bif Nat.beq a 24 then 16 else 0)) else (bif Nat.blt a 26 then (bif Nat.beq a 25 then 16 else 0) else (bif Nat.beq a 26 then 16 else 0))))) else (bif Nat.blt a 35 then (bif Nat.blt a 31 then (bif Nat.blt a 29 then (bif Nat.blt a 28 then (bif Nat.beq a 27 then 16 else 0) else (bif Nat.beq a 28 then 16 else 0)) else (bif Nat.blt a 30 then (bif Nat.beq a 29 then 16 else 0) else (bif Nat.beq a 30 then 16 else 0))) else (bif Nat.blt a 33 then (bif Nat.blt a 32 then (bif Nat.beq a 31 then 16 else 0) else (bif Nat.beq a 32 then 8 else 0)) else (bif Nat.blt a 34 then (bif Nat.beq a 33 then 19 else 0) else (bif Nat.beq a 34 then 16 else 0)))) else (bif Nat.blt a 39 then (bif Nat.blt a 37 then (bif Nat.blt a 36 then (bif Nat.beq a 35 then 16 else 0) else (bif Nat.beq a 36 then 2 else 0)) else (bif Nat.blt a 38 then (bif Nat.beq a 37 then 2 else 0) else (bif Nat.beq a 38 then 2 else 0))) else (bif Nat.blt a 41 then (bif Nat.blt a 40 then (bif Nat.beq a 39 then 2 else 0) else (bif Nat.beq a 40 then 2 else 0)) else (bif Nat.blt a 42 then (bif Nat.beq a 41 then 2 else 0) else (bif Nat.beq a 42 then 2 else 0)))))) else (bif Nat.blt a 58 then (bif Nat.blt a 50 then (bif Nat.blt a 46 then (bif Nat.blt a 44 then (bif Nat.beq a 43 then 2 else 0) else (bif Nat.blt a 45 then (bif Nat.beq a 44 then 2 else 0) else (bif Nat.beq a 45 then 2 else 0))) else (bif Nat.blt a 48 then (bif Nat.blt a 47 then (bif Nat.beq a 46 then 3 else 0) else (bif Nat.beq a 47 then 2 else 0)) else (bif Nat.blt a 49 then (bif Nat.beq a 48 then 16 else 0) else (bif Nat.beq a 49 then 16 else 0)))) else (bif Nat.blt a 54 then (bif Nat.blt a 52 then (bif Nat.blt a 51 then (bif Nat.beq a 50 then 16 else 0) else (bif Nat.beq a 51 then 16 else 0)) else (bif Nat.blt a 53 then (bif Nat.beq a 52 then 5 else 0) else (bif Nat.beq a 53 then 2 else 0))) else (bif Nat.blt a 56 then (bif Nat.blt a 55 then (bif Nat.beq a 54 then 16 else 0) else (bif Nat.beq a 55 then 16 else 0)) else (bif Nat.blt a 57 then (bif Nat.beq a 56 then 20 else 0) else (bif Nat.beq a 57 then 16 else 0))))) else (bif Nat.blt a 66 then (bif Nat.blt a 62 then (bif Nat.blt a 60 then (bif Nat.blt a 59 then (bif Nat.beq a 58 then 16 else 0) else (bif Nat.beq a 59 then 16 else 0)) else (bif Nat.blt a 61 then (bif Nat.beq a 60 then 1 else 0) else (bif Nat.beq a 61 then 16 else 0))) else (bif Nat.blt a 64 then (bif Nat.blt a 63 then (bif Nat.beq a 62 then 16 else 0) else (bif Nat.beq a 63 then 20 else 0)) else (bif Nat.blt a 65 then (bif Nat.beq a 64 then 16 else 0) else (bif Nat.beq a 65 then 16 else 0)))) else (bif Nat.blt a 70 then (bif Nat.blt a 68 then (bif Nat.blt a 67 then (bif Nat.beq a 66 then 16 else 0) else (bif Nat.beq a 67 then 16 else 0)) else (bif Nat.blt a 69 then (bif Nat.beq a 68 then 16 else 0) else (bif Nat.beq a 69 then 16 else 0))) else (bif Nat.blt a 72 then (bif Nat.blt a 71 then (bif Nat.beq a 70 then 16 else 0) else (bif Nat.beq a 71 then 16 else 0)) else (bif Nat.blt a 73 then (bif Nat.beq a 72 then 16 else 0) else (bif Nat.beq a 73 then 16 else 0))))))) else (bif Nat.blt a 117 then (bif Nat.blt a 89 then (bif Nat.blt a 81 then (bif Nat.blt a 77 then (bif Nat.blt a 75 then (bif Nat.beq a 74 then 16 else 0) else (bif Nat.blt a 76 then (bif Nat.beq a 75 then 16 else 0) else (bif Nat.beq a 76 then 16 else 0))) else (bif Nat.blt a 79 then (bif Nat.blt a 78 then (bif Nat.beq a 77 then 16 else 0) else (bif Nat.beq a 78 then 16 else 0)) else (bif Nat.blt a 80 then (bif Nat.beq a 79 then 16 else 0) else (bif Nat.beq a 80 then 16 else 0)))) else (bif Nat.blt a 85 then (bif Nat.blt a 83 then (bif Nat.blt a 82 then (bif Nat.beq a 81 then 16 else 0) else (bif Nat.beq a 82 then 16 else 0)) else (bif Nat.blt a 84 then (bif Nat.beq a 83 then 16 else 0) else (bif Nat.beq a 84 then 16 else 0))) else (bif Nat.blt a 87 then (bif Nat.blt a 86 then (bif Nat.beq a 85 then 16 else 0) else (bif Nat.beq a 86 then 16 else 0)) else (bif Nat.blt a 88 then (bif Nat.beq a 87 then 16 else 0) else (bif Nat.beq a 88 then 16 else 0))))) else (bif Nat.blt a 97 then (bif Nat.blt a 93 then (bif Nat.blt a 91 then (bif Nat.blt a 90 then (bif Nat.beq a 89 then 16 else 0) else (bif Nat.beq a 90 then 16 else 0)) else (bif Nat.blt a 92 then (bif Nat.beq a 91 then 16 else 0) else (bif Nat.beq a 92 then 16 else 0))) else (bif Nat.blt a 95 then (bif Nat.blt a 94 then (bif Nat.beq a 93 then 16 else 0) else (bif Nat.beq a 94 then 16 else 0)) else (bif Nat.blt a 96 then (bif Nat.beq a 95 then 11 else 0) else (bif Nat.beq a 96 then 18 else 0)))) else (bif Nat.blt a 113 then (bif Nat.blt a 99 then (bif Nat.blt a 98 then (bif Nat.beq a 97 then 16 else 0) else (bif Nat.beq a 98 then 16 else 0)) else (bif Nat.blt a 100 then (bif Nat.beq a 99 then 16 else 0) else (bif Nat.beq a 100 then 16 else 0))) else (bif Nat.blt a 115 then (bif Nat.blt a 114 then (bif Nat.beq a 113 then 14 else 0) else (bif Nat.beq a 114 then 15 else 0)) else (bif Nat.blt a 116 then (bif Nat.beq a 115 then 16 else 0) else (bif Nat.beq a 116 then 16 else 0)))))) else (bif Nat.blt a 133 then (bif Nat.blt a 125 then (bif Nat.blt a 121 then (bif Nat.blt a 119 then (bif Nat.blt a 118 then (bif Nat.beq a 117 then 16 else 0) else (bif Nat.beq a 118 then 16 else 0)) else (bif Nat.blt a 120 then (bif Nat.beq a 119 then 16 else 0) else (bif Nat.beq a 120 then 16 else 0))) else (bif Nat.blt a 123 then (bif Nat.blt a 122 then (bif Nat.beq a 121 then 16 else 0) else (bif Nat.beq a 122 then 16 else 0)) else (bif Nat.blt a 124 then (bif Nat.beq a 123 then 16 else 0) else (bif Nat.beq a 124 then 16 else 0)))) else (bif Nat.blt a 129 then (bif Nat.blt a 127 then (bif Nat.blt a 126 then (bif Nat.beq a 125 then 16 else 0) else (bif Nat.beq a 126 then 16 else 0)) else (bif Nat.blt a 128 then (bif Nat.beq a 127 then 16 else 0) else (bif Nat.beq a 128 then 16 else 0))) else (bif Nat.blt a 131 then (bif Nat.blt a 130 then (bif Nat.beq a 129 then 16 else 0) else (bif Nat.beq a 130 then 16 else 0)) else (bif Nat.blt a 132 then (bif Nat.beq a 131 then 16 else 0) else (bif Nat.beq a 132 then 16 else 0))))) else (bif Nat.blt a 304 then (bif Nat.blt a 300 then (bif Nat.blt a 135 then (bif Nat.blt a 134 then (bif Nat.beq a 133 then 16 else 0) else (bif Nat.beq a 134 then 16 else 0)) else (bif Nat.blt a 136 then (bif Nat.beq a 135 then 18 else 0) else (bif Nat.beq a 136 then 17 else 0))) else (bif Nat.blt a 302 then (bif Nat.blt a 301 then (bif Nat.beq a 300 then 9 else 0) else (bif Nat.beq a 301 then 16 else 0)) else (bif Nat.blt a 303 then (bif Nat.beq a 302 then 16 else 0) else (bif Nat.beq a 303 then 16 else 0)))) else (bif Nat.blt a 308 then (bif Nat.blt a 306 then (bif Nat.blt a 305 then (bif Nat.beq a 304 then 16 else 0) else (bif Nat.beq a 305 then 16 else 0)) else (bif Nat.blt a 307 then (bif Nat.beq a 306 then 16 else 0) else (bif Nat.beq a 307 then 6 else 0))) else (bif Nat.blt a 310 then (bif Nat.blt a 309 then (bif Nat.beq a 308 then 16 else 0) else (bif Nat.beq a 309 then 16 else 0)) else (bif Nat.blt a 311 then (bif Nat.beq a 310 then 18 else 0) else (bif Nat.beq a 311 then 18 else 0)))))))) else 0
def nvC_N (a : Nat) : Nat := bif Nat.blt a 312 then (bif Nat.blt a 83 then (bif Nat.blt a 57 then (bif Nat.blt a 29 then (bif Nat.blt a 23 then (bif Nat.blt a 18 then (bif Nat.blt a 16 then (bif Nat.beq a 3 then 701 else 0) else (bif Nat.blt a 17 then (bif Nat.beq a 16 then 9 else 0) else (bif Nat.beq a 17 then 9 else 0))) else (bif Nat.blt a 21 then (bif Nat.beq a 18 then 9 else 0) else (bif Nat.blt a 22 then (bif Nat.beq a 21 then 8 else 0) else (bif Nat.beq a 22 then 31 else 0)))) else (bif Nat.blt a 26 then (bif Nat.blt a 24 then (bif Nat.beq a 23 then 31 else 0) else (bif Nat.blt a 25 then (bif Nat.beq a 24 then 31 else 0) else (bif Nat.beq a 25 then 31 else 0))) else (bif Nat.blt a 27 then (bif Nat.beq a 26 then 31 else 0) else (bif Nat.blt a 28 then (bif Nat.beq a 27 then 31 else 0) else (bif Nat.beq a 28 then 31 else 0))))) else (bif Nat.blt a 48 then (bif Nat.blt a 33 then (bif Nat.blt a 30 then (bif Nat.beq a 29 then 21 else 0) else (bif Nat.blt a 31 then (bif Nat.beq a 30 then 21 else 0) else (bif Nat.beq a 31 then 21 else 0))) else (bif Nat.blt a 34 then (bif Nat.beq a 33 then 11 else 0) else (bif Nat.blt a 35 then (bif Nat.beq a 34 then 8 else 0) else (bif Nat.beq a 35 then 8 else 0)))) else (bif Nat.blt a 51 then (bif Nat.blt a 49 then (bif Nat.beq a 48 then 31 else 0) else (bif Nat.blt a 50 then (bif Nat.beq a 49 then 31 else 0) else (bif Nat.beq a 50 then 31 else 0))) else (bif Nat.blt a 55 then (bif Nat.blt a 54 then (bif Nat.beq a 51 then 31 else 0) else (bif Nat.beq a 54 then 13 else 0)) else (bif Nat.blt a 56 then (bif Nat.beq a 55 then 13 else 0) else (bif Nat.beq a 56 then 4 else 0)))))) else (bif Nat.blt a 70 then (bif Nat.blt a 64 then (bif Nat.blt a 61 then (bif Nat.blt a 58 then (bif Nat.beq a 57 then 249 else 0) else (bif Nat.blt a 59 then (bif Nat.beq a 58 then 249 else 0) else (bif Nat.beq a 59 then 249 else 0))) else (bif Nat.blt a 62 then (bif Nat.beq a 61 then 31 else 0) else (bif Nat.blt a 63 then (bif Nat.beq a 62 then 31 else 0) else (bif Nat.beq a 63 then 31 else 0)))) else (bif Nat.blt a 67 then (bif Nat.blt a 65 then (bif Nat.beq a 64 then 31 else 0) else (bif Nat.blt a 66 then (bif Nat.beq a 65 then 31 else 0) else (bif Nat.beq a 66 then 31 else 0))) else (bif Nat.blt a 68 then (bif Nat.beq a 67 then 31 else 0) else (bif Nat.blt a 69 then (bif Nat.beq a 68 then 31 else 0) else (bif Nat.beq a 69 then 31 else 0))))) else (bif Nat.blt a 76 then (bif Nat.blt a 73 then (bif Nat.blt a 71 then (bif Nat.beq a 70 then 31 else 0) else (bif Nat.blt a 72 then (bif Nat.beq a 71 then 31 else 0) else (bif Nat.beq a 72 then 31 else 0))) else (bif Nat.blt a 74 then (bif Nat.beq a 73 then 31 else 0) else (bif Nat.blt a 75 then (bif Nat.beq a 74 then 31 else 0) else (bif Nat.beq a 75 then 31 else 0)))) else (bif Nat.blt a 79 then (bif Nat.blt a 77 then (bif Nat.beq a 76 then 31 else 0) else (bif Nat.blt a 78 then (bif Nat.beq a 77 then 31 else 0) else (bif Nat.beq a 78 then 31 else 0))) else (bif Nat.blt a 81 then (bif Nat.blt a 80 then (bif Nat.beq a 79 then 31 else 0) else (bif Nat.beq a 80 then 31 else 0)) else (bif Nat.blt a 82 then (bif Nat.beq a 81 then 31 else 0) else (bif Nat.beq a 82 then 31 else 0))))))) else (bif Nat.blt a 122 then (bif Nat.blt a 96 then (bif Nat.blt a 89 then (bif Nat.blt a 86 then (bif Nat.blt a 84 then (bif Nat.beq a 83 then 31 else 0) else (bif Nat.blt a 85 then (bif Nat.beq a 84 then 31 else 0) else (bif Nat.beq a 85 then 31 else 0))) else (bif Nat.blt a 87 then (bif Nat.beq a 86 then 31 else 0) else (bif Nat.blt a 88 then (bif Nat.beq a 87 then 31 else 0) else (bif Nat.beq a 88 then 31 else 0)))) else (bif Nat.blt a 92 then (bif Nat.blt a 90 then (bif Nat.beq a 89 then 31 else 0) else (bif Nat.blt a 91 then (bif Nat.beq a 90 then 31 else 0) else (bif Nat.beq a 91 then 31 else 0))) else (bif Nat.blt a 93 then (bif Nat.beq a 92 then 31 else 0) else (bif Nat.blt a 94 then (bif Nat.beq a 93 then 31 else 0) else (bif Nat.beq a 94 then 3 else 0))))) else (bif Nat.blt a 115 then (bif Nat.blt a 99 then (bif Nat.blt a 97 then (bif Nat.beq a 96 then 31 else 0) else (bif Nat.blt a 98 then (bif Nat.beq a 97 then 31 else 0) else (bif Nat.beq a 98 then 31 else 0))) else (bif Nat.blt a 100 then (bif Nat.beq a 99 then 31 else 0) else (bif Nat.blt a 114 then (bif Nat.beq a 100 then 31 else 0) else (bif Nat.beq a 114 then 701 else 0)))) else (bif Nat.blt a 118 then (bif Nat.blt a 116 then (bif Nat.beq a 115 then 11 else 0) else (bif Nat.blt a 117 then (bif Nat.beq a 116 then 11 else 0) else (bif Nat.beq a 117 then 31 else 0))) else (bif Nat.blt a 120 then (bif Nat.blt a 119 then (bif Nat.beq a 118 then 31 else 0) else (bif Nat.beq a 119 then 31 else 0)) else (bif Nat.blt a 121 then (bif Nat.beq a 120 then 31 else 0) else (bif Nat.beq a 121 then 31 else 0)))))) else (bif Nat.blt a 134 then (bif Nat.blt a 128 then (bif Nat.blt a 125 then (bif Nat.blt a 123 then (bif Nat.beq a 122 then 31 else 0) else (bif Nat.blt a 124 then (bif Nat.beq a 123 then 31 else 0) else (bif Nat.beq a 124 then 8 else 0))) else (bif Nat.blt a 126 then (bif Nat.beq a 125 then 13 else 0) else (bif Nat.blt a 127 then (bif Nat.beq a 126 then 13 else 0) else (bif Nat.beq a 127 then 21 else 0)))) else (bif Nat.blt a 131 then (bif Nat.blt a 129 then (bif Nat.beq a 128 then 21 else 0) else (bif Nat.blt a 130 then (bif Nat.beq a 129 then 21 else 0) else (bif Nat.beq a 130 then 3 else 0))) else (bif Nat.blt a 132 then (bif Nat.beq a 131 then 31 else 0) else (bif Nat.blt a 133 then (bif Nat.beq a 132 then 31 else 0) else (bif Nat.beq a 133 then 31 else 0))))) else (bif Nat.blt a 304 then (bif Nat.blt a 301 then (bif Nat.blt a 135 then (bif Nat.beq a 134 then 31 else 0) else (bif Nat.blt a 136 then (bif Nat.beq a 135 then 31 else 0) else (bif Nat.beq a 136 then 2 else 0))) else (bif Nat.blt a 302 then (bif Nat.beq a 301 then 5 else 0) else (bif Nat.blt a 303 then (bif Nat.beq a 302 then 5 else 0) else (bif Nat.beq a 303 then 5 else 0)))) else (bif Nat.blt a 308 then (bif Nat.blt a 305 then (bif Nat.beq a 304 then 31 else 0) else (bif Nat.blt a 306 then (bif Nat.beq a 305 then 31 else 0) else (bif Nat.beq a 306 then 5 else 0))) else (bif Nat.blt a 310 then (bif Nat.blt a 309 then (bif Nat.beq a 308 then 31 else 0) else (bif Nat.beq a 309 then 31 else 0)) else (bif Nat.blt a 311 then (bif Nat.beq a 310 then 31 else 0) else (bif Nat.beq a 311 then 31 else 0)))))))) else 0
def nvC_P (a k : Nat) : Option (Option Nat) := bif Nat.blt a 312 && Nat.blt k 50 then (bif Nat.blt a 52 then (bif Nat.blt a 19 then (bif Nat.blt a 1 then (bif Nat.beq a 0 then (bif Nat.beq k 0 then some (some 1) else (bif Nat.beq k 1 then some (some 19) else (bif Nat.beq k 2 then some (some 32) else (bif Nat.beq k 3 then some (some 46) else (bif Nat.beq k 4 then some (some 52) else (bif Nat.beq k 5 then some (some 60) else (bif Nat.beq k 6 then some (some 95) else none))))))) else none) else (bif Nat.blt a 2 then (bif Nat.beq a 1 then (bif Nat.beq k 0 then some (some 2) else (bif Nat.beq k 1 then some (some 300) else (bif Nat.beq k 2 then some (some 16) else (bif Nat.beq k 3 then some (some 17) else (bif Nat.beq k 4 then some (some 18) else none))))) else none) else (bif Nat.beq a 2 then (bif Nat.beq k 0 then some (some 3) else none) else none))) else (bif Nat.blt a 32 then (bif Nat.beq a 19 then (bif Nat.beq k 0 then some (some 20) else (bif Nat.beq k 1 then some (some 21) else (bif Nat.beq k 2 then some (some 29) else (bif Nat.beq k 3 then some (some 30) else (bif Nat.beq k 4 then some (some 31) else none))))) else none) else (bif Nat.blt a 46 then (bif Nat.beq a 32 then (bif Nat.beq k 0 then some (some 33) else (bif Nat.beq k 1 then some (some 34) else (bif Nat.beq k 2 then some (some 35) else none))) else none) else (bif Nat.beq a 46 then (bif Nat.beq k 0 then some (some 47) else (bif Nat.beq k 1 then some (some 48) else (bif Nat.beq k 2 then some (some 49) else (bif Nat.beq k 3 then some (some 50) else (bif Nat.beq k 4 then some (some 51) else none))))) else none)))) else (bif Nat.blt a 113 then (bif Nat.blt a 60 then (bif Nat.beq a 52 then (bif Nat.beq k 0 then some (some 53) else (bif Nat.beq k 1 then some (some 54) else (bif Nat.beq k 2 then some (some 55) else (bif Nat.beq k 3 then some (some 56) else none)))) else none) else (bif Nat.blt a 95 then (bif Nat.beq a 60 then (bif Nat.beq k 0 then some (some 61) else (bif Nat.beq k 1 then some (some 62) else (bif Nat.beq k 2 then some (some 63) else (bif Nat.beq k 3 then some (some 94) else none)))) else none) else (bif Nat.beq a 95 then (bif Nat.beq k 0 then some (some 96) else (bif Nat.beq k 1 then some (some 97) else (bif Nat.beq k 2 then some (some 98) else (bif Nat.beq k 3 then some (some 99) else (bif Nat.beq k 4 then some (some 100) else none))))) else none))) else (bif Nat.blt a 300 then (bif Nat.beq a 113 then (bif Nat.beq k 5 then some (some 114) else (bif Nat.beq k 17 then some (some 115) else (bif Nat.beq k 18 then some (some 116) else (bif Nat.beq k 19 then some (some 117) else (bif Nat.beq k 20 then some (some 118) else (bif Nat.beq k 21 then some (some 119) else (bif Nat.beq k 22 then some (some 120) else (bif Nat.beq k 23 then some (some 121) else (bif Nat.beq k 24 then some (some 122) else (bif Nat.beq k 25 then some (some 123) else (bif Nat.beq k 27 then some (some 124) else (bif Nat.beq k 29 then some (some 125) else (bif Nat.beq k 30 then some (some 126) else (bif Nat.beq k 32 then some (some 127) else (bif Nat.beq k 33 then some (some 128) else (bif Nat.beq k 34 then some (some 129) else (bif Nat.beq k 36 then some (some 130) else (bif Nat.beq k 38 then some (some 131) else (bif Nat.beq k 39 then some (some 132) else (bif Nat.beq k 40 then some (some 133) else (bif Nat.beq k 41 then some (some 134) else (bif Nat.beq k 42 then some (some 135) else none)))))))))))))))))))))) else none) else (bif Nat.blt a 307 then (bif Nat.beq a 300 then (bif Nat.beq k 12 then some (some 301) else (bif Nat.beq k 13 then some (some 302) else (bif Nat.beq k 14 then some (some 303) else (bif Nat.beq k 15 then some (some 304) else (bif Nat.beq k 16 then some (some 305) else (bif Nat.beq k 17 then some (some 306) else (bif Nat.beq k 18 then some (some 307) else none))))))) else none) else (bif Nat.beq a 307 then (bif Nat.beq k 0 then some (some 308) else (bif Nat.beq k 1 then some (some 309) else (bif Nat.beq k 2 then some (some 310) else (bif Nat.beq k 3 then some (some 311) else none)))) else none))))) else none
def nvC : nv_T := (nvC_K, nvC_N, nvC_P)

def tauC (t0 j : Nat) : Nat := t0 + (j - 300)
/-- what stays while a text is read -/
def EnC (t0 : Nat) (B : Nat → Int) (lim : Nat) (M : aM) : Prop := nv_A nvC (tauC t0) M ∧ (∀ k, k < 700 → (a_I M 3 k &&& 255).toInt = B k) ∧ (a_I M 2 2).toInt = (lim : Int) ∧ lim ≤ 700 ∧ (t0 = 4 ∨ t0 = 101)
/-- all but these slots -/
def fC (a k : Nat) : Bool := (Nat.beq a 2 && (Nat.ble 3 k && Nat.ble k 7)) || (Nat.beq a 1 && (Nat.beq k 13 || Nat.beq k 14))
theorem Ec_x {t0 : Nat} {B : Nat → Int} {lim : Nat} {f : Nat → Nat → Bool} {M M1 : aM} (h3 : ∀ k, f 3 k = false) (h2 : f 2 2 = false) (h : eqE f M M1) (hE : EnC t0 B lim M) : EnC t0 B lim M1 := by
  obtain ⟨e1, e2, e3, e4, e5⟩ := hE
  refine ⟨eqE_A h e1, fun k hk => ?_, ?_, e4, e5⟩
  · rw [h.2.2 3 k (h3 k)]; exact e2 k hk
  · rw [h.2.2 2 2 h2]; exact e3
def fA (a k : Nat) : Bool := Nat.beq a 2 && (Nat.ble 3 k && Nat.ble k 7)
theorem fA_C {M M1 : aM} (h : eqE fA M M1) : eqE fC M M1 := eqE_up h (fun a k q => ((Bool.or_eq_false_iff).mp q).1)
theorem fC_3 : ∀ k, fC 3 k = false := fun k => rfl
/-- the token at p, as the class's fields tell it -/
def TkC (B : Nat → Int) (lim : Nat) (M : aM) (p : Nat) : Prop := (a_I M 2 5).toInt = (skp B lim p : Int) ∧ (a_I M 2 4).toInt = (knd B lim p : Int) ∧ (a_I M 2 3).toInt = (nxt B lim p : Int) ∧ (a_I M 2 6).toInt = ((nxt B lim p - skp B lim p : Nat) : Int) ∧ (knd B lim p = 2 → (a_I M 2 7).toInt = val B lim p)
theorem nxt_s {B : Nat → Int} {lim p : Nat} : skp B lim p ≤ nxt B lim p := by
  unfold nxt
  cases isLt (gt9 B lim (skp B lim p)) with
  | true => exact fwd_ge
  | false =>
    cases isDg (gt9 B lim (skp B lim p)) with
    | true => exact fwd_ge
    | false =>
      simp only [cond_false]
      split <;> omega
set_option maxHeartbeats 4000000 in
theorem c_byteAt {cd : Nat → Nat → Option aI} {z : Bool} (hz : ∀ m p i, cd0 z m p = some i → cd m p = some i) {t0 : Nat} {B : Nat → Int} {lim : Nat} {M : aM} (hE : EnC t0 B lim M) {k : Int32} {p : Nat} (hk : k.toInt = (p : Int)) {d : Nat} : wpS cd (d, [], 90, 0, nv_l (tauC t0) (la 0 [.inr (.inr (some 2)), .inl k]), [], M) (fun r M' => ∃ x, r = some (.inl x) ∧ M' = M ∧ x.toInt = gt9 B lim p) := by
  show wpS cd (nv_S (tauC t0) (d, [], 90, 0, la 0 [.inr (.inr (some 2)), .inl k], [], M)) _
  have hct := hc_of hz
  refine nv_cut hct nvC 90 1 4 (S' := (d, [], 90, 1, [(0, .inr (.inr (some 2))), (1, .inl k)], [.inl k], M)) hE.1 rfl ?_
  refine nv_if hct false rfl (zcF0 hk (by omega)) ?_
  refine nv_cut hct nvC 90 9 6 (S' := (d, [], 90, 9, [(0, .inr (.inr (some 2))), (1, .inl k)], [.inl (a_I M 2 2), .inl k], M)) hE.1 rfl ?_
  have hl := hE.2.2.2.1
  by_cases hc : p < lim
  · skip
    refine nv_ifc hct false rfl (ccF4 hk hE.2.2.1 (by omega)) ?_
    refine nv_cut hct nvC 90 18 7 (S' := (d, [], 90, 18, [(0, .inr (.inr (some 2))), (1, .inl k)], [.inl (Int32.ofNat 700), .inl k], M)) hE.1 rfl ?_
    refine nv_ifc hct true rfl (ccT0 hk (show ((Int32.ofNat 700)).toInt = 700 from rfl) (by omega)) ?_
    refine nv_cut hct nvC 90 30 6 (S' := (d, [], 90, 30, [(0, .inr (.inr (some 2))), (1, .inl k)], [.inl k, .inr (.inr (some 3))], M)) hE.1 rfl ?_
    refine nv_ald hct hE.1 rfl (show nvC.1 3 = 14 + 1 from rfl) (show nvC.2.1 3 = 700 + 1 from rfl) (inb_p hk (by omega)) ?_
    refine nv_cut hct nvC 90 35 5 (S' := (d, [], 90, 35, [(0, .inr (.inr (some 2))), (1, .inl k)], [.inl ((a_I M 3 k.toNatClampNeg) &&& (255 : Int32))], M)) hE.1 rfl ?_
    exact nv_iret hct rfl rfl ⟨_, rfl, rfl, by rw [tnc hk, hE.2.1 p (by omega)]; exact (if_pos hc).symm⟩
  · skip
    refine nv_ifc hct true rfl (ccT4 hk hE.2.2.1 (by omega)) ?_
    refine nv_cut hct nvC 90 35 5 (S' := (d, [], 90, 35, [(0, .inr (.inr (some 2))), (1, .inl k)], [.inl (-1 : Int32)], M)) hE.1 rfl ?_
    exact nv_iret hct rfl rfl ⟨_, rfl, rfl, (if_neg hc).symm⟩
/-- a sign's kind -/
def kd9 (c : Int) : Nat := if c < 0 then 0 else bif isLt c then 1 else bif isDg c then 2 else if c = 59 then 3 else 4
theorem kd9_1 {c : Int} : kd9 c = 1 ↔ isLt c = true := by
  unfold kd9
  by_cases h : c < 0
  · rw [if_pos h]
    exact ⟨(fun q => by cases q), (fun q => by have := isLt_T q; omega)⟩
  · rw [if_neg h]
    cases hb : isLt c with
    | true => exact ⟨fun _ => rfl, fun _ => rfl⟩
    | false =>
      refine ⟨fun q => ?_, fun q => by cases q⟩
      simp only [cond_false] at q
      cases hd : isDg c with
      | true => rw [hd] at q; cases q
      | false => rw [hd] at q; simp only [cond_false] at q; split at q <;> cases q
theorem kd9_2 {c : Int} : kd9 c = 2 ↔ isDg c = true := by
  unfold kd9
  by_cases h : c < 0
  · rw [if_pos h]
    exact ⟨(fun q => by cases q), (fun q => by have := isDg_T q; omega)⟩
  · rw [if_neg h]
    cases hb : isLt c with
    | true => exact ⟨(fun q => by cases q), (fun q => by have := isDg_T q; have := isLt_T hb; omega)⟩
    | false =>
      simp only [cond_false]
      cases hd : isDg c with
      | true => exact ⟨fun _ => rfl, fun _ => rfl⟩
      | false =>
        refine ⟨fun q => ?_, fun q => by cases q⟩
        simp only [cond_false] at q
        split at q <;> cases q
set_option maxHeartbeats 4000000 in
theorem c_kindOf {cd : Nat → Nat → Option aI} {z : Bool} (hz : ∀ m p i, cd0 z m p = some i → cd m p = some i) {t0 : Nat} {B : Nat → Int} {lim : Nat} {M : aM} (hE : EnC t0 B lim M) {c : Int32} {v : Int} (hc : c.toInt = v) {d : Nat} : wpS cd (d, [], 92, 0, nv_l (tauC t0) (la 0 [.inl c]), [], M) (fun r M' => ∃ x, r = some (.inl x) ∧ M' = M ∧ x.toInt = (kd9 v : Int)) := by
  show wpS cd (nv_S (tauC t0) (d, [], 92, 0, la 0 [.inl c], [], M)) _
  have hct := hc_of hz
  refine nv_cut hct nvC 92 1 4 (S' := (d, [], 92, 1, [(0, .inl c)], [.inl c], M)) hE.1 rfl ?_
  by_cases h0 : v < 0
  · skip
    refine nv_if hct false rfl (zcF4 hc (by omega)) ?_
    refine nv_cut hct nvC 92 5 4 (S' := (d, [], 92, 5, [(0, .inl c)], [.inl (0 : Int32)], M)) hE.1 rfl ?_
    exact nv_iret hct rfl rfl ⟨_, rfl, rfl, by unfold kd9; rw [if_pos h0]; rfl⟩
  · skip
    refine nv_if hct true rfl (zcT4 hc (by omega)) ?_
    refine nv_cut hct nvC 92 9 5 (S' := (d, [], 92, 9, [(0, .inl c)], [.inl (97 : Int32), .inl c], M)) hE.1 rfl ?_
    unfold kd9
    rw [if_neg h0]
    cases hb : isLt v with
    | true =>
      have := isLt_T hb
      refine nv_ifc hct false rfl (ccF0 hc (show ((97 : Int32)).toInt = 97 from rfl) (by omega)) ?_
      refine nv_cut hct nvC 92 15 5 (S' := (d, [], 92, 15, [(0, .inl c)], [.inl (122 : Int32), .inl c], M)) hE.1 rfl ?_
      refine nv_ifc hct false rfl (ccF3 hc (show ((122 : Int32)).toInt = 122 from rfl) (by omega)) ?_
      refine nv_cut hct nvC 92 19 4 (S' := (d, [], 92, 19, [(0, .inl c)], [.inl (1 : Int32)], M)) hE.1 rfl ?_
      exact nv_iret hct rfl rfl ⟨_, rfl, rfl, rfl⟩
    | false =>
      have key : wpS cd (nv_S (tauC t0) (d, [], 92, 20, [(0, .inl c)], [], M)) (fun r M' => ∃ x, r = some (.inl x) ∧ M' = M ∧ x.toInt = ((bif false then 1 else bif isDg v then 2 else if v = 59 then 3 else 4 : Nat) : Int)) := by
        refine nv_cut hct nvC 92 23 5 (S' := (d, [], 92, 23, [(0, .inl c)], [.inl (48 : Int32), .inl c], M)) hE.1 rfl ?_
        cases hd : isDg v with
        | true =>
          have := isDg_T hd
          refine nv_ifc hct false rfl (ccF0 hc (show ((48 : Int32)).toInt = 48 from rfl) (by omega)) ?_
          refine nv_cut hct nvC 92 29 5 (S' := (d, [], 92, 29, [(0, .inl c)], [.inl (57 : Int32), .inl c], M)) hE.1 rfl ?_
          refine nv_ifc hct false rfl (ccF3 hc (show ((57 : Int32)).toInt = 57 from rfl) (by omega)) ?_
          refine nv_cut hct nvC 92 33 4 (S' := (d, [], 92, 33, [(0, .inl c)], [.inl (2 : Int32)], M)) hE.1 rfl ?_
          exact nv_iret hct rfl rfl ⟨_, rfl, rfl, rfl⟩
        | false =>
          have key2 : wpS cd (nv_S (tauC t0) (d, [], 92, 34, [(0, .inl c)], [], M)) (fun r M' => ∃ x, r = some (.inl x) ∧ M' = M ∧ x.toInt = ((if v = 59 then 3 else 4 : Nat) : Int)) := by
            refine nv_cut hct nvC 92 37 5 (S' := (d, [], 92, 37, [(0, .inl c)], [.inl (59 : Int32), .inl c], M)) hE.1 rfl ?_
            by_cases h9 : v = 59
            · skip
              refine nv_ifc hct false rfl (ccF5 hc (show ((59 : Int32)).toInt = 59 from rfl) (by omega)) ?_
              refine nv_cut hct nvC 92 45 5 (S' := (d, [], 92, 45, [(0, .inl c)], [.inl (3 : Int32)], M)) hE.1 rfl ?_
              exact nv_iret hct rfl rfl ⟨_, rfl, rfl, by rw [if_pos h9]; rfl⟩
            · skip
              refine nv_ifc hct true rfl (ccT5 hc (show ((59 : Int32)).toInt = 59 from rfl) (by omega)) ?_
              refine nv_cut hct nvC 92 45 4 (S' := (d, [], 92, 45, [(0, .inl c)], [.inl (4 : Int32)], M)) hE.1 rfl ?_
              exact nv_iret hct rfl rfl ⟨_, rfl, rfl, by rw [if_neg h9]; rfl⟩
          rcases isDg_F hd with h | h
          · skip
            refine nv_ifc hct true rfl (ccT0 hc (show ((48 : Int32)).toInt = 48 from rfl) (by omega)) ?_
            exact key2
          · skip
            by_cases h4 : v < 48
            · skip
              refine nv_ifc hct true rfl (ccT0 hc (show ((48 : Int32)).toInt = 48 from rfl) (by omega)) ?_
              exact key2
            · skip
              refine nv_ifc hct false rfl (ccF0 hc (show ((48 : Int32)).toInt = 48 from rfl) (by omega)) ?_
              refine nv_cut hct nvC 92 29 5 (S' := (d, [], 92, 29, [(0, .inl c)], [.inl (57 : Int32), .inl c], M)) hE.1 rfl ?_
              refine nv_ifc hct true rfl (ccT3 hc (show ((57 : Int32)).toInt = 57 from rfl) (by omega)) ?_
              exact key2
      rcases isLt_F hb with h | h
      · skip
        refine nv_ifc hct true rfl (ccT0 hc (show ((97 : Int32)).toInt = 97 from rfl) (by omega)) ?_
        exact key
      · skip
        by_cases h4 : v < 97
        · skip
          refine nv_ifc hct true rfl (ccT0 hc (show ((97 : Int32)).toInt = 97 from rfl) (by omega)) ?_
          exact key
        · skip
          refine nv_ifc hct false rfl (ccF0 hc (show ((97 : Int32)).toInt = 97 from rfl) (by omega)) ?_
          refine nv_cut hct nvC 92 15 5 (S' := (d, [], 92, 15, [(0, .inl c)], [.inl (122 : Int32), .inl c], M)) hE.1 rfl ?_
          refine nv_ifc hct true rfl (ccT3 hc (show ((122 : Int32)).toInt = 122 from rfl) (by omega)) ?_
          exact key
def f3 (a k : Nat) : Bool := Nat.beq a 2 && Nat.beq k 3
set_option maxHeartbeats 4000000 in
theorem c_skip {cd : Nat → Nat → Option aI} {z : Bool} (hz : ∀ m p i, cd0 z m p = some i → cd m p = some i) {t0 : Nat} {B : Nat → Int} {lim : Nat} {d : Nat} {Q : aQ} : ∀ (n : Nat) {q : Nat} {M : aM}, 701 - q = n → q ≤ lim → EnC t0 B lim M → (a_I M 2 3).toInt = (q : Int) → (∀ M1, eqE f3 M M1 → (a_I M1 2 3).toInt = (skp B lim q : Int) → wpS cd (nv_S (tauC t0) (d + 1, [], 91, 37, [(0, .inr (.inr (some 2)))], [], M1)) Q) → wpS cd (nv_S (tauC t0) (d + 1, [], 91, 0, [(0, .inr (.inr (some 2)))], [], M)) Q := by
  have hct := hc_of hz
  intro n
  induction n with
  | zero => intro q M hn hq hE; have := hE.2.2.2.1; omega
  | succ n ih =>
    intro q M hn hq hE hat h
    have hl := hE.2.2.2.1
    refine nv_cut hct nvC 91 8 7 (S' := (d + 1, [], 91, 8, [(0, .inr (.inr (some 2)))], [.inl (a_I M 2 2), .inl (a_I M 2 3)], M)) hE.1 rfl ?_
    by_cases hlm : q < lim
    · skip
      refine nv_ifc hct false rfl (ccF4 hat hE.2.2.1 (by omega)) ?_
      refine nv_cut hct nvC 90 0 7 (S' := (d, [(91, 19, [(0, .inr (.inr (some 2)))], [])], 90, 0, la 0 [.inr (.inr (some 2)), .inl (a_I M 2 3)], [], M)) hE.1 rfl ?_
      refine nv_calli (c_byteAt hz hE hat) (fun x M1 ⟨e1, hx⟩ => ?_)
      subst e1
      refine nv_cut hct nvC 91 21 4 (S' := (d + 1, [], 91, 21, [(0, .inr (.inr (some 2)))], [.inl (32 : Int32), .inl x], M1)) hE.1 rfl ?_
      by_cases hc : gt9 B lim q = 32
      · skip
        refine nv_ifc hct false rfl (ccF5 hx (show ((32 : Int32)).toInt = 32 from rfl) hc) ?_
        refine nv_cut hct nvC 91 34 9 (S' := (d + 1, [], 91, 34, [(0, .inr (.inr (some 2)))], [], (s_I M1 2 3 ((a_I M1 2 3) + (1 : Int32))))) hE.1 rfl ?_
        have h8 := add_p hat (by omega) (by omega)
        refine nv_cut hct nvC 91 0 3 (S' := (d + 1, [], 91, 0, [(0, .inr (.inr (some 2)))], [], (s_I M1 2 3 ((a_I M1 2 3) + (1 : Int32))))) (nv_As hE.1) rfl ?_
        refine ih (q := q + 1) (by omega) (by omega) (Ec_x (f := f3) (fun _ => rfl) rfl (eqE_s eqE_rf rfl) hE) (by rw [aI_at, h8]; omega) (fun M2 f2 h2 => h M2 (eqE_tr (eqE_s eqE_rf rfl) f2) ?_)
        rw [h2]; unfold skp; rw [fwd_T (p := q) (by omega) (decide_eq_true hc)]
      · skip
        refine nv_ifc hct true rfl (ccT5 hx (show ((32 : Int32)).toInt = 32 from rfl) hc) ?_
        exact h M1 eqE_rf (by rw [hat]; unfold skp; rw [fwd_F (decide_eq_false hc)])
    · skip
      refine nv_ifc hct true rfl (ccT4 hat hE.2.2.1 (by omega)) ?_
      exact h M eqE_rf (by rw [hat]; unfold skp; rw [fwd_F (decide_eq_false (by unfold gt9; rw [if_neg hlm]; decide))])
