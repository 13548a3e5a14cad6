def ct_clears17 : yC := (([(0, 0)], [687], [], [(187, 0, [(0, .inr (.inr (some 0)))], [])]), [(none, [((687, 7), .inl (0, 0)), ((687, 8), .inl (0, 0))])], [(687, 0)], 0)
def K_clears17 (y : Nat) : List yC := []
def nl_clears17_1870000 : List yN := [(([(0, 0)], [687], [], [(187, 0, [(0, .inr (.inr (some 0)))], [])]), (0, []))]
def nd_clears17 : Nat → List yN := (nlf 1870000 nl_clears17_1870000)
theorem nk_clears17_1870000 : nl_clears17_1870000.all (ychC RR (msL ct_clears17.2.2.1) ct_clears17.2.2.2 ct K_clears17 0 nd_clears17 (yfinC ct 0 g9L ct_clears17.2.1) 400) = true := by decide +kernel
theorem nok_clears17 : nOk (ychC RR (msL ct_clears17.2.2.1) ct_clears17.2.2.2 ct K_clears17 0 nd_clears17 (yfinC ct 0 g9L ct_clears17.2.1) 400) nd_clears17 := (nok_lf nk_clears17_1870000)
theorem cc_clears17 {cd : Nat → Nat → Option aI} (hct : ∀ m p o, ct m p = some o → cd m p = some (semO o)) {rg : Nat → Nat} {M0 : aM} (hsg : sgl g9L (a_n M0) rg) {ms : Nat → Nat → Bool} (hms : ct_clears17.2.2.1.all (fun q => ms q.1 q.2) = true) : yCtr cd RR rg M0 ms ct_clears17 :=
  ctr_of hct (K := K_clears17) (g := 0) (nd := nd_clears17) (n := 400) hsg hms (fun y c hc => nomatch hc) nok_clears17 (p := 1870000) (List.mem_of_getElem? (i := 0) rfl) rfl
def ct_clears18 : yC := (([(0, 0)], [688], [], [(187, 0, [(0, .inr (.inr (some 0)))], [])]), [(none, [((688, 7), .inl (0, 0)), ((688, 8), .inl (0, 0))])], [(688, 0)], 0)
def K_clears18 (y : Nat) : List yC := []
def nl_clears18_1870000 : List yN := [(([(0, 0)], [688], [], [(187, 0, [(0, .inr (.inr (some 0)))], [])]), (0, []))]
def nd_clears18 : Nat → List yN := (nlf 1870000 nl_clears18_1870000)
theorem nk_clears18_1870000 : nl_clears18_1870000.all (ychC RR (msL ct_clears18.2.2.1) ct_clears18.2.2.2 ct K_clears18 0 nd_clears18 (yfinC ct 0 g9L ct_clears18.2.1) 400) = true := by decide +kernel
theorem nok_clears18 : nOk (ychC RR (msL ct_clears18.2.2.1) ct_clears18.2.2.2 ct K_clears18 0 nd_clears18 (yfinC ct 0 g9L ct_clears18.2.1) 400) nd_clears18 := (nok_lf nk_clears18_1870000)
theorem cc_clears18 {cd : Nat → Nat → Option aI} (hct : ∀ m p o, ct m p = some o → cd m p = some (semO o)) {rg : Nat → Nat} {M0 : aM} (hsg : sgl g9L (a_n M0) rg) {ms : Nat → Nat → Bool} (hms : ct_clears18.2.2.1.all (fun q => ms q.1 q.2) = true) : yCtr cd RR rg M0 ms ct_clears18 :=
  ctr_of hct (K := K_clears18) (g := 0) (nd := nd_clears18) (n := 400) hsg hms (fun y c hc => nomatch hc) nok_clears18 (p := 1870000) (List.mem_of_getElem? (i := 0) rfl) rfl
