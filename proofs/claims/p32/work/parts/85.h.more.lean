def ct_Mrod_0 : yC := (([(0, 0), (0, 1), (0, 30)], [13, 687], [((0, 17), .inr (.inr (some 1))), ((0, 3), .inr (.inr none)), ((1, 7), .inl (2, 0))], [(190, 0, [(0, .inr (.inr (some 0))), (1, .inl (1, 0))], [])]), [(some (.inl (0, 0)), [((13, 2), .inl ((-1), (-1)))])], [(13, 0), (13, 1), (13, 2)], 1)
def K_Mrod_0 (y : Nat) : List yC := []
def nl_Mrod_0_1900000 : List yN := [(([(0, 0), (0, 1), (0, 30)], [13, 687], [((0, 17), .inr (.inr (some 1))), ((0, 3), .inr (.inr none)), ((1, 7), .inl (2, 0))], [(190, 0, [(0, .inr (.inr (some 0))), (1, .inl (1, 0))], [])]), (0, []))]
def nd_Mrod_0 : Nat → List yN := (nlf 1900000 nl_Mrod_0_1900000)
theorem nk_Mrod_0_1900000 : nl_Mrod_0_1900000.all (ychC RR (msL ct_Mrod_0.2.2.1) ct_Mrod_0.2.2.2 ct K_Mrod_0 0 nd_Mrod_0 (yfinC ct 0 g9L ct_Mrod_0.2.1) 400) = true := by decide +kernel
theorem nok_Mrod_0 : nOk (ychC RR (msL ct_Mrod_0.2.2.1) ct_Mrod_0.2.2.2 ct K_Mrod_0 0 nd_Mrod_0 (yfinC ct 0 g9L ct_Mrod_0.2.1) 400) nd_Mrod_0 := (nok_lf nk_Mrod_0_1900000)
theorem cc_Mrod_0 {cd : Nat → Nat → Option aI} (hct : ∀ m p o, ct m p = some o → cd m p = some (semO o)) {rg : Nat → Nat} {M0 : aM} (hsg : sgl g9L (a_n M0) rg) {ms : Nat → Nat → Bool} (hms : ct_Mrod_0.2.2.1.all (fun q => ms q.1 q.2) = true) : yCtr cd RR rg M0 ms ct_Mrod_0 :=
  ctr_of hct (K := K_Mrod_0) (g := 0) (nd := nd_Mrod_0) (n := 400) hsg hms (fun y c hc => nomatch hc) nok_Mrod_0 (p := 1900000) (List.mem_of_getElem? (i := 0) rfl) rfl
def ct_Mrod_1 : yC := (([(0, 0), (0, 1), (0, 30)], [13, 687, 12], [((0, 17), .inr (.inr (some 1))), ((0, 3), .inr (.inr (some 2))), ((1, 7), .inl (2, 0))], [(190, 0, [(0, .inr (.inr (some 0))), (1, .inl (1, 0))], [])]), [(some (.inl (1, 1)), [((13, 2), .inl ((-1), (-1))), ((687, 7), .inl (0, 0)), ((13, 31), .inl (0, 0))])], [(13, 0), (13, 1), (13, 2), (13, 16), (13, 31), (687, 0)], 2)
def K_Mrod_1 (y : Nat) : List yC := (bif Nat.beq y 187 then [ct_clears17, ct_clears18] else [])
def nl_Mrod_1_1900000 : List yN := [(([(0, 0), (0, 1), (0, 30)], [13, 687, 12], [((0, 17), .inr (.inr (some 1))), ((0, 3), .inr (.inr (some 2))), ((1, 7), .inl (2, 0))], [(190, 0, [(0, .inr (.inr (some 0))), (1, .inl (1, 0))], [])]), (1, []))]
def nl_Mrod_1_1900023 : List yN := [(([(0, 0)], [13, 687, 12], [((0, 31), .inl (0, 0)), ((0, 0), .inl (0, 0)), ((0, 17), .inr (.inr (some 1))), ((0, 3), .inr (.inr (some 2))), ((1, 8), .inl (0, 0)), ((1, 7), .inl (0, 0))], [(190, 23, [(0, .inr (.inr (some 0)))], [])]), (0, []))]
def nd_Mrod_1 : Nat → List yN := (ntr 1900023 (nlf 1900000 nl_Mrod_1_1900000) (nlf 1900023 nl_Mrod_1_1900023))
theorem nk_Mrod_1_1900000 : nl_Mrod_1_1900000.all (ychC RR (msL ct_Mrod_1.2.2.1) ct_Mrod_1.2.2.2 ct K_Mrod_1 0 nd_Mrod_1 (yfinC ct 0 g9L ct_Mrod_1.2.1) 400) = true := by decide +kernel
theorem nk_Mrod_1_1900023 : nl_Mrod_1_1900023.all (ychC RR (msL ct_Mrod_1.2.2.1) ct_Mrod_1.2.2.2 ct K_Mrod_1 0 nd_Mrod_1 (yfinC ct 0 g9L ct_Mrod_1.2.1) 400) = true := by decide +kernel
theorem nok_Mrod_1 : nOk (ychC RR (msL ct_Mrod_1.2.2.1) ct_Mrod_1.2.2.2 ct K_Mrod_1 0 nd_Mrod_1 (yfinC ct 0 g9L ct_Mrod_1.2.1) 400) nd_Mrod_1 := (nok_tr (nok_lf nk_Mrod_1_1900000) (nok_lf nk_Mrod_1_1900023))
theorem cc_Mrod_1 {cd : Nat → Nat → Option aI} (hct : ∀ m p o, ct m p = some o → cd m p = some (semO o)) {rg : Nat → Nat} {M0 : aM} (hsg : sgl g9L (a_n M0) rg) {ms : Nat → Nat → Bool} (hms : ct_Mrod_1.2.2.1.all (fun q => ms q.1 q.2) = true) (h_clears17 : yCtr cd RR rg M0 ms ct_clears17) (h_clears18 : yCtr cd RR rg M0 ms ct_clears18) : yCtr cd RR rg M0 ms ct_Mrod_1 :=
  ctr_of hct (K := K_Mrod_1) (g := 0) (nd := nd_Mrod_1) (n := 400) hsg hms (fun y c hc => by
    unfold K_Mrod_1 at hc
    cases h187 : Nat.beq y 187 with
    | true =>
      rw [h187] at hc
      simp only [cond_true, List.mem_cons, List.not_mem_nil, or_false] at hc
      rcases hc with hc | hc
      · rw [hc]; exact h_clears17
      · rw [hc]; exact h_clears18
    | false =>
      rw [h187] at hc
      simp only [cond_false] at hc
      cases hc) nok_Mrod_1 (p := 1900000) (List.mem_of_getElem? (i := 0) rfl) rfl
def ct_Mdrill_b : yC := (([(0, 0), ((-2147483648), 2147483647), (0, 30), (1, 20)], [13, 687, 12], [((0, 17), .inr (.inr (some 1))), ((0, 3), .inr (.inr (some 2))), ((1, 7), .inl (2, 0)), ((0, 31), .inl (3, 0))], [(191, 0, [(0, .inr (.inr (some 0))), (1, .inl (1, 0))], [])]), [(some (.inl ((-1), (-1))), [((13, 2), .inl ((-1), (-1)))])], [(13, 0), (13, 1), (13, 2)], 1)
def K_Mdrill_b (y : Nat) : List yC := []
def nl_Mdrill_b_1560014 : List yN := [(([(0, 0), ((-2147483648), 2147483647), (0, 30), (1, 20)], [13, 687, 12], [((0, 0), .inl (0, 0)), ((0, 17), .inr (.inr (some 1))), ((0, 3), .inr (.inr (some 2))), ((1, 7), .inl (2, 0)), ((0, 31), .inl (3, 0))], [(156, 14, [], []), (191, 25, [(0, .inr (.inr (some 0))), (1, .inl (1, 0))], [])]), (2, []))]
def nl_Mdrill_b_1560015 : List yN := [(([(0, 0), (1, 30), (0, 30), (1, 20)], [13, 687, 12], [((0, 0), .inl (0, 0)), ((0, 17), .inr (.inr (some 1))), ((0, 3), .inr (.inr (some 2))), ((1, 7), .inl (2, 0)), ((0, 31), .inl (3, 0))], [(156, 15, [], [.inl (0, 1)]), (191, 25, [(0, .inr (.inr (some 0))), (1, .inl (1, 0))], [])]), (10, [])),
  (([(0, 0), ((-2147483648), 2147483647), (0, 30), (1, 20)], [13, 687, 12], [((0, 0), .inl (0, 0)), ((0, 17), .inr (.inr (some 1))), ((0, 3), .inr (.inr (some 2))), ((1, 7), .inl (2, 0)), ((0, 31), .inl (3, 0))], [(156, 15, [], [.inl (0, 0)]), (191, 25, [(0, .inr (.inr (some 0))), (1, .inl (1, 0))], [])]), (1, []))]
def nl_Mdrill_b_1890022 : List yN := [(([(0, 0), (1, 30), (2, 30), (1, 20), ((-2147483648), 0)], [13, 687, 12], [((0, 0), .inl (0, 0)), ((0, 17), .inr (.inr (some 1))), ((0, 3), .inr (.inr (some 2))), ((1, 7), .inl (2, 0)), ((0, 31), .inl (3, 0)), ((1, 8), .inl (4, 0))], [(189, 22, [], [.inl (0, 1)]), (191, 48, [(0, .inr (.inr (some 0))), (1, .inl (1, 0))], [])]), (6, [])),
  (([(0, 0), (1, 30), (0, 30), (1, 20), ((-2147483648), 0)], [13, 687, 12], [((0, 0), .inl (0, 0)), ((0, 17), .inr (.inr (some 1))), ((0, 3), .inr (.inr (some 2))), ((1, 7), .inl (2, 0)), ((0, 31), .inl (3, 0)), ((1, 8), .inl (4, 0))], [(189, 22, [], [.inl (0, 0)]), (191, 48, [(0, .inr (.inr (some 0))), (1, .inl (1, 0))], [])]), (8, []))]
def nl_Mdrill_b_1910000 : List yN := [(([(0, 0), ((-2147483648), 2147483647), (0, 30), (1, 20)], [13, 687, 12], [((0, 17), .inr (.inr (some 1))), ((0, 3), .inr (.inr (some 2))), ((1, 7), .inl (2, 0)), ((0, 31), .inl (3, 0))], [(191, 0, [(0, .inr (.inr (some 0))), (1, .inl (1, 0))], [])]), (11, []))]
def nl_Mdrill_b_1910025 : List yN := [(([(0, 0), (1, 30), (0, 30), (1, 20)], [13, 687, 12], [((0, 0), .inl (0, 0)), ((0, 17), .inr (.inr (some 1))), ((0, 3), .inr (.inr (some 2))), ((1, 7), .inl (2, 0)), ((0, 31), .inl (3, 0))], [(191, 25, [(0, .inr (.inr (some 0))), (1, .inl (1, 0))], [.inl (0, 1)])]), (9, [])),
  (([(0, 0), ((-2147483648), 2147483647), (0, 30), (1, 20)], [13, 687, 12], [((0, 0), .inl (0, 0)), ((0, 17), .inr (.inr (some 1))), ((0, 3), .inr (.inr (some 2))), ((1, 7), .inl (2, 0)), ((0, 31), .inl (3, 0))], [(191, 25, [(0, .inr (.inr (some 0))), (1, .inl (1, 0))], [.inl (0, 0)])]), (0, []))]
def nl_Mdrill_b_1910048 : List yN := [(([(0, 0), (1, 30), (2, 30), (1, 20), ((-2147483648), 0)], [13, 687, 12], [((0, 0), .inl (0, 0)), ((0, 17), .inr (.inr (some 1))), ((0, 3), .inr (.inr (some 2))), ((1, 7), .inl (2, 0)), ((0, 31), .inl (3, 0)), ((1, 8), .inl (4, 0))], [(191, 48, [(0, .inr (.inr (some 0))), (1, .inl (1, 0))], [.inl (0, 1)])]), (5, [])),
  (([(0, 0), (1, 30), (0, 30), (1, 20), ((-2147483648), 0)], [13, 687, 12], [((0, 0), .inl (0, 0)), ((0, 17), .inr (.inr (some 1))), ((0, 3), .inr (.inr (some 2))), ((1, 7), .inl (2, 0)), ((0, 31), .inl (3, 0)), ((1, 8), .inl (4, 0))], [(191, 48, [(0, .inr (.inr (some 0))), (1, .inl (1, 0))], [.inl (0, 0)])]), (7, []))]
def nl_Mdrill_b_1910058 : List yN := [(([(0, 0), (0, 30), (1, 20), (1, 2147483647)], [13, 687, 12], [((0, 0), .inl (0, 0)), ((0, 17), .inr (.inr (some 1))), ((0, 3), .inr (.inr (some 2))), ((1, 7), .inl (1, 0)), ((0, 31), .inl (2, 0)), ((1, 8), .inl (3, 0))], [(191, 58, [(0, .inr (.inr (some 0)))], [])]), (3, [])),
  (([(0, 0), (0, 30), (1, 20), ((-2147483648), 0)], [13, 687, 12], [((0, 0), .inl (0, 0)), ((0, 17), .inr (.inr (some 1))), ((0, 3), .inr (.inr (some 2))), ((1, 7), .inl (1, 0)), ((0, 31), .inl (2, 0)), ((1, 8), .inl (3, 0))], [(191, 58, [(0, .inr (.inr (some 0)))], [])]), (4, []))]
def nd_Mdrill_b : Nat → List yN := (ntr 1910000 (ntr 1560015 (nlf 1560014 nl_Mdrill_b_1560014) (ntr 1890022 (nlf 1560015 nl_Mdrill_b_1560015) (nlf 1890022 nl_Mdrill_b_1890022))) (ntr 1910048 (ntr 1910025 (nlf 1910000 nl_Mdrill_b_1910000) (nlf 1910025 nl_Mdrill_b_1910025)) (ntr 1910058 (nlf 1910048 nl_Mdrill_b_1910048) (nlf 1910058 nl_Mdrill_b_1910058))))
theorem nk_Mdrill_b_1560014 : nl_Mdrill_b_1560014.all (ychC RR (msL ct_Mdrill_b.2.2.1) ct_Mdrill_b.2.2.2 ct K_Mdrill_b 0 nd_Mdrill_b (yfinC ct 0 g9L ct_Mdrill_b.2.1) 400) = true := by decide +kernel
theorem nk_Mdrill_b_1560015 : nl_Mdrill_b_1560015.all (ychC RR (msL ct_Mdrill_b.2.2.1) ct_Mdrill_b.2.2.2 ct K_Mdrill_b 0 nd_Mdrill_b (yfinC ct 0 g9L ct_Mdrill_b.2.1) 400) = true := by decide +kernel
theorem nk_Mdrill_b_1890022 : nl_Mdrill_b_1890022.all (ychC RR (msL ct_Mdrill_b.2.2.1) ct_Mdrill_b.2.2.2 ct K_Mdrill_b 0 nd_Mdrill_b (yfinC ct 0 g9L ct_Mdrill_b.2.1) 400) = true := by decide +kernel
theorem nk_Mdrill_b_1910000 : nl_Mdrill_b_1910000.all (ychC RR (msL ct_Mdrill_b.2.2.1) ct_Mdrill_b.2.2.2 ct K_Mdrill_b 0 nd_Mdrill_b (yfinC ct 0 g9L ct_Mdrill_b.2.1) 400) = true := by decide +kernel
theorem nk_Mdrill_b_1910025 : nl_Mdrill_b_1910025.all (ychC RR (msL ct_Mdrill_b.2.2.1) ct_Mdrill_b.2.2.2 ct K_Mdrill_b 0 nd_Mdrill_b (yfinC ct 0 g9L ct_Mdrill_b.2.1) 400) = true := by decide +kernel
theorem nk_Mdrill_b_1910048 : nl_Mdrill_b_1910048.all (ychC RR (msL ct_Mdrill_b.2.2.1) ct_Mdrill_b.2.2.2 ct K_Mdrill_b 0 nd_Mdrill_b (yfinC ct 0 g9L ct_Mdrill_b.2.1) 400) = true := by decide +kernel
theorem nk_Mdrill_b_1910058 : nl_Mdrill_b_1910058.all (ychC RR (msL ct_Mdrill_b.2.2.1) ct_Mdrill_b.2.2.2 ct K_Mdrill_b 0 nd_Mdrill_b (yfinC ct 0 g9L ct_Mdrill_b.2.1) 400) = true := by decide +kernel
theorem nok_Mdrill_b : nOk (ychC RR (msL ct_Mdrill_b.2.2.1) ct_Mdrill_b.2.2.2 ct K_Mdrill_b 0 nd_Mdrill_b (yfinC ct 0 g9L ct_Mdrill_b.2.1) 400) nd_Mdrill_b := (nok_tr (nok_tr (nok_lf nk_Mdrill_b_1560014) (nok_tr (nok_lf nk_Mdrill_b_1560015) (nok_lf nk_Mdrill_b_1890022))) (nok_tr (nok_tr (nok_lf nk_Mdrill_b_1910000) (nok_lf nk_Mdrill_b_1910025)) (nok_tr (nok_lf nk_Mdrill_b_1910048) (nok_lf nk_Mdrill_b_1910058))))
theorem cc_Mdrill_b {cd : Nat → Nat → Option aI} (hct : ∀ m p o, ct m p = some o → cd m p = some (semO o)) {rg : Nat → Nat} {M0 : aM} (hsg : sgl g9L (a_n M0) rg) {ms : Nat → Nat → Bool} (hms : ct_Mdrill_b.2.2.1.all (fun q => ms q.1 q.2) = true) : yCtr cd RR rg M0 ms ct_Mdrill_b :=
  ctr_of hct (K := K_Mdrill_b) (g := 0) (nd := nd_Mdrill_b) (n := 400) hsg hms (fun y c hc => nomatch hc) nok_Mdrill_b (p := 1910000) (List.mem_of_getElem? (i := 0) rfl) rfl
