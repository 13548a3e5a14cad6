/-! printed by wip/gen/gen.py -/
def cd (sc : aSc) : Nat → Nat → Option aI := tm 252 (cd0 sc.2.2) (lm 252 (k_252 sc))
theorem cd_ok {sc : aSc} : aSD sc cI (cd sc) := sd_tm cd0_ok (sd_lm cI_252 s_252 (by decide +kernel))
