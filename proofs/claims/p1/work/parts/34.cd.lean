/-! printed by wip/gen/gen.py -/
def cd (sc : aSc) : Nat → Nat → Option aI := tm 246 cd0 (lm 246 (k_246 sc))
theorem cd_ok {sc : aSc} : aSD sc cI (cd sc) := sd_tm cd0_ok (sd_lm cI_246 s_246 (by decide +kernel))
