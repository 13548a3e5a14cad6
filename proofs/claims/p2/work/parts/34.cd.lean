/-! printed by wip/gen/gen.py -/
def cd (sc : aSc) : Nat → Nat → Option aI := tm 245 cd0 (lm 245 (k_245 sc))
theorem cd_ok {sc : aSc} : aSD sc cI (cd sc) := sd_tm cd0_ok (sd_lm cI_245 s_245 (by decide +kernel))
