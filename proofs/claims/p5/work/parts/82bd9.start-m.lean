section
set_option maxRecDepth 100000
def rH15 : Option (CS × Unit) := fm_H_init 1000000000000000 uH0 0
def xH15 : CS := match rH15 with
  | some x => x.1
  | none => uH0
theorem xH15_ok : (match rH15 with
  | some _ => true
  | none => false) = true := by decide +kernel
theorem xH15_eq : fm_H_init 1000000000000000 uH0 0 = some (xH15, ()) := by
  have h := xH15_ok
  show rH15 = some (xH15, ())
  unfold xH15
  cases hr : rH15 with
  | none => rw [hr] at h; cases h
  | some x => rfl
theorem xH15_sk : skB xH15 = true := by decide +kernel
theorem xH15_n : xH15.1 = (57, 145838) := by decide +kernel
theorem xH15_wf : wfB xH15 = true := by decide +kernel
theorem xH15_ap : ∀ q, q < 24 → AP xH15 48 q = none := by decide +kernel
theorem xH15_64 : FRc xH15 43 4 = none ∨ FRc xH15 43 4 = some 52 ∨ FRc xH15 43 4 = some 56 := by decide +kernel
end
