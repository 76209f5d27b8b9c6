set_option maxRecDepth 100000 in
set_option maxHeartbeats 4000000 in
theorem oa_H_156_0 : ∀ w ∈ Bundle.ownAtomsX R_H 156 (exN 0) 7 rx7 exUp, w ∈ lwA ∧ okw w = true := by decide +kernel
set_option maxRecDepth 100000 in
set_option maxHeartbeats 4000000 in
theorem oa_H_163_1 : ∀ w ∈ Bundle.ownAtomsX R_H 163 (exN 1) 13 rx13 exUp, w ∈ lwA ∧ okw w = true := by decide +kernel
set_option maxRecDepth 100000 in
set_option maxHeartbeats 4000000 in
theorem oa_H_168_2 : ∀ w ∈ Bundle.ownAtomsX R_H 168 (exN 2) 7 rx7 exUp, w ∈ lwA ∧ okw w = true := by decide +kernel
set_option maxRecDepth 100000 in
set_option maxHeartbeats 4000000 in
theorem oa_Pa_64_3 : ∀ w ∈ Bundle.ownAtomsX R_Pa 64 (exN 3) 7 rx7 exUp, w ∈ lwA ∧ okw w = true := by decide +kernel
