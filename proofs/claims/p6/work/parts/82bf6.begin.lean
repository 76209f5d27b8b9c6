set_option maxRecDepth 100000
def rkK (k : Nat) : Nat := if k = 16 then 1 else if k = 6 then 2 else if k = 31 ∨ k = 32 ∨ k = 39 ∨ k = 40 ∨ k = 41 ∨ k = 42 then 3 else if k = 43 ∨ k = 44 then 4 else if k = 33 ∨ k = 34 then 5 else if k = 35 ∨ k = 10 ∨ k = 18 then 6 else 0
section
variable {w m : MS} {K : Nat → Nat} {T p k N : Nat} {s : Int32}
theorem I_dc {j : Nat} (hk : k < 46) (hj : j < 46) (hs : s = I (j : Nat)) : decide (I (k : Nat) = s) = decide (k = j) := by
  rw [hs]
  by_cases z : k = j
  · rw [decide_eq_true z, decide_eq_true (by rw [z])]
  · rw [decide_eq_false z, decide_eq_false (fun y => z ((I_ne (by omega) (by omega)).mp y))]
theorem bU_e (h : k < 46) : hm_Pa_beginsUnit N m (I (k : Nat)) = some (m, b2c (bUK k)) := by
  unfold hm_Pa_beginsUnit hb_Pa_beginsUnit_0
  rw [I_dc (j := 1) (s := 1) h (by decide) rfl, I_dc (j := 2) (s := 2) h (by decide) rfl, I_dc (j := 3) (s := 3) h (by decide) rfl, I_dc (j := 4) (s := 4) h (by decide) rfl, I_dc (j := 5) (s := 5) h (by decide) rfl, I_dc (j := 6) (s := 6) h (by decide) rfl, I_dc (j := 7) (s := 7) h (by decide) rfl, I_dc (j := 8) (s := 8) h (by decide) rfl, I_dc (j := 9) (s := 9) h (by decide) rfl, I_dc (j := 10) (s := 10) h (by decide) rfl, I_dc (j := 11) (s := 11) h (by decide) rfl, I_dc (j := 12) (s := 12) h (by decide) rfl, I_dc (j := 13) (s := 13) h (by decide) rfl, I_dc (j := 14) (s := 14) h (by decide) rfl, I_dc (j := 15) (s := 15) h (by decide) rfl, I_dc (j := 16) (s := 16) h (by decide) rfl, I_dc (j := 17) (s := 17) h (by decide) rfl, I_dc (j := 18) (s := 18) h (by decide) rfl, I_dc (j := 19) (s := 19) h (by decide) rfl, I_dc (j := 20) (s := 20) h (by decide) rfl, I_dc (j := 21) (s := 21) h (by decide) rfl, I_dc (j := 22) (s := 22) h (by decide) rfl, I_dc (j := 23) (s := 23) h (by decide) rfl, I_dc (j := 24) (s := 24) h (by decide) rfl, I_dc (j := 25) (s := 25) h (by decide) rfl, I_dc (j := 26) (s := 26) h (by decide) rfl, I_dc (j := 27) (s := 27) h (by decide) rfl, I_dc (j := 28) (s := 28) h (by decide) rfl, I_dc (j := 29) (s := 29) h (by decide) rfl, I_dc (j := 30) (s := 30) h (by decide) rfl, I_dc (j := 31) (s := 31) h (by decide) rfl, I_dc (j := 32) (s := 32) h (by decide) rfl, I_dc (j := 33) (s := 33) h (by decide) rfl, I_dc (j := 34) (s := 34) h (by decide) rfl]
  revert h
  revert k
  intro k h
  match k, h with
  | 0, _ => rfl
  | 1, _ => rfl
  | 2, _ => rfl
  | 3, _ => rfl
  | 4, _ => rfl
  | 5, _ => rfl
  | 6, _ => rfl
  | 7, _ => rfl
  | 8, _ => rfl
  | 9, _ => rfl
  | 10, _ => rfl
  | 11, _ => rfl
  | 12, _ => rfl
  | 13, _ => rfl
  | 14, _ => rfl
  | 15, _ => rfl
  | 16, _ => rfl
  | 17, _ => rfl
  | 18, _ => rfl
  | 19, _ => rfl
  | 20, _ => rfl
  | 21, _ => rfl
  | 22, _ => rfl
  | 23, _ => rfl
  | 24, _ => rfl
  | 25, _ => rfl
  | 26, _ => rfl
  | 27, _ => rfl
  | 28, _ => rfl
  | 29, _ => rfl
  | 30, _ => rfl
  | 31, _ => rfl
  | 32, _ => rfl
  | 33, _ => rfl
  | 34, _ => rfl
  | 35, _ => rfl
  | 36, _ => rfl
  | 37, _ => rfl
  | 38, _ => rfl
  | 39, _ => rfl
  | 40, _ => rfl
  | 41, _ => rfl
  | 42, _ => rfl
  | 43, _ => rfl
  | 44, _ => rfl
  | 45, _ => rfl
  | k + 46, h => exact absurd h (by omega)
theorem rk_e (h : k < 46) : hm_Pa_rank N m (I (k : Nat)) = some (m, I (rkK k : Nat)) := by
  unfold hm_Pa_rank hb_Pa_rank_0
  rw [I_dc (j := 6) (s := 6) h (by decide) rfl, I_dc (j := 7) (s := 7) h (by decide) rfl, I_dc (j := 8) (s := 8) h (by decide) rfl, I_dc (j := 9) (s := 9) h (by decide) rfl, I_dc (j := 10) (s := 10) h (by decide) rfl, I_dc (j := 11) (s := 11) h (by decide) rfl, I_dc (j := 12) (s := 12) h (by decide) rfl, I_dc (j := 13) (s := 13) h (by decide) rfl, I_dc (j := 14) (s := 14) h (by decide) rfl, I_dc (j := 15) (s := 15) h (by decide) rfl, I_dc (j := 16) (s := 16) h (by decide) rfl, I_dc (j := 17) (s := 17) h (by decide) rfl, I_dc (j := 18) (s := 18) h (by decide) rfl, I_dc (j := 19) (s := 19) h (by decide) rfl, I_dc (j := 20) (s := 20) h (by decide) rfl, I_dc (j := 21) (s := 21) h (by decide) rfl, I_dc (j := 22) (s := 22) h (by decide) rfl, I_dc (j := 23) (s := 23) h (by decide) rfl, I_dc (j := 24) (s := 24) h (by decide) rfl, I_dc (j := 25) (s := 25) h (by decide) rfl, I_dc (j := 26) (s := 26) h (by decide) rfl, I_dc (j := 27) (s := 27) h (by decide) rfl, I_dc (j := 28) (s := 28) h (by decide) rfl, I_dc (j := 29) (s := 29) h (by decide) rfl, I_dc (j := 30) (s := 30) h (by decide) rfl, I_dc (j := 31) (s := 31) h (by decide) rfl, I_dc (j := 32) (s := 32) h (by decide) rfl, I_dc (j := 33) (s := 33) h (by decide) rfl, I_dc (j := 34) (s := 34) h (by decide) rfl, I_dc (j := 35) (s := 35) h (by decide) rfl, I_dc (j := 36) (s := 36) h (by decide) rfl, I_dc (j := 37) (s := 37) h (by decide) rfl, I_dc (j := 38) (s := 38) h (by decide) rfl, I_dc (j := 39) (s := 39) h (by decide) rfl, I_dc (j := 40) (s := 40) h (by decide) rfl, I_dc (j := 41) (s := 41) h (by decide) rfl, I_dc (j := 42) (s := 42) h (by decide) rfl, I_dc (j := 43) (s := 43) h (by decide) rfl, I_dc (j := 44) (s := 44) h (by decide) rfl]
  revert h
  revert k
  intro k h
  match k, h with
  | 0, _ => rfl
  | 1, _ => rfl
  | 2, _ => rfl
  | 3, _ => rfl
  | 4, _ => rfl
  | 5, _ => rfl
  | 6, _ => rfl
  | 7, _ => rfl
  | 8, _ => rfl
  | 9, _ => rfl
  | 10, _ => rfl
  | 11, _ => rfl
  | 12, _ => rfl
  | 13, _ => rfl
  | 14, _ => rfl
  | 15, _ => rfl
  | 16, _ => rfl
  | 17, _ => rfl
  | 18, _ => rfl
  | 19, _ => rfl
  | 20, _ => rfl
  | 21, _ => rfl
  | 22, _ => rfl
  | 23, _ => rfl
  | 24, _ => rfl
  | 25, _ => rfl
  | 26, _ => rfl
  | 27, _ => rfl
  | 28, _ => rfl
  | 29, _ => rfl
  | 30, _ => rfl
  | 31, _ => rfl
  | 32, _ => rfl
  | 33, _ => rfl
  | 34, _ => rfl
  | 35, _ => rfl
  | 36, _ => rfl
  | 37, _ => rfl
  | 38, _ => rfl
  | 39, _ => rfl
  | 40, _ => rfl
  | 41, _ => rfl
  | 42, _ => rfl
  | 43, _ => rfl
  | 44, _ => rfl
  | 45, _ => rfl
  | k + 46, h => exact absurd h (by omega)
theorem bnd_s {α β : Type} {r : β} {f : MS → β → Option (MS × α)} : bnd (some (w, r)) f = f w r := rfl
theorem srt_dc {s : Int32} {j : Nat} (h : WP w K T p) (hs : ∀ k, k < 46 → (I (srK k : Nat) = s ↔ k = j)) : decide (w.2.2.1 6 p = s) = decide (K p = j) := by
  have k46 := h.1.1.k46 h.2.2
  rw [(WP_i h).2.2]
  by_cases z : K p = j
  · rw [decide_eq_true z, decide_eq_true ((hs _ k46).mpr z)]
  · rw [decide_eq_false z, decide_eq_false (fun y => z ((hs _ k46).mp y))]
theorem bU_m (h : WP w K T p) : fm_M_beginsUnit N w = some (w, b2c (bUK (K p))) := by
  have k46 := h.1.1.k46 h.2.2
  obtain ⟨a, b, -⟩ := WP_i h
  unfold fm_M_beginsUnit fb_M_beginsUnit_0 fb_M_beginsUnit_137 fb_M_beginsUnit_142
  rw [show ln 6 = 4002 from rfl, a, b, srt_dc h srK_1, srt_dc h srK_2, srt_dc h srK_4, srt_dc h srK_5]
  simp only [isS_e (k := 20) (s := 0) h (by decide) rfl, isS_e (k := 22) (s := 2) h (by decide) rfl, isS_e (k := 24) (s := 4) h (by decide) rfl, isS_e (k := 34) (s := 19) h (by decide) rfl, isV_e (k := 7) (s := 2) h (by decide) rfl, isV_e (k := 8) (s := 3) h (by decide) rfl, isV_e (k := 12) (s := 7) h (by decide) rfl, isV_e (k := 13) (s := 8) h (by decide) rfl, isV_e (k := 14) (s := 9) h (by decide) rfl, isV_e (k := 17) (s := 12) h (by decide) rfl, bnd_s]
  generalize K p = k at k46
  revert k46
  revert k
  intro k h
  match k, h with
  | 0, _ => rfl
  | 1, _ => rfl
  | 2, _ => rfl
  | 3, _ => rfl
  | 4, _ => rfl
  | 5, _ => rfl
  | 6, _ => rfl
  | 7, _ => rfl
  | 8, _ => rfl
  | 9, _ => rfl
  | 10, _ => rfl
  | 11, _ => rfl
  | 12, _ => rfl
  | 13, _ => rfl
  | 14, _ => rfl
  | 15, _ => rfl
  | 16, _ => rfl
  | 17, _ => rfl
  | 18, _ => rfl
  | 19, _ => rfl
  | 20, _ => rfl
  | 21, _ => rfl
  | 22, _ => rfl
  | 23, _ => rfl
  | 24, _ => rfl
  | 25, _ => rfl
  | 26, _ => rfl
  | 27, _ => rfl
  | 28, _ => rfl
  | 29, _ => rfl
  | 30, _ => rfl
  | 31, _ => rfl
  | 32, _ => rfl
  | 33, _ => rfl
  | 34, _ => rfl
  | 35, _ => rfl
  | 36, _ => rfl
  | 37, _ => rfl
  | 38, _ => rfl
  | 39, _ => rfl
  | 40, _ => rfl
  | 41, _ => rfl
  | 42, _ => rfl
  | 43, _ => rfl
  | 44, _ => rfl
  | 45, _ => rfl
  | k + 46, h => exact absurd h (by omega)
theorem opn_e (h : w.1 70 < 25) : fm_M_opens N w = some (upI w 70 (w.1 70 + 1), ()) := by
  unfold fm_M_opens fb_M_opens_0 fb_M_opens_14
  rw [decide_eq_true h]; rfl
theorem opn_x (h : ¬ w.1 70 < 25) : PK (fun v _ => FLW v) (fm_M_opens N w) := by
  unfold fm_M_opens fb_M_opens_0 fb_M_opens_14
  rw [decide_eq_false h]
  show PK _ (bnd (fm_M_wrong N w 3) (fun u2 _ => some (upI u2 70 (u2.1 70 + 1), ())))
  exact pk_bnd (fun v r z => pk_some (fun y => wrong_s (u0 := w) (by decide) v r z ((upI_ne (by decide)).symm.trans y)))
theorem lvl_m (h : WP w K T p) : fm_M_level N w = some (w, I (rkK (K p) : Nat)) := by
  have k46 := h.1.1.k46 h.2.2
  obtain ⟨a, b, c⟩ := WP_i h
  unfold fm_M_level fb_M_level_0 fb_M_level_61 fb_M_level_55 fb_M_level_104 fb_M_level_116 fb_M_level_132 fb_M_level_148
  rw [show ln 6 = 4002 from rfl, show ln 7 = 4002 from rfl, a, b, c]
  simp only [isV_e (k := 16) (s := 11) h (by decide) rfl, isV_e (k := 6) (s := 1) h (by decide) rfl, isV_e (k := 10) (s := 5) h (by decide) rfl, isV_e (k := 18) (s := 13) h (by decide) rfl, bnd_s]
  by_cases e5 : 20 ≤ K p ∧ K p ≤ 44
  · have hl := h.1.1.lt h.2.2 (by omega) (by omega)
    rw [h.1.2.2 p hl (by omega)]
    generalize K p = k at k46 e5
    revert k46 e5
    revert k
    intro k h e5
    match k, h, e5 with
    | 0, _, e => exact absurd e.1 (by omega)
    | 1, _, e => exact absurd e.1 (by omega)
    | 2, _, e => exact absurd e.1 (by omega)
    | 3, _, e => exact absurd e.1 (by omega)
    | 4, _, e => exact absurd e.1 (by omega)
    | 5, _, e => exact absurd e.1 (by omega)
    | 6, _, e => exact absurd e.1 (by omega)
    | 7, _, e => exact absurd e.1 (by omega)
    | 8, _, e => exact absurd e.1 (by omega)
    | 9, _, e => exact absurd e.1 (by omega)
    | 10, _, e => exact absurd e.1 (by omega)
    | 11, _, e => exact absurd e.1 (by omega)
    | 12, _, e => exact absurd e.1 (by omega)
    | 13, _, e => exact absurd e.1 (by omega)
    | 14, _, e => exact absurd e.1 (by omega)
    | 15, _, e => exact absurd e.1 (by omega)
    | 16, _, e => exact absurd e.1 (by omega)
    | 17, _, e => exact absurd e.1 (by omega)
    | 18, _, e => exact absurd e.1 (by omega)
    | 19, _, e => exact absurd e.1 (by omega)
    | 20, _, _ => rfl
    | 21, _, _ => rfl
    | 22, _, _ => rfl
    | 23, _, _ => rfl
    | 24, _, _ => rfl
    | 25, _, _ => rfl
    | 26, _, _ => rfl
    | 27, _, _ => rfl
    | 28, _, _ => rfl
    | 29, _, _ => rfl
    | 30, _, _ => rfl
    | 31, _, _ => rfl
    | 32, _, _ => rfl
    | 33, _, _ => rfl
    | 34, _, _ => rfl
    | 35, _, _ => rfl
    | 36, _, _ => rfl
    | 37, _, _ => rfl
    | 38, _, _ => rfl
    | 39, _, _ => rfl
    | 40, _, _ => rfl
    | 41, _, _ => rfl
    | 42, _, _ => rfl
    | 43, _, _ => rfl
    | 44, _, _ => rfl
    | k + 45, h, e5 => exact absurd e5.2 (by omega)
  · generalize w.2.2.1 7 p = y
    generalize K p = k at k46 e5
    revert k46 e5
    revert k
    intro k h e5
    match k, h, e5 with
    | 0, _, _ => rfl
    | 1, _, _ => rfl
    | 2, _, _ => rfl
    | 3, _, _ => rfl
    | 4, _, _ => rfl
    | 5, _, _ => rfl
    | 6, _, _ => rfl
    | 7, _, _ => rfl
    | 8, _, _ => rfl
    | 9, _, _ => rfl
    | 10, _, _ => rfl
    | 11, _, _ => rfl
    | 12, _, _ => rfl
    | 13, _, _ => rfl
    | 14, _, _ => rfl
    | 15, _, _ => rfl
    | 16, _, _ => rfl
    | 17, _, _ => rfl
    | 18, _, _ => rfl
    | 19, _, _ => rfl
    | 20, _, e => exact absurd ⟨by omega, by omega⟩ e
    | 21, _, e => exact absurd ⟨by omega, by omega⟩ e
    | 22, _, e => exact absurd ⟨by omega, by omega⟩ e
    | 23, _, e => exact absurd ⟨by omega, by omega⟩ e
    | 24, _, e => exact absurd ⟨by omega, by omega⟩ e
    | 25, _, e => exact absurd ⟨by omega, by omega⟩ e
    | 26, _, e => exact absurd ⟨by omega, by omega⟩ e
    | 27, _, e => exact absurd ⟨by omega, by omega⟩ e
    | 28, _, e => exact absurd ⟨by omega, by omega⟩ e
    | 29, _, e => exact absurd ⟨by omega, by omega⟩ e
    | 30, _, e => exact absurd ⟨by omega, by omega⟩ e
    | 31, _, e => exact absurd ⟨by omega, by omega⟩ e
    | 32, _, e => exact absurd ⟨by omega, by omega⟩ e
    | 33, _, e => exact absurd ⟨by omega, by omega⟩ e
    | 34, _, e => exact absurd ⟨by omega, by omega⟩ e
    | 35, _, e => exact absurd ⟨by omega, by omega⟩ e
    | 36, _, e => exact absurd ⟨by omega, by omega⟩ e
    | 37, _, e => exact absurd ⟨by omega, by omega⟩ e
    | 38, _, e => exact absurd ⟨by omega, by omega⟩ e
    | 39, _, e => exact absurd ⟨by omega, by omega⟩ e
    | 40, _, e => exact absurd ⟨by omega, by omega⟩ e
    | 41, _, e => exact absurd ⟨by omega, by omega⟩ e
    | 42, _, e => exact absurd ⟨by omega, by omega⟩ e
    | 43, _, e => exact absurd ⟨by omega, by omega⟩ e
    | 44, _, e => exact absurd ⟨by omega, by omega⟩ e
    | 45, _, _ => rfl
    | k + 46, h, _ => exact absurd h (by omega)
end
