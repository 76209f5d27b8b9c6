set_option maxRecDepth 100000
def GRPc (N : Nat) (S : SF_Cm_fun) (d : Nat) : Prop :=
  (∀ o cl, cl ≤ 3 → (o ≤ 25 → 11 * (25 - o) + 14 + 2 * cl ≤ d) → ExS N S o cl) ∧
  (∀ o, (o ≤ 25 → 11 * (25 - o) + 21 ≤ d) → 1 ≤ d → RoS N S o) ∧
  (∀ o, (o ≤ 25 → 11 * (25 - o) + 21 ≤ d) → 1 ≤ d → BoS N S o) ∧
  (∀ o, (o ≤ 24 → 11 * (24 - o) + 21 ≤ d) → 1 ≤ d → TrS N S o) ∧
  (∀ o k, (o ≤ 24 → 11 * (24 - o) + 22 ≤ d) → 2 ≤ d → PaS N S o k) ∧
  (∀ o cl, (o ≤ 24 → 11 * (24 - o) + 23 ≤ d) → 3 ≤ d → ReS N S o cl) ∧
  (∀ o, (o ≤ 24 → 11 * (24 - o) + 22 ≤ d) → 2 ≤ d → ClS N S o) ∧
  (∀ o cl, (o ≤ 24 → 11 * (24 - o) + 23 ≤ d) → 3 ≤ d → FuS N S o cl) ∧
  (∀ o cl, cl ≤ 3 → (o ≤ 24 → 11 * (24 - o) + 24 ≤ d) → 4 ≤ d → (3 ≤ cl → o ≤ 25 → 11 * (25 - o) + 19 ≤ d) → CoS N S o cl) ∧
  (∀ o cl, cl ≤ 3 → (1 ≤ cl → o ≤ 25 → 11 * (25 - o) + 15 ≤ d) → (o ≤ 24 → 11 * (24 - o) + 22 ≤ d) → 2 ≤ d → ApS N S o cl) ∧
  (∀ o, (o ≤ 25 → 11 * (25 - o) + 17 ≤ d) → 1 ≤ d → SiS N S o) ∧
  (∀ o, (o ≤ 24 → 11 * (24 - o) + 22 ≤ d) → 2 ≤ d → LiSc N S o) ∧
  (∀ o cl, (o ≤ 24 → 11 * (24 - o) + 22 ≤ d) → 2 ≤ d → CaS N S o cl)
section
variable {N o cl d : Nat} {S S2 : SF_Cm_fun}
theorem ExS_26 (ho : 26 ≤ o) : ExS N S o cl := by
  intro f u lv c Q ps n lo hi a b q r la hf hu hX
  cases f with
  | zero => exact hX.elim
  | succ f => have := hX.2.2.1; omega
theorem ApS_0 : ApS N S o 0 := by
  intro f u lv c Q ps n lo hi a b q r la hf hu hX e16
  cases f with
  | zero => exact hX.elim
  | succ f =>
    obtain ⟨-, -, -, hX⟩ := hX
    exfalso
    rcases hX with ⟨⟨l16, l6, -⟩, -⟩ | ⟨e, -⟩ | ⟨e, -⟩ | ⟨e, -⟩ | ⟨e, -⟩ | ⟨e, -⟩ | ⟨e, -⟩ | ⟨e, -⟩ | ⟨e, -⟩ | ⟨e, -⟩ | ⟨e, -⟩ | ⟨e, hcl, -⟩ | ⟨e, -⟩ | ⟨e, -⟩ | ⟨e, -⟩ | ⟨e, -⟩ | ⟨e, -⟩
    all_goals omega
theorem grp_s (hN : 1000000000 ≤ N) (h : GRPc N S d) (h2 : S2 = (hm_Cm_fun N S, hm_Cm_receive N S, hm_Cm_parts N S, hm_Cm_body N S, hm_Cm_compound N S, hm_Cm_apply N S, hm_Cm_call N S, hm_Cm_signs N S, hm_Cm_list N S, hm_Cm_row N S, hm_Cm_expression N S, hm_Cm_tries N S, hm_Cm_clause N S)) : GRPc N S2 (d + 1) := by
  obtain ⟨hE, hRo, hBo, hTr, hPa, hRe, hCl, hFu, hCo, hAp, hSi, hLi, hCa⟩ := h
  have r1 : S2.1 = hm_Cm_fun N S := by rw [h2]
  have r2 : S2.2.1 = hm_Cm_receive N S := by rw [h2]
  have r3 : S2.2.2.1 = hm_Cm_parts N S := by rw [h2]
  have r4 : S2.2.2.2.1 = hm_Cm_body N S := by rw [h2]
  have r5 : S2.2.2.2.2.1 = hm_Cm_compound N S := by rw [h2]
  have r6 : S2.2.2.2.2.2.1 = hm_Cm_apply N S := by rw [h2]
  have r7 : S2.2.2.2.2.2.2.1 = hm_Cm_call N S := by rw [h2]
  have r8 : S2.2.2.2.2.2.2.2.1 = hm_Cm_signs N S := by rw [h2]
  have r9 : S2.2.2.2.2.2.2.2.2.1 = hm_Cm_list N S := by rw [h2]
  have r10 : S2.2.2.2.2.2.2.2.2.2.1 = hm_Cm_row N S := by rw [h2]
  have r11 : S2.2.2.2.2.2.2.2.2.2.2.1 = hm_Cm_expression N S := by rw [h2]
  have r12 : S2.2.2.2.2.2.2.2.2.2.2.2.1 = hm_Cm_tries N S := by rw [h2]
  have r13 : S2.2.2.2.2.2.2.2.2.2.2.2.2 = hm_Cm_clause N S := by rw [h2]
  have hE2 : ∀ o cl, cl ≤ 3 → (o ≤ 25 → 11 * (25 - o) + 14 + 2 * cl ≤ d) → ExS N S o cl := fun o cl hc hd => by
    by_cases z : 26 ≤ o
    · exact ExS_26 z
    · exact hE o cl hc hd
  refine ⟨fun o cl hc hd => ?_, fun o hd h1 => ?_, fun o hd h1 => ?_, fun o hd h1 => ?_, fun o k hd h1 => ?_, fun o cl hd h1 => ?_, fun o hd h1 => ?_, fun o cl hd h1 => ?_, fun o cl hc hd h1 h3 => ?_, fun o cl hc h3 hd h1 => ?_, fun o hd h1 => ?_, fun o hd h1 => ?_, fun o cl hd h1 => ?_⟩
  · by_cases z : 26 ≤ o
    · exact ExS_26 z
    · exact expr_okc (hE2 (o + 1) 3 (by omega) (by omega)) (hRo (o + 1) (by omega) (by omega)) (hLi o (by omega) (by omega)) (hCo o cl hc (by omega) (by omega) (by omega)) (hCa o cl (by omega) (by omega)) (hAp o cl hc (by omega) (by omega) (by omega)) (fun z => hSi o (by omega) (by omega)) (by omega) r11
  · exact rowC_ok (hE2 o 3 (by omega) (by omega)) (by omega) r10
  · exact bodyC_ok (hE2 o 3 (by omega) (by omega)) (by omega) r4
  · exact triesC_ok (hE2 (o + 1) 3 (by omega) (by omega)) (by omega) r12
  · exact partsC_ok (hTr o (by omega) (by omega)) (hBo (o + 2) (by omega) (by omega)) (by omega) r3
  · exact receiveC_ok (hE2 (o + 1) 3 (by omega) (by omega)) (hPa o 1 (by omega) (by omega)) (hBo (o + 2) (by omega) (by omega)) (by omega) r2
  · exact clauseC_ok (hTr o (by omega) (by omega)) (hBo (o + 2) (by omega) (by omega)) (by omega) r13
  · exact funC_ok (hCl o (by omega) (by omega)) hN r1
  · exact compoundC_ok (hE2 (o + 1) 3 (by omega) (by omega)) (hE2 (o + 1) 1 (by omega) (by omega)) (fun z => hE2 o 2 (by omega) (by omega)) (hBo (o + 2) (by omega) (by omega)) (hPa o 1 (by omega) (by omega)) (hPa o 0 (by omega) (by omega)) (hRe o cl (by omega) (by omega)) (hFu o cl (by omega) (by omega)) hN r5
  · rcases (by omega : cl = 0 ∨ 1 ≤ cl) with rfl | z
    · exact ApS_0
    · exact apply_okc2 (hE2 o 0 (by omega) (by omega)) (hRo (o + 1) (by omega) (by omega)) (by omega) r6
  · exact signsC_ok (hE2 o 1 (by omega) (by omega)) (by omega) r8
  · exact listC_ok (hE2 (o + 1) 3 (by omega) (by omega)) (hRo (o + 1) (by omega) (by omega)) r9
  · exact call_okc2 (hRo (o + 1) (by omega) (by omega)) (by omega) r7
theorem grpC_ok (hN : 1000000000 ≤ N) : ∀ d, GRPc N (hrc_Cm_fun N d) d
  | 0 => by
    refine ⟨fun o cl hc hd => ?_, fun o hd h1 => ?_, fun o hd h1 => ?_, fun o hd h1 => ?_, fun o k hd h1 => ?_, fun o cl hd h1 => ?_, fun o hd h1 => ?_, fun o cl hd h1 => ?_, fun o cl hc hd h1 h3 => ?_, fun o cl hc h3 hd h1 => ?_, fun o hd h1 => ?_, fun o hd h1 => ?_, fun o cl hd h1 => ?_⟩
    · by_cases z : 26 ≤ o
      · exact ExS_26 z
      · exfalso; omega
    all_goals (exfalso; omega)
  | d + 1 => grp_s hN (grpC_ok hN d) rfl
theorem clauseC_300 (hN : 1000000000 ≤ N) : ClS N (hrc_Cm_fun N 300) 0 := (grpC_ok hN 300).2.2.2.2.2.2.1 0 (by omega) (by omega)
end
