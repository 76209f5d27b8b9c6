section
variable {u0 : MS} {N TN SN : Nat} {bw : Nat → Nat} {o D : Int} {S : SG_M_behind}
theorem guard_N : XGN (fm_M_guard N S) := fun u hf hp => by
  unfold fm_M_guard fb_M_guard_0
  rw [show (14 : Int32) = I 14 from rfl, takeWord_0 hp ⟨by decide, by decide⟩ (Or.inl hf), bnd_so, br00]
theorem grp_F (hN : 20000 ≤ N) : ∀ d, 2 ≤ d → XNO (rc_M_behind N d).2.2.2.2.2.2.2.2.2.2.2.2.2.1 ∧ XNO (rc_M_behind N d).2.2.2.2.1 ∧ XNO (rc_M_behind N d).2.2.2.2.2.2.2.2.2.2.1 ∧ (∀ D, 0 ≤ D → XSF u0 TN D (rc_M_behind N d).2.2.2.2.2.2.2.2.2.2.2.2.1) ∧ XGN (rc_M_behind N d).2.2.2.2.2.2.2.2.2.2.2.2.2.2.2.1 ∧ XPN (rc_M_behind N d).2.2.1 := fun d hd => by
  obtain ⟨d', rfl⟩ : ∃ d', d = d' + 1 + 1 := ⟨d - 2, by omega⟩
  exact ⟨expression_F, body_F, primary_F, fun D h => simple_F (by omega) h (worked_F (by omega)), guard_N, fun u a b hf => parts_F hf (by omega)⟩
def eR (o : Int) : Int := 10 * (25 - o) + 5
def GRP (u0 : MS) (TN SN : Nat) (bw : Nat → Nat) (S : SG_M_behind) (d : Nat) : Prop := ∀ o D : Int, 0 ≤ o → o ≤ 25 → D ≤ 2890 →
  ((eR o ≤ d → 10 * eR o ≤ D → XSP u0 TN SN bw D 3 0 0 0 o S.2.2.2.2.2.2.2.2.2.2.2.2.2.1 ∧ XSB u0 TN SN bw D o S.2.2.2.2.1 ∧ XSP u0 TN SN bw D 3 0 0 0 o S.1) ∧
  (eR o + 1 ≤ d → 10 * eR o + 10 ≤ D → XGC u0 TN SN bw D o S.2.2.2.2.2.2.2.2.2.2.2.2.2.2.1 ∧ XWP u0 TN SN bw D o (fun u => IS u 2 ∨ IS u 4) S.2.2.2.2.2.2.2.1 ∧ XAR u0 TN SN bw D o S.2.2.2.2.2.2.2.2.2.1 ∧ (1 ≤ o → XMT u0 TN SN bw D o S.2.1)) ∧
  (eR o + 2 ≤ d → 10 * eR o + 20 ≤ D → XGD u0 TN SN bw D o S.2.2.2.2.2.2.2.2.2.2.2.2.2.2.2.1) ∧
  (eR o + 3 ≤ d → 10 * eR o + 30 ≤ D → XCL u0 TN SN bw D o S.2.2.2.2.2.2.2.2.2.2.2.2.2.2.2.2 ∧ XPT u0 TN SN bw D o S.2.2.1) ∧
  (eR o + 4 ≤ d → 10 * eR o + 40 ≤ D → XRC u0 TN SN bw D o S.2.2.2.1 ∧ (1 ≤ o → XBL u0 TN SN bw D o (fun u => IW u 7) S.2.2.2.2.2.2.1)) ∧
  (eR o + 5 ≤ d → 10 * eR o + 50 ≤ D → XBL u0 TN SN bw D o (fun u => TSO u = 3) S.2.2.2.2.2.1) ∧
  (1 ≤ o → eR o + 6 ≤ d → 10 * eR o + 60 ≤ D → XWP u0 TN SN bw D o (fun _ => True) S.2.2.2.2.2.2.2.2.1) ∧
  (1 ≤ o → eR o + 7 ≤ d → 10 * eR o + 70 ≤ D → XPR u0 TN SN bw D o S.2.2.2.2.2.2.2.2.2.2.1) ∧
  (1 ≤ o → eR o + 8 ≤ d → 10 * eR o + 80 ≤ D → XSP u0 TN SN bw D 0 1 0 1 o S.2.2.2.2.2.2.2.2.2.2.2.1) ∧
  (1 ≤ o → eR o + 9 ≤ d → 10 * eR o + 90 ≤ D → XSP u0 TN SN bw D 0 1 1 1 o S.2.2.2.2.2.2.2.2.2.2.2.2.1))
theorem grp_ok (tk : TKW u0 TN SN bw) (hN : 20000 ≤ N) : ∀ d, GRP u0 TN SN bw (rc_M_behind N d) d := by
  intro d
  induction d with
  | zero =>
    intro o D h1 h2 h3
    have : 5 ≤ eR o := by unfold eR; omega
    refine ⟨fun y => by omega, fun y => by omega, fun y => by omega, fun y => by omega, fun y => by omega, fun y => by omega, fun _ y => by omega, fun _ y => by omega, fun _ y => by omega, fun _ y => by omega⟩
  | succ d ih =>
    intro o D h1 h2 h3
    have e5 : 5 ≤ eR o := by unfold eR; omega
    have up : eR (o + 1) = eR o - 10 := by unfold eR; omega
    have eD : D = (D - 10) + 10 := by omega
    have I0 := ih o (D - 10) h1 h2 (by omega)
    obtain ⟨i0, i1, i2, i3, i4, i5, i6, i7, i8, i9⟩ := I0
    have ff : 4 ≤ d → XNO (rc_M_behind N d).2.2.2.2.2.2.2.2.2.2.2.2.2.1 ∧ XNO (rc_M_behind N d).2.2.2.2.1 ∧ XNO (rc_M_behind N d).2.2.2.2.2.2.2.2.2.2.1 ∧ (∀ D, 0 ≤ D → XSF u0 TN D (rc_M_behind N d).2.2.2.2.2.2.2.2.2.2.2.2.1) ∧ XGN (rc_M_behind N d).2.2.2.2.2.2.2.2.2.2.2.2.2.2.2.1 ∧ XPN (rc_M_behind N d).2.2.1 := fun h => grp_F hN d (by omega)
    refine ⟨fun y z => ?_, fun y z => ?_, fun y z => ?_, fun y z => ?_, fun y z => ?_, fun y z => ?_, fun ho y z => ?_, fun ho y z => ?_, fun ho y z => ?_, fun ho y z => ?_⟩
    · obtain ⟨f1, f2, f3, f4, f5, f6⟩ := ff (by omega)
      have hsim : o ≤ 24 → XSP u0 TN SN bw (D - 10) 0 1 1 1 (o + 1) (rc_M_behind N d).2.2.2.2.2.2.2.2.2.2.2.2.1 := fun q => (ih (o + 1) (D - 10) (by omega) (by omega) (by omega)).2.2.2.2.2.2.2.2.2 (by omega) (by omega) (by omega)
      have hex : o ≤ 24 → XSP u0 TN SN bw (D - 10) 3 0 0 0 (o + 1) (rc_M_behind N d).2.2.2.2.2.2.2.2.2.2.2.2.2.1 := fun q => ((ih (o + 1) (D - 10) (by omega) (by omega) (by omega)).1 (by omega) (by omega)).1
      rw [eD]
      exact ⟨expression_ok tk (by omega) ⟨h1, h2⟩ hsim (f4 _ (by omega)) hex f1, body_ok tk (by omega) (by omega) ⟨h1, h2⟩ hex f1, behind_ok tk (by omega) ⟨h1, h2⟩ hsim (f4 _ (by omega))⟩
    · obtain ⟨j1, j2, j3⟩ := i0 (by omega) (by omega)
      rw [eD]
      exact ⟨guardCode_ok tk (by omega) (by omega) ⟨h1, h2⟩ j1, row_ok tk (by omega) (by omega) ⟨h1, h2⟩ j1, arguments_ok tk (by omega) (by omega) h2 j1, fun q => matched_ok tk hN (by omega) ⟨q, h2⟩ j3⟩
    · have j := i1 (by omega) (by omega)
      rw [eD]
      exact guard_ok tk (by omega) j.1
    · obtain ⟨f1, f2, f3, f4, f5, f6⟩ := ff (by omega)
      have j0 := i0 (by omega) (by omega)
      have j1 := i1 (by omega) (by omega)
      have j2 := i2 (by omega) (by omega)
      rw [eD]
      exact ⟨clause_ok tk hN (by omega) ⟨h1, h2⟩ j2 f5 j0.2.1 f2, parts_ok tk hN (by omega) ⟨h1, h2⟩ j2 f5 j1.1 j0.2.1 f2⟩
    · obtain ⟨f1, f2, f3, f4, f5, f6⟩ := ff (by omega)
      have j0 := i0 (by omega) (by omega)
      have j3 := i3 (by omega) (by omega)
      rw [eD]
      exact ⟨receive_ok tk (by omega) ⟨h1, h2⟩ j3.2 j0.1 j0.2.1 f2, fun q => fun_ok tk hN (by omega) ⟨q, h2⟩ j3.1⟩
    · obtain ⟨f1, f2, f3, f4, f5, f6⟩ := ff (by omega)
      have j0 := i0 (by omega) (by omega)
      have j3 := i3 (by omega) (by omega)
      have j4 := i4 (by omega) (by omega)
      rw [eD]
      exact block_ok tk (by omega) ⟨h1, h2⟩ j3.2 f6 j4.1 j0.1 j0.2.1
    · have j0 := i0 (by omega) (by omega)
      have j1 := i1 (by omega) (by omega)
      have j4 := i4 (by omega) (by omega)
      have j5 := i5 (by omega) (by omega)
      rw [eD]
      exact alone_ok tk (by omega) (by omega) ⟨ho, h2⟩ j0.1 j1.2.1 (j4.2 ho) j5
    · have j1 := i1 (by omega) (by omega)
      have j6 := i6 ho (by omega) (by omega)
      rw [eD]
      exact primary_ok tk (by omega) (by omega) ⟨ho, h2⟩ j1.2.2.1 j6
    · obtain ⟨f1, f2, f3, f4, f5, f6⟩ := ff (by omega)
      have hp : ∀ o1, o ≤ o1 → o1 ≤ 25 → XPR u0 TN SN bw (D - 10) o1 (rc_M_behind N d).2.2.2.2.2.2.2.2.2.2.1 := fun o1 q1 q2 => by
        have ee : eR o1 ≤ eR o := by unfold eR; omega
        exact (ih o1 (D - 10) (by omega) q2 (by omega)).2.2.2.2.2.2.2.1 (by omega) (by omega) (by omega)
      rw [eD]
      exact worked_ok tk hN (by omega) ⟨ho, h2⟩ hp f3
    · have j0 := i0 (by omega) (by omega)
      have j1 := i1 (by omega) (by omega)
      have j8 := i8 ho (by omega) (by omega)
      rw [eD]
      exact simple_ok tk hN (by omega) ⟨ho, h2⟩ j8 (j1.2.2.2 ho) j0.2.2
theorem clause_all (tk : TKW u0 TN SN bw) (hN : 20000 ≤ N) : XCL u0 TN SN bw 2890 0 (fr_M_clause N) :=
  ((grp_ok tk hN 300 0 2890 (by omega) (by omega) (by omega)).2.2.2.1 (by unfold eR; omega) (by unfold eR; omega)).1
end
