set_option maxRecDepth 100000
section
variable {T : Nat → Option Tyc} {u v w : MS} {a b c e q r s h m h1 m1 g x n k i f z : Nat} {L : List Nat} {H H1 H2 : List (Nat × Tyc)} {y y1 : Tyc} {o : Option Tyc}
theorem no_H {p : Nat} {t : Tyc} : (p, t) ∈ ([] : List (Nat × Tyc)) → False := fun h => absurd h (by simp)
theorem SG_term (hz : z ≤ h) (hh : h ≤ 1090) (hm : m ≤ 40) (w0 : A u 23 a = 1) (w1 : A u 23 (a + 1) = 0 ∨ (A u 23 (a + 1) = 1 ∧ 0 ≤ A u 23 (a + 2) ∧ A u 23 (a + 2) < F u 22) ∨ (A u 23 (a + 1) = 6 ∧ A u 23 (a + 2) = 0)) : SGc u a (a + 3) q q [] z h m L g x (some (h + 1, m, L, g, x)) := SG_in hz (by omega) hh hm (fun p t hp => (no_H hp).elim) (fun v T hA hT hTa ho hH hX => by
  have e0 : A v 23 a = A u 23 a := hA a (Nat.le_refl _) (by omega) (fun t hp => by simp at hp)
  have e1 : A v 23 (a + 1) = A u 23 (a + 1) := hA (a + 1) (by omega) (by omega) (fun t hp => by simp at hp)
  have e2 : A v 23 (a + 2) = A u 23 (a + 2) := hA (a + 2) (by omega) (by omega) (fun t hp => by simp at hp)
  exact Or.inl (Or.inl (⟨by rw [e0]; exact w0, by rw [e1, e2]; have := hT.2.2.1; omega, ho _ rfl⟩)))
theorem SG_str (hz : z ≤ h) (hh : h ≤ 1090) (hm : m ≤ 40) (w0 : A u 23 a = 2) (w1 : A u 23 (a + 1) = ((n : Nat) : Int)) (hn : n ≤ 40) : SGc u a (a + (2 + n)) q q [] z h m L g x (some (h + 1, m, L, g, x)) := SG_in hz (by omega) hh hm (fun p t hp => (no_H hp).elim) (fun v T hA hT hTa ho hH hX => by
  have e0 : A v 23 a = A u 23 a := hA a (Nat.le_refl _) (by omega) (fun t hp => by simp at hp)
  have e1 : A v 23 (a + 1) = A u 23 (a + 1) := hA (a + 1) (by omega) (by omega) (fun t hp => by simp at hp)
  exact Or.inl (Or.inr (Or.inl (⟨by rw [e0]; exact w0, n, by rw [e1]; exact w1, hn, by rw [Nat.add_assoc]; exact ho _ rfl⟩))))
theorem SG_name (hz : z ≤ h) (hh : h ≤ 1090) (hm : m ≤ 40) (w0 : A u 23 a = 3) : SGc u a (a + 2) q q [] z h m L g x (some (h + 1, m, L, g, x)) := SG_in hz (by omega) hh hm (fun p t hp => (no_H hp).elim) (fun v T hA hT hTa ho hH hX => by
  have e0 : A v 23 a = A u 23 a := hA a (Nat.le_refl _) (by omega) (fun t hp => by simp at hp)
  exact Or.inl (Or.inr (Or.inr (Or.inl (⟨by rw [e0]; exact w0, ho _ rfl⟩)))))
theorem SG_tup (hz : z ≤ h) (hh : h ≤ 1090) (hm : m ≤ 40) (w0 : A u 23 a = 4) (w1 : A u 23 (a + 1) = ((n : Nat) : Int)) (hn : n ≤ h) : SGc u a (a + 2) q q [] z h m L g x (some (h - n + 1, m, L, g, x)) := SG_in hz (by omega) hh hm (fun p t hp => (no_H hp).elim) (fun v T hA hT hTa ho hH hX => by
  have e0 : A v 23 a = A u 23 a := hA a (Nat.le_refl _) (by omega) (fun t hp => by simp at hp)
  have e1 : A v 23 (a + 1) = A u 23 (a + 1) := hA (a + 1) (by omega) (by omega) (fun t hp => by simp at hp)
  exact Or.inl (Or.inr (Or.inr (Or.inr (Or.inl (⟨by rw [e0]; exact w0, n, by rw [e1]; exact w1, hn, ho _ rfl⟩))))))
theorem SG_lst (hz : z ≤ h) (hh : h ≤ 1090) (hm : m ≤ 40) (w0 : A u 23 a = 5) (w1 : A u 23 (a + 1) = ((n : Nat) : Int)) (hn : 1 ≤ n ∧ n + 1 ≤ h) : SGc u a (a + 2) q q [] z h m L g x (some (h - n, m, L, g, x)) := SG_in hz (by omega) hh hm (fun p t hp => (no_H hp).elim) (fun v T hA hT hTa ho hH hX => by
  have e0 : A v 23 a = A u 23 a := hA a (Nat.le_refl _) (by omega) (fun t hp => by simp at hp)
  have e1 : A v 23 (a + 1) = A u 23 (a + 1) := hA (a + 1) (by omega) (by omega) (fun t hp => by simp at hp)
  exact Or.inl (Or.inr (Or.inr (Or.inr (Or.inr (Or.inl (⟨by rw [e0]; exact w0, n, by rw [e1]; exact w1, hn.1, hn.2, ho _ rfl⟩)))))))
theorem SG_fof (hz : z ≤ h) (hh : h ≤ 1090) (hm : m ≤ 40) (w0 : A u 23 a = 7) (w1 : A u 23 (a + 1) = ((f : Nat) : Int)) (hf : ((f : Nat) : Int) < F u 442) : SGc u a (a + 2) q q [] z h m L g x (some (h + 1, m, L, g, x)) := SG_in hz (by omega) hh hm (fun p t hp => (no_H hp).elim) (fun v T hA hT hTa ho hH hX => by
  have e0 : A v 23 a = A u 23 a := hA a (Nat.le_refl _) (by omega) (fun t hp => by simp at hp)
  have e1 : A v 23 (a + 1) = A u 23 (a + 1) := hA (a + 1) (by omega) (by omega) (fun t hp => by simp at hp)
  exact Or.inl (Or.inr (Or.inr (Or.inr (Or.inr (Or.inr (Or.inr (Or.inl (⟨by rw [e0]; exact w0, f, by rw [e1]; exact w1, by rw [hT.1]; exact hf, ho _ rfl⟩)))))))))
theorem SG_bin (hz : z ≤ h) (hh : h ≤ 1090) (hm : m ≤ 40) (w0 : A u 23 a = 8 ∨ A u 23 a = 9 ∨ A u 23 a = 10) (h2 : 2 ≤ h) : SGc u a (a + 2) q q [] z h m L g x (some (h - 1, m, L, g, x)) := SG_in hz (by omega) hh hm (fun p t hp => (no_H hp).elim) (fun v T hA hT hTa ho hH hX => by
  have e0 : A v 23 a = A u 23 a := hA a (Nat.le_refl _) (by omega) (fun t hp => by simp at hp)
  exact Or.inl (Or.inr (Or.inr (Or.inr (Or.inr (Or.inr (Or.inr (Or.inr (Or.inl (⟨by rw [e0]; exact w0, h2, ho _ rfl⟩))))))))))
theorem SG_neg (hz : z ≤ h) (hh : h ≤ 1090) (hm : m ≤ 40) (w0 : A u 23 a = 11 ∨ A u 23 a = 12) (h2 : 1 ≤ h) : SGc u a (a + 1) q q [] z h m L g x (some (h, m, L, g, x)) := SG_in hz (by omega) hh hm (fun p t hp => (no_H hp).elim) (fun v T hA hT hTa ho hH hX => by
  have e0 : A v 23 a = A u 23 a := hA a (Nat.le_refl _) (by omega) (fun t hp => by simp at hp)
  exact Or.inl (Or.inr (Or.inr (Or.inr (Or.inr (Or.inr (Or.inr (Or.inr (Or.inr (Or.inl (⟨by rw [e0]; exact w0, h2, ho _ rfl⟩)))))))))))
theorem SG_and (hz : z ≤ h) (hh : h ≤ 1090) (hm : m ≤ 40) (w0 : A u 23 a = 13 ∨ A u 23 a = 14) (h2 : 1 ≤ h) : SGc u a (a + 2) q q [(a + 1, (h, m, L, g, x))] z h m L g x (some (h - 1, m, L, g, x)) := SG_in hz (by omega) hh hm (fun p t hp => by simp at hp; omega) (fun v T hA hT hTa ho hH hX => by
  have e0 : A v 23 a = A u 23 a := hA a (Nat.le_refl _) (by omega) (fun t hp => by simp at hp)
  obtain ⟨d, d1, d2, d3⟩ := hH (a + 1) (h, m, L, g, x) (by simp)
  exact Or.inl (Or.inr (Or.inr (Or.inr (Or.inr (Or.inr (Or.inr (Or.inr (Or.inr (Or.inr (Or.inl (⟨by rw [e0]; exact w0, h2, ho _ rfl, d, d1, by omega, d3⟩))))))))))))
theorem SG_drop (hz : z ≤ h) (hh : h ≤ 1090) (hm : m ≤ 40) (w0 : A u 23 a = 15) (h2 : 1 ≤ h) : SGc u a (a + 1) q q [] z h m L g x (some (h - 1, m, L, g, x)) := SG_in hz (by omega) hh hm (fun p t hp => (no_H hp).elim) (fun v T hA hT hTa ho hH hX => by
  have e0 : A v 23 a = A u 23 a := hA a (Nat.le_refl _) (by omega) (fun t hp => by simp at hp)
  exact Or.inl (Or.inr (Or.inr (Or.inr (Or.inr (Or.inr (Or.inr (Or.inr (Or.inr (Or.inr (Or.inr (Or.inl (⟨by rw [e0]; exact w0, h2, ho _ rfl⟩)))))))))))))
theorem SG_fgt (hz : z ≤ h) (hh : h ≤ 1090) (hm : m ≤ 40) (w0 : A u 23 a = 16) (hg : g = 0) (w1 : A u 23 (a + 1) = ((n : Nat) : Int)) (hn : n ≤ m) : SGc u a (a + 2) q q [] z h m L g x (some (h, m - n, L, g, x)) := SG_in hz (by omega) hh hm (fun p t hp => (no_H hp).elim) (fun v T hA hT hTa ho hH hX => by
  have e0 : A v 23 a = A u 23 a := hA a (Nat.le_refl _) (by omega) (fun t hp => by simp at hp)
  have e1 : A v 23 (a + 1) = A u 23 (a + 1) := hA (a + 1) (by omega) (by omega) (fun t hp => by simp at hp)
  exact Or.inl (Or.inr (Or.inr (Or.inr (Or.inr (Or.inr (Or.inr (Or.inr (Or.inr (Or.inr (Or.inr (Or.inr (Or.inl (⟨by rw [e0]; exact w0, hg, n, by rw [e1]; exact w1, hn, ho _ rfl⟩))))))))))))))
theorem SG_send (hz : z ≤ h) (hh : h ≤ 1090) (hm : m ≤ 40) (w0 : A u 23 a = 17) (h2 : 2 ≤ h) : SGc u a (a + 1) q q [] z h m L g x (some (h - 1, m, L, g, x)) := SG_in hz (by omega) hh hm (fun p t hp => (no_H hp).elim) (fun v T hA hT hTa ho hH hX => by
  have e0 : A v 23 a = A u 23 a := hA a (Nat.le_refl _) (by omega) (fun t hp => by simp at hp)
  exact Or.inl (Or.inr (Or.inr (Or.inr (Or.inr (Or.inr (Or.inr (Or.inr (Or.inr (Or.inr (Or.inr (Or.inr (Or.inr (⟨by rw [e0]; exact w0, h2, ho _ rfl⟩))))))))))))))
theorem SG_jump (hz : z ≤ h) (hh : h ≤ 1090) (hm : m ≤ 40) (w0 : A u 23 a = 18) : SGc u a (a + 2) q q [(a + 1, (h, m, L, g, x))] z h m L g x none := SG_in hz (by omega) hh hm (fun p t hp => by simp at hp; omega) (fun v T hA hT hTa ho hH hX => by
  have e0 : A v 23 a = A u 23 a := hA a (Nat.le_refl _) (by omega) (fun t hp => by simp at hp)
  obtain ⟨d, d1, d2, d3⟩ := hH (a + 1) (h, m, L, g, x) (by simp)
  exact Or.inr (Or.inl (Or.inl (⟨by rw [e0]; exact w0, d, d1, by omega, d3⟩))))
theorem SG_hold (hz : z ≤ h) (hh : h ≤ 1090) (hm : m ≤ 40) (w0 : A u 23 a = 22) (hg : g ≠ 0) (h2 : 1 ≤ h) : SGc u a (a + 1) q q [] z h m L g x (some (h - 1, m, L, g, x)) := SG_in hz (by omega) hh hm (fun p t hp => (no_H hp).elim) (fun v T hA hT hTa ho hH hX => by
  have e0 : A v 23 a = A u 23 a := hA a (Nat.le_refl _) (by omega) (fun t hp => by simp at hp)
  exact Or.inr (Or.inl (Or.inr (Or.inr (Or.inr (Or.inr (Or.inl (⟨by rw [e0]; exact w0, hg, h2, ho _ rfl⟩))))))))
theorem SG_gded (hz : z ≤ h) (hh : h ≤ 1090) (hm : m ≤ 40) (w0 : A u 23 a = 23) : SGc u a (a + 1) q q [] z h m L g x (some (h, m, L, 0, x)) := SG_in hz (by omega) hh hm (fun p t hp => (no_H hp).elim) (fun v T hA hT hTa ho hH hX => by
  have e0 : A v 23 a = A u 23 a := hA a (Nat.le_refl _) (by omega) (fun t hp => by simp at hp)
  exact Or.inr (Or.inl (Or.inr (Or.inr (Or.inr (Or.inr (Or.inr (Or.inl (⟨by rw [e0]; exact w0, ho _ rfl⟩)))))))))
theorem SG_chos (hz : z ≤ h) (hh : h ≤ 1090) (hm : m ≤ 40) (w0 : A u 23 a = 24) (w1 : A u 23 (a + 1) = ((n : Nat) : Int)) (hn : n ≤ h) : SGc u a (a + 3) q q [] z h m L g x (some (h - n, m, L, g, x)) := SG_in hz (by omega) hh hm (fun p t hp => (no_H hp).elim) (fun v T hA hT hTa ho hH hX => by
  have e0 : A v 23 a = A u 23 a := hA a (Nat.le_refl _) (by omega) (fun t hp => by simp at hp)
  have e1 : A v 23 (a + 1) = A u 23 (a + 1) := hA (a + 1) (by omega) (by omega) (fun t hp => by simp at hp)
  exact Or.inr (Or.inl (Or.inr (Or.inr (Or.inr (Or.inr (Or.inr (Or.inr (Or.inl (⟨by rw [e0]; exact w0, n, by rw [e1]; exact w1, hn, ho _ rfl⟩))))))))))
theorem SG_ret (hz : z ≤ h) (hh : h ≤ 1090) (hm : m ≤ 40) (w0 : A u 23 a = 35) (hg : g = 0 ∧ x = 0 ∧ 1 ≤ h ∧ L = []) : SGc u a (a + 1) q q [] z h m L g x none := SG_in hz (by omega) hh hm (fun p t hp => (no_H hp).elim) (fun v T hA hT hTa ho hH hX => by
  have e0 : A v 23 a = A u 23 a := hA a (Nat.le_refl _) (by omega) (fun t hp => by simp at hp)
  exact Or.inr (Or.inr (Or.inr (Or.inr (Or.inr (Or.inr (Or.inl (⟨by rw [e0]; exact w0, hg.1, hg.2.1, hg.2.2.1, hg.2.2.2⟩))))))))
theorem SG_nocl (hz : z ≤ h) (hh : h ≤ 1090) (hm : m ≤ 40) (w0 : A u 23 a = 36 ∨ A u 23 a = 38) : SGc u a (a + 1) q q [] z h m L g x none := SG_in hz (by omega) hh hm (fun p t hp => (no_H hp).elim) (fun v T hA hT hTa ho hH hX => by
  have e0 : A v 23 a = A u 23 a := hA a (Nat.le_refl _) (by omega) (fun t hp => by simp at hp)
  exact Or.inr (Or.inr (Or.inr (Or.inr (Or.inr (Or.inr (Or.inr (Or.inl (by rw [e0]; exact w0)))))))))
theorem SG_noca (hz : z ≤ h) (hh : h ≤ 1090) (hm : m ≤ 40) (w0 : A u 23 a = 37) (h2 : 1 ≤ h) : SGc u a (a + 1) q q [] z h m L g x none := SG_in hz (by omega) hh hm (fun p t hp => (no_H hp).elim) (fun v T hA hT hTa ho hH hX => by
  have e0 : A v 23 a = A u 23 a := hA a (Nat.le_refl _) (by omega) (fun t hp => by simp at hp)
  exact Or.inr (Or.inr (Or.inr (Or.inr (Or.inr (Or.inr (Or.inr (Or.inr (Or.inl (⟨by rw [e0]; exact w0, h2⟩))))))))))
theorem SG_pre {y : Int} (hz : z ≤ h) (hh : h ≤ 1090) (hm : m ≤ 40) (w0 : A u 23 a = 39) (w1 : A u 23 (a + 1) = y) (h2 : tkc y ≤ h) : SGc u a (a + 2) q q [] z h m L g x (some (h - tkc y + 1, m, L, g, x)) := SG_in hz (by omega) hh hm (fun p t hp => (no_H hp).elim) (fun v T hA hT hTa ho hH hX => by
  have e0 : A v 23 a = A u 23 a := hA a (Nat.le_refl _) (by omega) (fun t hp => by simp at hp)
  have e1 : A v 23 (a + 1) = A u 23 (a + 1) := hA (a + 1) (by omega) (by omega) (fun t hp => by simp at hp)
  exact Or.inr (Or.inr (Or.inr (Or.inr (Or.inr (Or.inr (Or.inr (Or.inr (Or.inr (Or.inl (⟨by rw [e0]; exact w0, by rw [e1, w1]; exact h2, by rw [e1, w1]; exact ho _ rfl⟩)))))))))))
theorem SG_tow {y : Int} (hz : z ≤ h) (hh : h ≤ 1090) (hm : m ≤ 40) (w0 : A u 23 a = 40) (w1 : A u 23 (a + 1) = y) (h2 : (if y = 29 then 2 else 1) ≤ h) : SGc u a (a + 2) q q [] z h m L g x (some (h - (if y = 29 then 2 else 1) + 1, m, L, g, x)) := SG_in hz (by omega) hh hm (fun p t hp => (no_H hp).elim) (fun v T hA hT hTa ho hH hX => by
  have e0 : A v 23 a = A u 23 a := hA a (Nat.le_refl _) (by omega) (fun t hp => by simp at hp)
  have e1 : A v 23 (a + 1) = A u 23 (a + 1) := hA (a + 1) (by omega) (by omega) (fun t hp => by simp at hp)
  exact Or.inr (Or.inr (Or.inr (Or.inr (Or.inr (Or.inr (Or.inr (Or.inr (Or.inr (Or.inr (⟨by rw [e0]; exact w0, by rw [e1, w1]; exact h2, by rw [e1, w1]; exact ho _ rfl⟩)))))))))))
theorem SG_take (hz : z ≤ h) (hh : h ≤ 1090) (hm : m ≤ 40) (w0 : A u 23 a = 33) (hg : g = 0 ∧ x ≠ 0) : SGc u a (a + 1) q q [] z h m L g x (some (h, m, L, 0, 0)) := SG_in hz (by omega) hh hm (fun p t hp => (no_H hp).elim) (fun v T hA hT hTa ho hH hX => by
  have e0 : A v 23 a = A u 23 a := hA a (Nat.le_refl _) (by omega) (fun t hp => by simp at hp)
  exact Or.inr (Or.inr (Or.inr (Or.inr (Or.inl (⟨by rw [e0]; exact w0, hg.1, hg.2, ho _ rfl⟩))))))
theorem SG_fit {b2 : Nat} (hz : z ≤ h) (hh : h ≤ 1090) (hm : m + b2 ≤ 40) (w0 : A u 23 a = 19) (hg : g = 0) (w1 : (∃ n : Nat, A u 23 (a + 1) = ((n : Nat) : Int) ∧ n ≤ h) ∨ (A u 23 (a + 1) = -1 ∧ 1 ≤ h) ∨ (A u 23 (a + 1) = -2 ∧ x ≠ 0)) (hp : PTSc u (a + 3) e b2) (he : A u 23 e = 8) (e24 : e < 24000) : SGc u a (e + 1) q q [(a + 2, (h, m, L, 0, x))] z h m L g x (some (h, m + b2, L, 0, x)) := by
  have ae := hp.1
  rw [show e + 1 = a + (e + 1 - a) by omega]
  refine SG_in hz (by omega) hh (by omega) (fun p t hp => by simp at hp; omega) (fun v T hA hT hTa ho hH hX => ?_)
  have eq : ∀ j, a ≤ j → j < e + 1 → j ≠ a + 2 → A v 23 j = A u 23 j := fun j j1 j2 j3 => hA j j1 (by omega) (fun t hp => by simp at hp; exact j3 hp.1)
  obtain ⟨d, d1, d2, d3⟩ := hH (a + 2) (h, m, L, 0, x) (by simp)
  have e1 := eq (a + 1) (by omega) (by omega) (by omega)
  have pt := hp.2 v (fun k k1 k2 => eq k (by omega) (by omega) (by omega)) 1 e 0 (Or.inl ⟨(eq e (by omega) (by omega) (by omega)).trans he, rfl, rfl⟩)
  have te := ho _ rfl
  rw [show a + (e + 1 - a) = e + 1 by omega] at te
  exact Or.inr (Or.inl (Or.inr (Or.inl ⟨(eq a (by omega) (by omega) (by omega)).trans w0, hg, by rw [e1]; exact w1, ⟨d, d1, by omega, d3⟩, _, b2, e, pt, by omega, hm, by omega, te⟩)))
theorem SG_mat {b2 : Nat} (hz : z ≤ h) (hh : h ≤ 1090) (hm : m + b2 ≤ 40) (w0 : A u 23 a = 20) (hg : g = 0) (h1 : 1 ≤ h) (hp : PTSc u (a + 1) e b2) (he : A u 23 e = 8) (e24 : e < 24000) : SGc u a (e + 1) q q [] z h m L g x (some (h, m + b2, L, 0, x)) := by
  have ae := hp.1
  rw [show e + 1 = a + (e + 1 - a) by omega]
  refine SG_in hz (by omega) hh (by omega) (fun p t hp => (no_H hp).elim) (fun v T hA hT hTa ho hH hX => ?_)
  have eq : ∀ j, a ≤ j → j < e + 1 → A v 23 j = A u 23 j := fun j j1 j2 => hA j j1 (by omega) (fun t hp => by simp at hp)
  have pt := hp.2 v (fun k k1 k2 => eq k (by omega) (by omega)) 1 e 0 (Or.inl ⟨(eq e (by omega) (by omega)).trans he, rfl, rfl⟩)
  have te := ho _ rfl
  rw [show a + (e + 1 - a) = e + 1 by omega] at te
  exact Or.inr (Or.inl (Or.inr (Or.inr (Or.inl ⟨(eq a (by omega) (by omega)).trans w0, hg, h1, _, b2, e, pt, by omega, hm, by omega, te⟩))))
theorem FL_ar {b h0 k : Nat} (z : ARc T v a b h0 m L g x) (hk : h0 ≤ k) : FLc T L k := by
  have z2 := z.2.1
  cases L with
  | nil => trivial
  | cons t M =>
    obtain ⟨-, h2, m2, z3, z4, -⟩ := z2
    exact ⟨h2, m2, z3, by omega⟩
theorem SG_call (hz : z + n ≤ h) (hh : h ≤ 1090) (hm : m ≤ 40) (w0 : A u 23 a = 25 ∨ (A u 23 a = 26 ∧ L = [])) (hg : g = 0 ∧ x = 0) (w1 : A u 23 (a + 1) = ((f : Nat) : Int)) (hf : ((f : Nat) : Int) < F u 442) (w2 : A u 23 (a + 2) = ((n : Nat) : Int)) (hn : A u 25 f = ((n : Nat) : Int)) : SGc u a (a + 4) q q [] z h m L g x (some (h - n + 1, m, L, 0, 0)) := SG_in (by omega) (by omega) hh hm (fun p t hp => (no_H hp).elim) (fun v T hA hT hTa ho hH hX => by
  have e0 : A v 23 a = A u 23 a := hA a (Nat.le_refl _) (by omega) (fun t hp => by simp at hp)
  have e1 : A v 23 (a + 1) = A u 23 (a + 1) := hA (a + 1) (by omega) (by omega) (fun t hp => by simp at hp)
  have e2 : A v 23 (a + 2) = A u 23 (a + 2) := hA (a + 2) (by omega) (by omega) (fun t hp => by simp at hp)
  exact Or.inr (Or.inl (Or.inr (Or.inr (Or.inr (Or.inr (Or.inr (Or.inr (Or.inr (Or.inl ⟨by rw [e0]; exact w0, hg.1, hg.2, f, n, by rw [e1]; exact w1, by rw [hT.1]; exact hf, by rw [e2]; exact w2, by rw [hT.2.2.2.1]; exact hn, by omega, FL_ar hX (by omega), ho _ rfl⟩))))))))))
theorem SG_app (hz : z + n + 1 ≤ h) (hh : h ≤ 1090) (hm : m ≤ 40) (w0 : A u 23 a = 27 ∨ (A u 23 a = 28 ∧ L = [])) (hg : g = 0 ∧ x = 0) (w1 : A u 23 (a + 1) = ((n : Nat) : Int)) : SGc u a (a + 3) q q [] z h m L g x (some (h - n, m, L, 0, 0)) := SG_in (by omega) (by omega) hh hm (fun p t hp => (no_H hp).elim) (fun v T hA hT hTa ho hH hX => by
  have e0 : A v 23 a = A u 23 a := hA a (Nat.le_refl _) (by omega) (fun t hp => by simp at hp)
  have e1 : A v 23 (a + 1) = A u 23 (a + 1) := hA (a + 1) (by omega) (by omega) (fun t hp => by simp at hp)
  exact Or.inr (Or.inl (Or.inr (Or.inr (Or.inr (Or.inr (Or.inr (Or.inr (Or.inr (Or.inr (Or.inl ⟨by rw [e0]; exact w0, hg.1, hg.2, n, by rw [e1]; exact w1, by omega, FL_ar hX (by omega), ho _ rfl⟩)))))))))))
end
