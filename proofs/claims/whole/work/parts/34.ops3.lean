/-! ===== the operations: count, told, lay, dry ===== -/
/-- as jK, of an answer that is long -/
def jL (e : Nat) (M : sk_M) (args : List Value) (σ : sk_T) : sk_K := fun v τ' => ∃ r : Int64, v = some (.long r) ∧ sk_C sk_Sm e M args σ (fun w σ' => w = some (.long r) ∧ R τ' σ')
section
variable {d e : Nat} {τ σ : sk_T} {K : sk_K} {s : Nat → Int32} {n : Nat} {v v1 v2 v3 : Int32}
theorem jCount (hd : 20 < d) (he : 20 < e) (hR : R τ σ) : sk_C sk_Sc d mX6_count [.ref 0, .int v1] τ (jK e mX7_count [.ref 0, .int v1] σ) := by
  obtain ⟨n, l0, l1, hN⟩ := hR.1
  obtain ⟨hH, hT, hL0, hL1, ⟨f, f1, f2, f3, f4⟩, w, w1, w2, w3, w4⟩ := hN
  obtain ⟨a1, a2, a3, ⟨y, a4, a5, a6⟩, a7, a8, ⟨b, a9, a10, a11⟩, a12⟩ := hH
  obtain ⟨t, t1, t2, t3, t4⟩ := hR.2.2.2.2.2.2
  refine wX6_count (by omega) ⟨fun q => ⟨_, rfl, ?_⟩, fun q => ⟨_, rfl, ?_⟩, fun q => ⟨_, rfl, ?_⟩, fun q => ⟨_, rfl, ?_⟩, fun q => ⟨_, rfl, ?_⟩, fun q => ⟨_, rfl, ?_⟩, fun q => ⟨_, rfl, ?_⟩, fun q => ⟨_, rfl, ?_⟩, fun q => cE 1 (by omega) ?_⟩
  · subst q
    refine wX7_count (by omega) ⟨fun q => ⟨by rw [a2, a3], hR⟩, fun q => absurd q (by decide), fun q => absurd q (by decide), fun q => absurd q (by decide), fun q => absurd q (by decide), fun q => absurd q (by decide), fun q => absurd q (by decide), fun q => absurd q (by decide), fun q => absurd rfl q.1⟩
  · subst q
    refine wX7_count (by omega) ⟨fun q => absurd q (by decide), fun q => ⟨by rw [a5, a6], hR⟩, fun q => absurd q (by decide), fun q => absurd q (by decide), fun q => absurd q (by decide), fun q => absurd q (by decide), fun q => absurd q (by decide), fun q => absurd q (by decide), fun q => absurd rfl q.2.1⟩
  · subst q
    refine wX7_count (by omega) ⟨fun q => absurd q (by decide), fun q => absurd q (by decide), fun q => ⟨by rw [a8], hR⟩, fun q => absurd q (by decide), fun q => absurd q (by decide), fun q => absurd q (by decide), fun q => absurd q (by decide), fun q => absurd q (by decide), fun q => absurd rfl q.2.2.1⟩
  · subst q
    refine wX7_count (by omega) ⟨fun q => absurd q (by decide), fun q => absurd q (by decide), fun q => absurd q (by decide), fun q => ⟨by rw [a10, a11], hR⟩, fun q => absurd q (by decide), fun q => absurd q (by decide), fun q => absurd q (by decide), fun q => absurd q (by decide), fun q => absurd rfl q.2.2.2.1⟩
  · subst q
    refine wX7_count (by omega) ⟨fun q => absurd q (by decide), fun q => absurd q (by decide), fun q => absurd q (by decide), fun q => absurd q (by decide), fun q => ⟨by rw [f2, f3], hR⟩, fun q => absurd q (by decide), fun q => absurd q (by decide), fun q => absurd q (by decide), fun q => absurd rfl q.2.2.2.2.1⟩
  · subst q
    refine wX7_count (by omega) ⟨fun q => absurd q (by decide), fun q => absurd q (by decide), fun q => absurd q (by decide), fun q => absurd q (by decide), fun q => absurd q (by decide), fun q => ⟨by rw [w2, w3], hR⟩, fun q => absurd q (by decide), fun q => absurd q (by decide), fun q => absurd rfl q.2.2.2.2.2.1⟩
  · subst q
    refine wX7_count (by omega) ⟨fun q => absurd q (by decide), fun q => absurd q (by decide), fun q => absurd q (by decide), fun q => absurd q (by decide), fun q => absurd q (by decide), fun q => absurd q (by decide), fun q => ⟨by rw [t2, t3], hR⟩, fun q => absurd q (by decide), fun q => absurd rfl q.2.2.2.2.2.2.1⟩
  · subst q
    refine wX7_count (by omega) ⟨fun q => absurd q (by decide), fun q => absurd q (by decide), fun q => absurd q (by decide), fun q => absurd q (by decide), fun q => absurd q (by decide), fun q => absurd q (by decide), fun q => absurd q (by decide), fun q => ⟨by rw [a12], hR⟩, fun q => absurd rfl q.2.2.2.2.2.2.2⟩
  · exact wX7_count (by omega) ⟨fun z => absurd z q.1, fun z => absurd z q.2.1, fun z => absurd z q.2.2.1, fun z => absurd z q.2.2.2.1, fun z => absurd z q.2.2.2.2.1, fun z => absurd z q.2.2.2.2.2.1, fun z => absurd z q.2.2.2.2.2.2.1, fun z => absurd z q.2.2.2.2.2.2.2, fun _ => mE 1 (by omega) hR⟩
end
