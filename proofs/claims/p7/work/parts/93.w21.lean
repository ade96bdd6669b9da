/-! THE CLASS READS A LAW, further -/
section RS10
variable {dd n so m f : Nat} {b : Nat → Nat} {ml se ro fa pl : Value}
theorem c_B_ok (hn : n ≤ 300) (hso : so < 100) : ∀ f, c_B b n so m dd ml se ro fa pl f := by
  intro f
  induction f with
  | zero =>
    refine ⟨?_, ?_, ?_, ?_, ?_, ?_⟩
    · intro _ _ _ _ _ _ _ _ hf; omega
    · intro _ _ _ _ _ _ _ _ hf; omega
    · intro _ _ _ _ _ _ _ _ hf; omega
    · intro _ _ _ _ _ _ _ _ hf; omega
    · intro _ _ _ _ _ _ _ _ hf; omega
    · intro _ _ _ _ _ _ _ _ _ hf; omega
  | succ f ih => exact ⟨c_B0_ok hn hso ih, c_B1_ok hn hso ih, c_B2_ok hn hso ih, c_B4_ok hn hso ih, c_B5_ok hn hso ih, c_B6_ok hn hso ih⟩
end RS10
