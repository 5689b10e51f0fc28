/-- an end that is known: the answer, the heap -/
def pb_E (vo : Option Value) (h2 : pb_H) : Option Value → pb_H → Prop := fun v h' => v = vo ∧ h' = h2
section PBE
variable {Z : pb_Z} {y : pb_M} {d k n : Nat} {post : Option Value → pb_H → Prop} {pc : Nat} {lv : List (Option Value)} {st : List Value} {h : pb_H}
theorem pb_kE {x : Value} {rest : List Value} {h2 : pb_H} (kk : pb_S Z y d k n post pc lv (x :: rest) h2) : ∀ v h', pb_E (some x) h2 v h' → (∀ b, h b ≠ none → h' b ≠ none) → pb_S Z y d k n post pc lv (v.toList ++ rest) h' := fun v h' q _ => by
  obtain ⟨rfl, rfl⟩ := q
  exact kk
theorem pb_kV {rest : List Value} {h2 : pb_H} (kk : pb_S Z y d k n post pc lv rest h2) : ∀ v h', pb_E none h2 v h' → (∀ b, h b ≠ none → h' b ≠ none) → pb_S Z y d k n post pc lv (v.toList ++ rest) h' := fun v h' q _ => by
  obtain ⟨rfl, rfl⟩ := q
  exact kk
/-- an answer that is one of two -/
def pb_B (P : Prop) (h2 : pb_H) : Option Value → pb_H → Prop := fun v h' => ((v = some (.int 1) ∧ P) ∨ (v = some (.int 0) ∧ ¬ P)) ∧ h' = h2
theorem pb_kB {P : Prop} {rest : List Value} {h2 : pb_H} (kt : P → pb_S Z y d k n post pc lv (.int 1 :: rest) h2) (kf : ¬ P → pb_S Z y d k n post pc lv (.int 0 :: rest) h2) : ∀ v h', pb_B P h2 v h' → (∀ b, h b ≠ none → h' b ≠ none) → pb_S Z y d k n post pc lv (v.toList ++ rest) h' := fun v h' q _ => by
  obtain ⟨⟨rfl, q⟩ | ⟨rfl, q⟩, rfl⟩ := q
  · exact kt q
  · exact kf q
theorem pb_mono {av : List Value} {post' : Option Value → pb_H → Prop} (hT : pb_T Z y d k n av h post) (hp : ∀ v h', post v h' → post' v h') : pb_T Z y d k n av h post' := fun ρ0 => by
  intro p e ha hc hk s m args below hf hq hP hK
  obtain ⟨k9, o, h1, h2, h3, ⟨v, ρ, h', q1, q2, q3, q4, q5⟩, h4⟩ := hT ρ0 p e ha hc hk s m args below hf hq hP hK
  exact ⟨k9, o, h1, h2, h3, ⟨v, ρ, h', q1, q2, q3, q4, hp v h' q5⟩, h4⟩
end PBE

