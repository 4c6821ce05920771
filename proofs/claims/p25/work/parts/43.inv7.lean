/-- an arrival has room -/
theorem Inv.arrOk {E : EE} {Gd : Nat → Prop} {T B : Nat} {b : Nat → Nat} {x : Mg} {m : MS} (hI : Inv E Gd T B b (hdM x m)) (hE : EOk E Gd) (hB : B ≤ T) : ArrOk E Gd x (hdM x m) := by
  have ht := hI.tl
  have hx := (hI.2.2.2.1 x List.mem_cons_self).1
  have hal : sz E x.2 + mAll E m ≤ 80 := by rw [← all_hd]; exact hI.2.2.2.2.1
  have c1 := ht.cap hE hB
  have c2 := hI.cap hE hB
  have e2 : sumM E (hdM x m).2.2.2.2 = sz E x.2 + sumM E m.2.2.2.2 := by
    show sumM E (x :: m.2.2.2.2) = _
    unfold sumM
    rw [List.map_cons, List.sum_cons]
  have el : (hdM x m).2.2.2.2.length = m.2.2.2.2.length + 1 := rfl
  have hQ : ∀ h, h < 6 → (m.2.2.2.1 h).length ≤ sumQ E m.2.2.2.1 6 := fun h hh => by
    rw [sumQ_s6]
    exact Nat.le_trans (hE.line (ht.2.2.1 h hh)) (s6_one (f := fun h => ((m.2.2.2.1 h).map E.2.2.1).sum) hh)
  unfold mAll at hal
  refine ⟨hx, by omega, fun h hh => ?_, fun a ha t ht6 _ => ?_, ht.2.2.1⟩
  · have := hQ h hh
    show (hdM x m).2.2.2.2.length + (m.2.2.2.1 h).length ≤ 141
    omega
  · have h1 := hQ t ht6
    have hga : Gd a := by
      obtain ⟨f, t', -, -, -, -, hk⟩ := hx
      rcases hk with ⟨-, -, a', ha', hg⟩ | ⟨-, -, hn⟩ | ⟨-, -, hn⟩ | ⟨-, -, hn⟩
      · rw [ha] at ha'; rw [Option.some.inj ha']; exact hg
      · rw [ha] at hn; cases hn
      · rw [ha] at hn; cases hn
      · rw [ha] at hn; cases hn
    have h2 := hE.kids hga
    have h3 : sz E x.2 = E.2.2.1 a := by rw [ha]; rfl
    show (m.2.2.2.1 t).length + (E.2.2.2 a).length ≤ 80 ∧ (hdM x m).2.2.2.2.length + (m.2.2.2.1 t).length + (E.2.2.2 a).length ≤ 141
    constructor <;> omega
