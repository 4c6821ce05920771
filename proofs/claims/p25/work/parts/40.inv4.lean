/-! the first message on its way may be taken out before it arrives as well as after -/
def hdM (x : Mg) (m : MS) : MS := sM m (x :: m.2.2.2.2)
theorem hd_post {x : Mg} {m : MS} {k g : Int32} {f t : Nat} {e : Option Nat} (h : x.1 4 ≤ m.1 0 + m.2.1 (f * 7 + t)) : mPost (hdM x m) k f t g e = hdM x (mPost m k f t g e) := by
  show sM (hdM x m) (ins (mg k (nI f) (nI t) g (m.1 0 + m.2.1 (f * 7 + t)), e) (x :: m.2.2.2.2)) = _
  rw [ins_cons (show x.1 4 ≤ (mg k (nI f) (nI t) g (m.1 0 + m.2.1 (f * 7 + t)), e).1 4 from h)]
  rfl
theorem hd_sendF {E : EE} {Gd : Nat → Prop} {x : Mg} {m : MS} {h : Nat} (hE : EOk E Gd) (hh : h < 6) (hq : ∀ e ∈ m.2.2.2.1 h, Gd e) (hx : ∀ k, k < 49 → x.1 4 ≤ m.1 0 + m.2.1 k) : mSendF E h (hdM x m) = hdM x (mSendF E h m) := by
  cases hc : m.2.2.2.1 h with
  | nil =>
    have e1 : mSendF E h m = m := by unfold mSendF; rw [hc]
    have e2 : mSendF E h (hdM x m) = hdM x m := by
      unfold mSendF
      rw [show (hdM x m).2.2.2.1 h = [] from hc]
    rw [e1, e2]
  | cons a q =>
    have ha := (hE a (hq a (by rw [hc]; exact List.mem_cons_self))).1
    have e1 : mSendF E h m = mPost (sQ (sH (sH m h 1 (m.2.2.1 h 1 - m.2.2.1 h 1 / 2)) h 7 (m.2.2.1 h 7 + 1)) h q) 0 h (E.1 a) (m.2.2.1 h 1 / 2) (some a) := by unfold mSendF; rw [hc]
    have e2 : mSendF E h (hdM x m) = mPost (hdM x (sQ (sH (sH m h 1 (m.2.2.1 h 1 - m.2.2.1 h 1 / 2)) h 7 (m.2.2.1 h 7 + 1)) h q)) 0 h (E.1 a) (m.2.2.1 h 1 / 2) (some a) := by
      unfold mSendF
      rw [show (hdM x m).2.2.2.1 h = a :: q from hc]
      rfl
    rw [e1, e2, hd_post]
    exact hx (h * 7 + E.1 a) (by omega)
theorem sendF_zw (E : EE) (h : Nat) (m : MS) : (mSendF E h m).1 = m.1 ∧ (mSendF E h m).2.1 = m.2.1 := by
  unfold mSendF
  split <;> exact ⟨rfl, rfl⟩
theorem sendF_q {E : EE} {Gd : Nat → Prop} {h : Nat} {m : MS} (hq : ∀ e ∈ m.2.2.2.1 h, Gd e) : ∀ e ∈ (mSendF E h m).2.2.2.1 h, Gd e := by
  intro e he
  cases hc : m.2.2.2.1 h with
  | nil =>
    have e1 : mSendF E h m = m := by unfold mSendF; rw [hc]
    rw [e1] at he
    exact hq e he
  | cons a q =>
    rw [mSendF_q hc] at he
    exact hq e (by rw [hc]; exact List.mem_cons_of_mem _ he)
theorem hd_sendL {E : EE} {Gd : Nat → Prop} {x : Mg} {h : Nat} (hE : EOk E Gd) (hh : h < 6) (c : Nat) : ∀ (m : MS), (∀ e ∈ m.2.2.2.1 h, Gd e) → (∀ k, k < 49 → x.1 4 ≤ m.1 0 + m.2.1 k) → mSendL E h c (hdM x m) = hdM x (mSendL E h c m) := by
  induction c with
  | zero => intro m _ _; rfl
  | succ c ih =>
    intro m hq hx
    show (if 2 * m.1 2 ≤ m.2.2.1 h 1 then mSendL E h c (mSendF E h (hdM x m)) else hdM x m) = hdM x (if 2 * m.1 2 ≤ m.2.2.1 h 1 then mSendL E h c (mSendF E h m) else m)
    split
    · rw [hd_sendF hE hh hq hx]
      refine ih _ (sendF_q hq) ?_
      rw [(sendF_zw E h m).1, (sendF_zw E h m).2]
      exact hx
    · rfl
theorem sendL_zw (E : EE) (h c : Nat) : ∀ (m : MS), (mSendL E h c m).1 = m.1 ∧ (mSendL E h c m).2.1 = m.2.1 := by
  induction c with
  | zero => intro m; exact ⟨rfl, rfl⟩
  | succ c ih =>
    intro m
    show (if 2 * m.1 2 ≤ m.2.2.1 h 1 then mSendL E h c (mSendF E h m) else m).1 = m.1 ∧ (if 2 * m.1 2 ≤ m.2.2.1 h 1 then mSendL E h c (mSendF E h m) else m).2.1 = m.2.1
    split
    · exact ⟨(ih _).1.trans (sendF_zw E h m).1, (ih _).2.trans (sendF_zw E h m).2⟩
    · exact ⟨rfl, rfl⟩
theorem hd_ask {x : Mg} {h : Nat} {m : MS} (hh : h < 6) (hx : ∀ k, k < 49 → x.1 4 ≤ m.1 0 + m.2.1 k) : mAsk h (hdM x m) = hdM x (mAsk h m) := by
  have e : mAsk h (hdM x m) = if 0 < m.2.2.1 h 3 ∧ m.2.2.1 h 4 = 0 then mPost (hdM x (sH (sH m h 4 1) h 8 (m.2.2.1 h 8 + 1))) 1 h 6 0 none else hdM x m := rfl
  rw [e]
  unfold mAsk
  split
  · rw [hd_post]
    exact hx (h * 7 + 6) (by omega)
  · rfl
theorem hd_send {E : EE} {Gd : Nat → Prop} {x : Mg} {h : Nat} {m : MS} (hE : EOk E Gd) (hh : h < 6) (hq : ∀ e ∈ m.2.2.2.1 h, Gd e) (hx : ∀ k, k < 49 → x.1 4 ≤ m.1 0 + m.2.1 k) : mSend E h (hdM x m) = hdM x (mSend E h m) := by
  show mAsk h (mSendL E h (m.2.2.2.1 h).length (hdM x m)) = hdM x (mAsk h (mSendL E h (m.2.2.2.1 h).length m))
  rw [hd_sendL hE hh _ m hq hx]
  refine hd_ask hh ?_
  rw [(sendL_zw E h _ m).1, (sendL_zw E h _ m).2]
  exact hx
