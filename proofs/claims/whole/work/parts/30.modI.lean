/-! S with one number changed -/
theorem rg_ne {S : Nat → Int32} {i j m : Nat} {v : Int32} (h : j ≠ i) (hr : rg S j m) : rg (upd S i v) j m := by
  unfold rg nv at *
  rw [updN h]
  exact hr
theorem nv_ne {S : Nat → Int32} {i j : Nat} {v : Int32} (h : j ≠ i) : nv (upd S i v) j = nv S j := by
  unfold nv
  rw [updN h]
theorem nv_eq {S : Nat → Int32} {i n : Nat} (h : n < 2147483648) : nv (upd S i (nI n)) i = n := nv_of updS h
theorem rg_eq {S : Nat → Int32} {i n m : Nat} (h : n ≤ m) (hm : m < 2147483648) : rg (upd S i (nI n)) i m := rg_of updS h hm
theorem rg_up {S : Nat → Int32} {i j n m m' : Nat} (hr : rg S j m) (h : j = i → n ≤ m) (hm : m < 2147483648) : rg (upd S i (nI n)) j m := by
  by_cases e : j = i
  · subst e; exact rg_eq (h rfl) hm
  · exact rg_ne e hr
theorem InvK_ne {S : Nat → Int32} {i k : Nat} {v : Int32} (h : ∀ f, f < 10 → tr k f ≠ i) (hk : InvK S k) : InvK (upd S i v) k := by
  obtain ⟨a, ⟨b, b'⟩, c, d, e, f, g, h1, h2, h3⟩ := hk
  exact ⟨rg_ne (h _ (by decide)) a, ⟨rg_ne (h _ (by decide)) b, by rw [nv_ne (h _ (by decide))]; exact b'⟩, rg_ne (h _ (by decide)) c, rg_ne (h _ (by decide)) d, rg_ne (h _ (by decide)) e, rg_ne (h _ (by decide)) f, rg_ne (h _ (by decide)) g, rg_ne (h _ (by decide)) h1, rg_ne (h _ (by decide)) h2, rg_ne (h _ (by decide)) h3⟩
theorem Inv_rule {S : Nat → Int32} (hI : Inv S) {w n : Nat} (hw : w ≤ 4) (hn : n ≤ mostR S w) : Inv (upd S (4 + w) (nI n)) := by
  have h10 := hI.1.2
  have hp := p2le _ h10
  have h1 := Nat.two_pow_pos (nv S 3)
  obtain ⟨a, b, c, d, e, ⟨f, f'⟩, g, h, i, j⟩ := hI
  have e3 : nv (upd S (4 + w) (nI n)) 3 = nv S 3 := nv_ne (by omega)
  unfold mostR at hn
  refine ⟨rg_ne (by omega) a, ⟨rg_ne (by omega) b.1, by rw [e3, nv_ne (by omega)]; exact b.2⟩, rg_ne (by omega) c, ?_, ?_, ⟨?_, ?_⟩, ?_, ?_, ?_, ?_⟩
  · exact rg_up (m' := 0) d (fun z => by rw [if_pos (by omega)] at hn; exact hn) (by decide)
  · exact rg_up (m' := 0) e (fun z => by rw [if_neg (by omega), if_pos (by omega)] at hn; exact hn) (by decide)
  · exact rg_up (m' := 0) f (fun z => by rw [if_neg (by omega), if_neg (by omega), if_pos (by omega)] at hn; omega) (by decide)
  · rw [e3]
    by_cases z : w = 2
    · subst z
      rw [if_neg (by omega), if_neg (by omega), if_pos (by omega)] at hn
      rw [nv_eq (by omega)]; omega
    · rw [nv_ne (by omega)]; exact f'
  · exact rg_up (m' := 0) g (fun z => by rw [if_neg (by omega), if_neg (by omega), if_neg (by omega)] at hn; exact hn) (by decide)
  · exact rg_up (m' := 0) h (fun z => by rw [if_neg (by omega), if_neg (by omega), if_neg (by omega)] at hn; exact hn) (by decide)
  · rw [e3]
    exact fun k hk => InvK_ne (fun q _ => by unfold tr; omega) (i k hk)
  · rw [e3]
    intro q hq
    rw [updN (by omega)]
    exact j q hq
theorem tr_inj {k k' f f' : Nat} (hf : f < 10) (hf' : f' < 10) (h : tr k f = tr k' f') : k = k' ∧ f = f' := by unfold tr at h; omega
def mostB (w : Nat) : Nat := if w = 0 then 6 else if w = 1 then 60 else if w = 2 then 9 else if w = 3 then 40 else if w = 4 then 3 else if w = 5 then 2 else if w = 6 then 4 else if w = 7 then 9 else 1023
theorem InvK_up {S : Nat → Int32} {k w n : Nat} (hw : w ≤ 9) (h1 : leastN w ≤ n) (h2 : n ≤ mostB w) (hk : InvK S k) : InvK (upd S (tr k w) (nI n)) k := by
  have ne : ∀ f, f < 10 → f ≠ w → tr k f ≠ tr k w := fun f hf h e => h (tr_inj hf (by omega) e).2
  obtain ⟨a, ⟨b, b'⟩, c, d, e, f, g, h, i, j⟩ := hk
  unfold mostB at h2
  unfold leastN at h1
  have up : ∀ {x m : Nat}, x < 10 → rg S (tr k x) m → m < 2147483648 → (x = w → n ≤ m) → rg (upd S (tr k w) (nI n)) (tr k x) m := fun {x m} hx hr hm hc => by
    by_cases z : x = w
    · subst z; exact rg_eq (hc rfl) hm
    · exact rg_ne (ne x hx z) hr
  refine ⟨up (by decide) a (by decide) (fun z => ?_), ⟨up (by decide) b (by decide) (fun z => ?_), ?_⟩, up (by decide) c (by decide) (fun z => ?_), up (by decide) d (by decide) (fun z => ?_), up (by decide) e (by decide) (fun z => ?_), up (by decide) f (by decide) (fun z => ?_), up (by decide) g (by decide) (fun z => ?_), up (by decide) h (by decide) (fun z => ?_), up (by decide) i (by decide) (fun z => ?_), up (by decide) j (by decide) (fun z => ?_)⟩
  · subst z; exact h2
  · subst z; exact h2
  · by_cases z : w = 1
    · subst z
      rw [nv_eq (by rw [if_neg (by decide), if_pos rfl] at h2; omega)]
      exact h1
    · rw [nv_ne (fun q => z ((tr_inj (by decide) (by omega) q).2).symm)]
      exact b'
  all_goals subst z
  · exact h2
  · exact h2
  · exact h2
  · exact h2
  · exact h2
  · exact h2
  · exact h2
  · exact h2
theorem Inv_changeB {S : Nat → Int32} (hI : Inv S) {k w n : Nat} (hk : k < nv S 3) (hw : w ≤ 9) (h1 : leastN w ≤ n) (h2 : n ≤ mostB w) : Inv (upd S (tr k w) (nI n)) := by
  have h10 := hI.1.2
  have ne : ∀ i, i < 10 → i ≠ tr k w := fun i hi => by unfold tr; omega
  have ne2 : ∀ i, i < 10 → 110 + i ≠ tr k w := fun i hi => by unfold tr; omega
  obtain ⟨a, b, c, d, e, ⟨f, f'⟩, g, h, i, j⟩ := hI
  have e3 : nv (upd S (tr k w) (nI n)) 3 = nv S 3 := nv_ne (ne 3 (by decide))
  refine ⟨rg_ne (ne _ (by decide)) a, ⟨rg_ne (ne _ (by decide)) b.1, by rw [e3, nv_ne (ne _ (by decide))]; exact b.2⟩, rg_ne (ne _ (by decide)) c, rg_ne (ne _ (by decide)) d, rg_ne (ne _ (by decide)) e, ⟨rg_ne (ne _ (by decide)) f, by rw [e3, nv_ne (ne _ (by decide))]; exact f'⟩, rg_ne (ne _ (by decide)) g, rg_ne (ne _ (by decide)) h, ?_, ?_⟩
  · rw [e3]
    intro q hq
    by_cases z : q = k
    · subst z
      exact InvK_up hw h1 h2 (i q hq)
    · exact InvK_ne (fun x _ => by unfold tr; omega) (i q hq)
  · rw [e3]
    intro q hq
    rw [updN (ne2 q hq)]
    exact j q hq
theorem Inv_change {S : Nat → Int32} (hI : Inv S) {k w n : Nat} (hk : k < nv S 3) (hw : w ≤ 9) (h1 : leastN w ≤ n) (h2 : n ≤ mostN S w) : Inv (upd S (tr k w) (nI n)) := by
  refine Inv_changeB hI hk hw h1 (Nat.le_trans h2 ?_)
  have := p2le _ hI.1.2
  unfold mostN mostB
  repeat' split
  all_goals omega
