/-! a block's end, and a whole method -/
section NT
variable {g : Nat} {ev : EV} {μ pc : Nat} {ls st : List Value} {σ : St2} {Post : PO} {Sp : SPT}
abbrev PK (g : Nat) (ev : EV) (μ : Nat) (Post : PO) : Nat → KT := fun pc ls st σ => PW g ev μ pc ls st σ Post
theorem keysUp_at : ∀ (l : List (Int32 × Nat)) (k : Int32), keysUp k l = true → ∀ (i : Nat) (q : Int32 × Nat), l[i]? = some q → q.1 = k + Int32.ofNat i
  | [], k, _, i, q, h => by simp at h
  | p :: l, k, hk, i, q, h => by
    have hk' : (p.1 == k && keysUp (k + 1) l) = true := hk
    simp only [Bool.and_eq_true, beq_iff_eq] at hk'
    cases i with
    | zero => simp at h; subst h; rw [hk'.1]; show _ = _ + 0; rw [Int32.add_zero]
    | succ i =>
      have h2 := keysUp_at l (k + 1) hk'.2 i q (by simpa using h)
      rw [h2, inc_ofNat, Int32.add_assoc, Int32.add_comm 1]
theorem retI {r : Option FieldType} {ty : FieldType} (h : (r == some ty) = true) : r = some ty := beq_iff_eq.mp h
theorem lookup_at {x : Int32} {d : Nat} : ∀ (l : List (Int32 × Nat)), swP (fun pc ls st σ => PW g ev μ pc ls st σ Post) x d ls st σ l → ∃ t : Nat, PW g ev μ t ls st σ Post ∧ Op.lookupswitch.offset (l.map (fun q => (q.1.toInt, (q.2 : Int) - pc))) ((d : Int) - pc) x.toInt = (t : Int) - pc
  | [], h => ⟨d, h, rfl⟩
  | p :: l, h => by
    by_cases e : x = p.1
    · refine ⟨p.2, h.1 e, ?_⟩
      subst e
      simp [Op.lookupswitch.offset]
    · obtain ⟨t, h1, h2⟩ := lookup_at l (h.2 e)
      refine ⟨t, h1, ?_⟩
      rw [← h2, List.map_cons]
      exact lv_osw e rfl
theorem fb_bmod0 {z : Int} (h1 : -2147483648 ≤ z) (h2 : z < 2147483648) : z.bmod (2 ^ 32) = z := by
  rw [Int.bmod_eq_of_le (by omega) (by omega)]
theorem fb_addI0 {x y : Int32} (h1 : -2147483648 ≤ x.toInt + y.toInt) (h2 : x.toInt + y.toInt < 2147483648) : (x + y).toInt = x.toInt + y.toInt := by
  rw [Int32.toInt_add, fb_bmod0 h1 h2]
end NT
section NT2
variable {g : Nat} {ev : EV} {μ pc : Nat} {ls st : List Value} {σ : St2} {Post : PO} {Sp : SPT} {a b c : Nat} {v : Int32} {l : List (Int32 × Nat)}
theorem sT_70 (hc : chkT μ pc (70, a, b, c, v) l = true) (hw : wpT (PK g ev μ Post) Post (70, a, b, c, v) l ls st σ) : PW g ev μ pc ls st σ Post := by
  have hc' : (decIs (mB μ) pc (.goto ((a : Int) - pc), 3) && true) = true := hc
  simp only [Bool.and_true] at hc'
  exact n_goto (dec_out hc') hw
theorem sT_71 (hc : chkT μ pc (71, a, b, c, v) l = true) (hw : wpT (PK g ev μ Post) Post (71, a, b, c, v) l ls st σ) : PW g ev μ pc ls st σ Post := by
  have hc' : ((71 : Nat) == 71 && a == pc) = true := hc
  simp only [beq_self_eq_true, Bool.true_and, beq_iff_eq] at hc'
  subst hc'
  exact hw
theorem sT_72 (hc : chkT μ pc (72, a, b, c, v) l = true) (hw : wpT (PK g ev μ Post) Post (72, a, b, c, v) l ls st σ) : PW g ev μ pc ls st σ Post := by
  rcases st with _ | ⟨w0, st⟩
  · first | exact False.elim hw
  cases w0 <;> first | exact False.elim hw | skip
  rename_i x
  have hc' : (decIs (mB μ) pc (.ifCond .eq ((a : Int) - pc), 3) && (false || b == pc + 3)) = true := hc
  simp only [Bool.and_eq_true, Bool.false_or, beq_iff_eq] at hc'
  exact n_if_eq (dec_out hc'.1) hc'.2 hw.1 hw.2
theorem sT_73 (hc : chkT μ pc (73, a, b, c, v) l = true) (hw : wpT (PK g ev μ Post) Post (73, a, b, c, v) l ls st σ) : PW g ev μ pc ls st σ Post := by
  rcases st with _ | ⟨w0, st⟩
  · first | exact False.elim hw
  cases w0 <;> first | exact False.elim hw | skip
  rename_i x
  have hc' : (decIs (mB μ) pc (.ifCond .ne ((a : Int) - pc), 3) && (false || b == pc + 3)) = true := hc
  simp only [Bool.and_eq_true, Bool.false_or, beq_iff_eq] at hc'
  exact n_if_ne (dec_out hc'.1) hc'.2 hw.1 hw.2
theorem sT_74 (hc : chkT μ pc (74, a, b, c, v) l = true) (hw : wpT (PK g ev μ Post) Post (74, a, b, c, v) l ls st σ) : PW g ev μ pc ls st σ Post := by
  rcases st with _ | ⟨w0, st⟩
  · first | exact False.elim hw
  cases w0 <;> first | exact False.elim hw | skip
  rename_i x
  have hc' : (decIs (mB μ) pc (.ifCond .lt ((a : Int) - pc), 3) && (false || b == pc + 3)) = true := hc
  simp only [Bool.and_eq_true, Bool.false_or, beq_iff_eq] at hc'
  exact n_if_lt (dec_out hc'.1) hc'.2 hw.1 hw.2
theorem sT_75 (hc : chkT μ pc (75, a, b, c, v) l = true) (hw : wpT (PK g ev μ Post) Post (75, a, b, c, v) l ls st σ) : PW g ev μ pc ls st σ Post := by
  rcases st with _ | ⟨w0, st⟩
  · first | exact False.elim hw
  cases w0 <;> first | exact False.elim hw | skip
  rename_i x
  have hc' : (decIs (mB μ) pc (.ifCond .ge ((a : Int) - pc), 3) && (false || b == pc + 3)) = true := hc
  simp only [Bool.and_eq_true, Bool.false_or, beq_iff_eq] at hc'
  exact n_if_ge (dec_out hc'.1) hc'.2 hw.1 hw.2
theorem sT_76 (hc : chkT μ pc (76, a, b, c, v) l = true) (hw : wpT (PK g ev μ Post) Post (76, a, b, c, v) l ls st σ) : PW g ev μ pc ls st σ Post := by
  rcases st with _ | ⟨w0, st⟩
  · first | exact False.elim hw
  cases w0 <;> first | exact False.elim hw | skip
  rename_i x
  have hc' : (decIs (mB μ) pc (.ifCond .gt ((a : Int) - pc), 3) && (false || b == pc + 3)) = true := hc
  simp only [Bool.and_eq_true, Bool.false_or, beq_iff_eq] at hc'
  exact n_if_gt (dec_out hc'.1) hc'.2 hw.1 hw.2
theorem sT_77 (hc : chkT μ pc (77, a, b, c, v) l = true) (hw : wpT (PK g ev μ Post) Post (77, a, b, c, v) l ls st σ) : PW g ev μ pc ls st σ Post := by
  rcases st with _ | ⟨w0, st⟩
  · first | exact False.elim hw
  cases w0 <;> first | exact False.elim hw | skip
  rename_i x
  have hc' : (decIs (mB μ) pc (.ifCond .le ((a : Int) - pc), 3) && (false || b == pc + 3)) = true := hc
  simp only [Bool.and_eq_true, Bool.false_or, beq_iff_eq] at hc'
  exact n_if_le (dec_out hc'.1) hc'.2 hw.1 hw.2
theorem sT_78 (hc : chkT μ pc (78, a, b, c, v) l = true) (hw : wpT (PK g ev μ Post) Post (78, a, b, c, v) l ls st σ) : PW g ev μ pc ls st σ Post := by
  rcases st with _ | ⟨w0, st⟩
  · first | exact False.elim hw
  rcases st with _ | ⟨w1, st⟩
  · first | exact False.elim hw | (cases w0 <;> exact False.elim hw)
  cases w0 <;> first | exact False.elim hw | (cases w1 <;> exact False.elim hw) | skip
  rename_i y
  cases w1 <;> first | exact False.elim hw | skip
  rename_i x
  have hc' : (decIs (mB μ) pc (.if_icmp .eq ((a : Int) - pc), 3) && (false || b == pc + 3)) = true := hc
  simp only [Bool.and_eq_true, Bool.false_or, beq_iff_eq] at hc'
  exact n_icmp_eq (dec_out hc'.1) hc'.2 hw.1 hw.2
theorem sT_79 (hc : chkT μ pc (79, a, b, c, v) l = true) (hw : wpT (PK g ev μ Post) Post (79, a, b, c, v) l ls st σ) : PW g ev μ pc ls st σ Post := by
  rcases st with _ | ⟨w0, st⟩
  · first | exact False.elim hw
  rcases st with _ | ⟨w1, st⟩
  · first | exact False.elim hw | (cases w0 <;> exact False.elim hw)
  cases w0 <;> first | exact False.elim hw | (cases w1 <;> exact False.elim hw) | skip
  rename_i y
  cases w1 <;> first | exact False.elim hw | skip
  rename_i x
  have hc' : (decIs (mB μ) pc (.if_icmp .ne ((a : Int) - pc), 3) && (false || b == pc + 3)) = true := hc
  simp only [Bool.and_eq_true, Bool.false_or, beq_iff_eq] at hc'
  exact n_icmp_ne (dec_out hc'.1) hc'.2 hw.1 hw.2
theorem sT_80 (hc : chkT μ pc (80, a, b, c, v) l = true) (hw : wpT (PK g ev μ Post) Post (80, a, b, c, v) l ls st σ) : PW g ev μ pc ls st σ Post := by
  rcases st with _ | ⟨w0, st⟩
  · first | exact False.elim hw
  rcases st with _ | ⟨w1, st⟩
  · first | exact False.elim hw | (cases w0 <;> exact False.elim hw)
  cases w0 <;> first | exact False.elim hw | (cases w1 <;> exact False.elim hw) | skip
  rename_i y
  cases w1 <;> first | exact False.elim hw | skip
  rename_i x
  have hc' : (decIs (mB μ) pc (.if_icmp .lt ((a : Int) - pc), 3) && (false || b == pc + 3)) = true := hc
  simp only [Bool.and_eq_true, Bool.false_or, beq_iff_eq] at hc'
  exact n_icmp_lt (dec_out hc'.1) hc'.2 hw.1 hw.2
theorem sT_81 (hc : chkT μ pc (81, a, b, c, v) l = true) (hw : wpT (PK g ev μ Post) Post (81, a, b, c, v) l ls st σ) : PW g ev μ pc ls st σ Post := by
  rcases st with _ | ⟨w0, st⟩
  · first | exact False.elim hw
  rcases st with _ | ⟨w1, st⟩
  · first | exact False.elim hw | (cases w0 <;> exact False.elim hw)
  cases w0 <;> first | exact False.elim hw | (cases w1 <;> exact False.elim hw) | skip
  rename_i y
  cases w1 <;> first | exact False.elim hw | skip
  rename_i x
  have hc' : (decIs (mB μ) pc (.if_icmp .ge ((a : Int) - pc), 3) && (false || b == pc + 3)) = true := hc
  simp only [Bool.and_eq_true, Bool.false_or, beq_iff_eq] at hc'
  exact n_icmp_ge (dec_out hc'.1) hc'.2 hw.1 hw.2
theorem sT_82 (hc : chkT μ pc (82, a, b, c, v) l = true) (hw : wpT (PK g ev μ Post) Post (82, a, b, c, v) l ls st σ) : PW g ev μ pc ls st σ Post := by
  rcases st with _ | ⟨w0, st⟩
  · first | exact False.elim hw
  rcases st with _ | ⟨w1, st⟩
  · first | exact False.elim hw | (cases w0 <;> exact False.elim hw)
  cases w0 <;> first | exact False.elim hw | (cases w1 <;> exact False.elim hw) | skip
  rename_i y
  cases w1 <;> first | exact False.elim hw | skip
  rename_i x
  have hc' : (decIs (mB μ) pc (.if_icmp .gt ((a : Int) - pc), 3) && (false || b == pc + 3)) = true := hc
  simp only [Bool.and_eq_true, Bool.false_or, beq_iff_eq] at hc'
  exact n_icmp_gt (dec_out hc'.1) hc'.2 hw.1 hw.2
theorem sT_83 (hc : chkT μ pc (83, a, b, c, v) l = true) (hw : wpT (PK g ev μ Post) Post (83, a, b, c, v) l ls st σ) : PW g ev μ pc ls st σ Post := by
  rcases st with _ | ⟨w0, st⟩
  · first | exact False.elim hw
  rcases st with _ | ⟨w1, st⟩
  · first | exact False.elim hw | (cases w0 <;> exact False.elim hw)
  cases w0 <;> first | exact False.elim hw | (cases w1 <;> exact False.elim hw) | skip
  rename_i y
  cases w1 <;> first | exact False.elim hw | skip
  rename_i x
  have hc' : (decIs (mB μ) pc (.if_icmp .le ((a : Int) - pc), 3) && (false || b == pc + 3)) = true := hc
  simp only [Bool.and_eq_true, Bool.false_or, beq_iff_eq] at hc'
  exact n_icmp_le (dec_out hc'.1) hc'.2 hw.1 hw.2
theorem sT_84 (hc : chkT μ pc (84, a, b, c, v) l = true) (hw : wpT (PK g ev μ Post) Post (84, a, b, c, v) l ls st σ) : PW g ev μ pc ls st σ Post := by
  rcases st with _ | ⟨w, st⟩
  · exact False.elim hw
  rcases st with _ | ⟨w2, st⟩
  rotate_left
  · cases w <;> exact False.elim hw
  cases w <;> first | exact False.elim hw | skip
  rename_i x
  have hc' : (decIs (mB μ) pc (.ireturn, 1) && (mR μ == some .int)) = true := hc
  simp only [Bool.and_eq_true, beq_iff_eq] at hc'
  exact n_iret (dec_out hc'.1) hc'.2 rfl hw
theorem sT_85 (hc : chkT μ pc (85, a, b, c, v) l = true) (hw : wpT (PK g ev μ Post) Post (85, a, b, c, v) l ls st σ) : PW g ev μ pc ls st σ Post := by
  rcases st with _ | ⟨w, st⟩
  · exact False.elim hw
  rcases st with _ | ⟨w2, st⟩
  rotate_left
  · cases w <;> exact False.elim hw
  cases w <;> first | exact False.elim hw | skip
  rename_i x
  have hc' : (decIs (mB μ) pc (.ireturn, 1) && (mR μ == some .boolean)) = true := hc
  simp only [Bool.and_eq_true, beq_iff_eq] at hc'
  exact n_iret (dec_out hc'.1) hc'.2 (by rcases hw.1 with rfl | rfl <;> rfl) hw.2
theorem sT_89 (hc : chkT μ pc (89, a, b, c, v) l = true) (hw : wpT (PK g ev μ Post) Post (89, a, b, c, v) l ls st σ) : PW g ev μ pc ls st σ Post := by
  rcases st with _ | ⟨w, st⟩
  · exact False.elim hw
  rcases st with _ | ⟨w2, st⟩
  rotate_left
  · cases w <;> exact False.elim hw
  cases w <;> first | exact False.elim hw | skip
  rename_i x
  have hc' : (decIs (mB μ) pc (.ireturn, 1) && (mR μ == some .char)) = true := hc
  simp only [Bool.and_eq_true, beq_iff_eq] at hc'
  exact n_iret (dec_out hc'.1) hc'.2 hw.1 hw.2
theorem sT_92 (hc : chkT μ pc (92, a, b, c, v) l = true) (hw : wpT (PK g ev μ Post) Post (92, a, b, c, v) l ls st σ) : PW g ev μ pc ls st σ Post := by
  rcases st with _ | ⟨w, st⟩
  · exact False.elim hw
  rcases st with _ | ⟨w2, st⟩
  rotate_left
  · cases w <;> exact False.elim hw
  cases w <;> first | exact False.elim hw | skip
  rename_i x
  have hc' : (decIs (mB μ) pc (.ireturn, 1) && (mR μ == some .byte)) = true := hc
  simp only [Bool.and_eq_true, beq_iff_eq] at hc'
  exact n_iret (dec_out hc'.1) hc'.2 hw.1 hw.2
theorem sT_86 (hc : chkT μ pc (86, a, b, c, v) l = true) (hw : wpT (PK g ev μ Post) Post (86, a, b, c, v) l ls st σ) : PW g ev μ pc ls st σ Post := by
  rcases st with _ | ⟨w, st⟩
  · exact False.elim hw
  rcases st with _ | ⟨w2, st⟩
  rotate_left
  · cases w <;> exact False.elim hw
  cases w <;> first | exact False.elim hw | skip
  rename_i x
  have hc' : (decIs (mB μ) pc (.lreturn, 1) && (mR μ == some .long)) = true := hc
  simp only [Bool.and_eq_true, beq_iff_eq] at hc'
  exact n_lret (dec_out hc'.1) hc'.2 hw
theorem sT_88 (hc : chkT μ pc (88, a, b, c, v) l = true) (hw : wpT (PK g ev μ Post) Post (88, a, b, c, v) l ls st σ) : PW g ev μ pc ls st σ Post := by
  rcases st with _ | ⟨w, st⟩
  · exact False.elim hw
  rcases st with _ | ⟨w2, st⟩
  rotate_left
  · cases w <;> exact False.elim hw
  cases w <;> first | exact False.elim hw | skip
  rename_i x
  have hc' : (decIs (mB μ) pc (.areturn, 1) && (mR μ == some (.object "java/lang/String"))) = true := hc
  simp only [Bool.and_eq_true, beq_iff_eq] at hc'
  exact n_aret (dec_out hc'.1) hc'.2 hw
theorem sT_87 (hc : chkT μ pc (87, a, b, c, v) l = true) (hw : wpT (PK g ev μ Post) Post (87, a, b, c, v) l ls st σ) : PW g ev μ pc ls st σ Post := by
  rcases st with _ | ⟨w, st⟩
  rotate_left
  · exact False.elim hw
  have hc' : (decIs (mB μ) pc (.return_, 1) && (mR μ == none)) = true := hc
  simp only [Bool.and_eq_true, beq_iff_eq] at hc'
  exact n_vret (dec_out hc'.1) hc'.2 hw
theorem sT_90 (hc : chkT μ pc (90, a, b, c, v) l = true) (hw : wpT (PK g ev μ Post) Post (90, a, b, c, v) l ls st σ) : PW g ev μ pc ls st σ Post := by
  rcases st with _ | ⟨w, st⟩
  · exact False.elim hw
  cases w <;> first | exact False.elim hw | skip
  rename_i x
  rcases l with _ | ⟨⟨k, t0⟩, l'⟩
  · exact absurd hc (by intro h; cases h)
  generalize hl : (k, t0) :: l' = l at hw hc
  have hc' : (decIs (mB μ) pc (.tableswitch ((a : Int) - pc) k.toInt (k.toInt + l.length - 1) ((l.map (fun q => (q.2 : Int) - pc)).toArray), b - pc) && (keysUp ((l.getD 0 (0, 0)).1) l && decide (l.length < 100) && decide (0 ≤ ((l.getD 0 (0, 0)).1).toInt) && decide (((l.getD 0 (0, 0)).1).toInt < 100))) = true := by
    subst hl
    exact hc
  have hk0 : (l.getD 0 (0, 0)).1 = k := by subst hl; rfl
  rw [hk0] at hc'
  simp only [Bool.and_eq_true, decide_eq_true_eq] at hc'
  obtain ⟨hd, ⟨⟨h1, h2⟩, h3⟩, h4⟩ := hc'
  have hkey : ∀ (i : Nat) (q : Int32 × Nat), l[i]? = some q → q.1.toInt = k.toInt + i := by
    intro i q hq
    have hi : i < l.length := (List.getElem?_eq_some_iff.mp hq).1
    rw [keysUp_at l k h1 i q hq]
    have e1 : (Int32.ofNat i).toInt = (i : Int) := nI_toInt (n := i) (by omega)
    rw [fb_addI0 (by rw [e1]; omega) (by rw [e1]; omega), e1]
  rcases sT_sw l hw with ⟨q, hq, hx, hP⟩ | ⟨hn, hP⟩
  · obtain ⟨i, hi⟩ := List.getElem?_of_mem hq
    have hlt : i < l.length := (List.getElem?_eq_some_iff.mp hi).1
    have e := hkey i q hi
    rw [← hx] at e
    refine n_tsw (t := q.2) (dec_out hd) (Or.inr ⟨by omega, by omega, (q.2 : Int) - pc, ?_, by omega⟩) hP
    rw [e, show (k.toInt + (i : Int) - k.toInt).toNat = i by omega]
    simp [hi]
  · refine n_tsw (t := a) (dec_out hd) (Or.inl ⟨?_, by omega⟩) hP
    rcases (show x.toInt < k.toInt ∨ k.toInt ≤ x.toInt by omega) with h | h
    · exact Or.inl h
    · refine Or.inr ?_
      rcases (show k.toInt + l.length - 1 < x.toInt ∨ x.toInt ≤ k.toInt + l.length - 1 by omega) with h5 | h5
      · exact h5
      · exfalso
        have hi : (x.toInt - k.toInt).toNat < l.length := by omega
        have e := hkey (x.toInt - k.toInt).toNat _ (List.getElem?_eq_getElem hi)
        refine hn _ (List.getElem_mem hi) (Int32.toInt_inj.mp ?_)
        rw [e]
        omega
theorem sT_91 (hc : chkT μ pc (91, a, b, c, v) l = true) (hw : wpT (PK g ev μ Post) Post (91, a, b, c, v) l ls st σ) : PW g ev μ pc ls st σ Post := by
  rcases st with _ | ⟨w, st⟩
  · exact False.elim hw
  cases w <;> first | exact False.elim hw | skip
  rename_i x
  have hc' : (decIs (mB μ) pc (.lookupswitch ((a : Int) - pc) ((l.map (fun q => (q.1.toInt, (q.2 : Int) - pc))).toArray), b - pc) && ((l.map (fun q => (q.1.toInt, (q.2 : Int) - pc))).zip ((l.map (fun q => (q.1.toInt, (q.2 : Int) - pc))).drop 1)).all (fun (a, next) => a.1 < next.1)) = true := hc
  simp only [Bool.and_eq_true] at hc'
  obtain ⟨t, h1, h2⟩ := lookup_at (pc := pc) l hw
  exact n_lsw (t := t) (dec_out hc'.1) hc'.2 h2 (by omega) h1
theorem sT_all : ∀ (t : Nat), chkT μ pc (t, a, b, c, v) l = true → wpT (PK g ev μ Post) Post (t, a, b, c, v) l ls st σ → PW g ev μ pc ls st σ Post
  | 0, hc, hw => False.elim hw
  | 1, hc, hw => False.elim hw
  | 2, hc, hw => False.elim hw
  | 3, hc, hw => False.elim hw
  | 4, hc, hw => False.elim hw
  | 5, hc, hw => False.elim hw
  | 6, hc, hw => False.elim hw
  | 7, hc, hw => False.elim hw
  | 8, hc, hw => False.elim hw
  | 9, hc, hw => False.elim hw
  | 10, hc, hw => False.elim hw
  | 11, hc, hw => False.elim hw
  | 12, hc, hw => False.elim hw
  | 13, hc, hw => False.elim hw
  | 14, hc, hw => False.elim hw
  | 15, hc, hw => False.elim hw
  | 16, hc, hw => False.elim hw
  | 17, hc, hw => False.elim hw
  | 18, hc, hw => False.elim hw
  | 19, hc, hw => False.elim hw
  | 20, hc, hw => False.elim hw
  | 21, hc, hw => False.elim hw
  | 22, hc, hw => False.elim hw
  | 23, hc, hw => False.elim hw
  | 24, hc, hw => False.elim hw
  | 25, hc, hw => False.elim hw
  | 26, hc, hw => False.elim hw
  | 27, hc, hw => False.elim hw
  | 28, hc, hw => False.elim hw
  | 29, hc, hw => False.elim hw
  | 30, hc, hw => False.elim hw
  | 31, hc, hw => False.elim hw
  | 32, hc, hw => False.elim hw
  | 33, hc, hw => False.elim hw
  | 34, hc, hw => False.elim hw
  | 35, hc, hw => False.elim hw
  | 36, hc, hw => False.elim hw
  | 37, hc, hw => False.elim hw
  | 38, hc, hw => False.elim hw
  | 39, hc, hw => False.elim hw
  | 40, hc, hw => False.elim hw
  | 41, hc, hw => False.elim hw
  | 42, hc, hw => False.elim hw
  | 43, hc, hw => False.elim hw
  | 44, hc, hw => False.elim hw
  | 45, hc, hw => False.elim hw
  | 46, hc, hw => False.elim hw
  | 47, hc, hw => False.elim hw
  | 48, hc, hw => False.elim hw
  | 49, hc, hw => False.elim hw
  | 50, hc, hw => False.elim hw
  | 51, hc, hw => False.elim hw
  | 52, hc, hw => False.elim hw
  | 53, hc, hw => False.elim hw
  | 54, hc, hw => False.elim hw
  | 55, hc, hw => False.elim hw
  | 56, hc, hw => False.elim hw
  | 57, hc, hw => False.elim hw
  | 58, hc, hw => False.elim hw
  | 59, hc, hw => False.elim hw
  | 60, hc, hw => False.elim hw
  | 61, hc, hw => False.elim hw
  | 62, hc, hw => False.elim hw
  | 63, hc, hw => False.elim hw
  | 64, hc, hw => False.elim hw
  | 65, hc, hw => False.elim hw
  | 66, hc, hw => False.elim hw
  | 67, hc, hw => False.elim hw
  | 68, hc, hw => False.elim hw
  | 69, hc, hw => False.elim hw
  | 70, hc, hw => sT_70 hc hw
  | 71, hc, hw => sT_71 hc hw
  | 72, hc, hw => sT_72 hc hw
  | 73, hc, hw => sT_73 hc hw
  | 74, hc, hw => sT_74 hc hw
  | 75, hc, hw => sT_75 hc hw
  | 76, hc, hw => sT_76 hc hw
  | 77, hc, hw => sT_77 hc hw
  | 78, hc, hw => sT_78 hc hw
  | 79, hc, hw => sT_79 hc hw
  | 80, hc, hw => sT_80 hc hw
  | 81, hc, hw => sT_81 hc hw
  | 82, hc, hw => sT_82 hc hw
  | 83, hc, hw => sT_83 hc hw
  | 84, hc, hw => sT_84 hc hw
  | 85, hc, hw => sT_85 hc hw
  | 86, hc, hw => sT_86 hc hw
  | 87, hc, hw => sT_87 hc hw
  | 88, hc, hw => sT_88 hc hw
  | 89, hc, hw => sT_89 hc hw
  | 90, hc, hw => sT_90 hc hw
  | 91, hc, hw => sT_91 hc hw
  | 92, hc, hw => sT_92 hc hw
  | _ + 93, _, hw => False.elim hw
theorem sT {t : RI} (hc : chkT μ pc t l = true) (hw : wpT (PK g ev μ Post) Post t l ls st σ) : PW g ev μ pc ls st σ Post := by
  obtain ⟨t, a, b, c, v⟩ := t
  exact sT_all t hc hw
end NT2
/-- A BLOCK: at its first place, its weakest precondition is enough -/
theorem PW_blk {g : Nat} {ev : EV} {μ pc : Nat} {ls st : List Value} {σ : St2} {Post : PO} {Sp : SPT} {cf : List BK} {L : List RI} {t : RI} {l : List (Int32 × Nat)} (hok : chkM μ cf = true) (i : Nat) (hi : cf[i]? = some (pc, L, t, l)) (hSp : ∀ y as σ K, Sp y as σ K → Rn g ev y as σ K)
    (hw : wpL g Sp L ls st σ (fun ls st σ => wpT (PK g ev μ Post) Post t l ls st σ)) : PW g ev μ pc ls st σ Post := by
  have h1 := List.all_eq_true.mp hok _ (List.mem_of_getElem? hi)
  unfold chkB at h1
  split at h1
  next q hq => exact sL hSp L pc ls st σ q hq hw (fun ls st σ h => sT h1 h)
  next => cases h1
/-- fewer locals are enough -/
theorem PW_loc {g : Nat} {ev : EV} {μ pc : Nat} {ls : List Value} (n : Nat) {st : List Value} {σ : St2} {Post : PO} (h : PW g ev μ pc (ls.take n) st σ Post) : PW g ev μ pc ls st σ Post := fun p l e s m args below meth cd H locs ms C hH hS hl => by
  refine h p l e s m args below meth cd H locs ms C hH hS ⟨hl.1, hl.2.1, fun q hq => hl.2.2 q ?_⟩
  have key : ∀ (ls : List Value) (n b : Nat) (q : Nat × Value), q ∈ lv_args b ((ls.take n).map (mv ev)) → q ∈ lv_args b (ls.map (mv ev)) := by
    intro ls
    induction ls with
    | nil => intro n b q h; simpa using h
    | cons v ls ih =>
      intro n b q h
      cases n with
      | zero => cases h
      | succ n =>
        rw [List.take_succ_cons, List.map_cons, la_cons] at h
        rw [List.map_cons, la_cons]
        rcases List.mem_cons.mp h with rfl | h
        · exact List.mem_cons_self
        · exact List.mem_cons_of_mem _ (ih n _ q h)
  exact key ls n 0 q hq
/-- a method's contract out of its walk -/
theorem Rn_of {g : Nat} {ev : EV} {μ : Nat} {as : List Value} {σ : St2} {K : PO} (hμ : μ < 256) (h1 : mS μ = false → ∃ (k : Nat) (as' : List Value), as = .ref k :: as' ∧ rcv g (mC μ) k) (h2 : as.length = mA μ) (h3 : (lg_sl as).length ≤ mX μ) (h : PW g ev μ 0 as [] σ K) : Rn g ev μ as σ K := by
  obtain ⟨a1, a2, a3, a4, a5, a6⟩ := meth_a_use hμ
  have h3' : (lg_sl (as.map (mv ev))).length ≤ mX μ := by
    have e : (lg_sl (as.map (mv ev))).length = (lg_sl as).length := by
      clear h1 h2 h3 h
      induction as with
      | nil => rfl
      | cons v as ih =>
        have e1 : ∀ (w : Value) (l : List Value), (lg_sl (w :: l)).length = w.category + (lg_sl l).length := by
          intro w l
          show (List.flatMap _ (w :: l)).length = _
          rw [List.flatMap_cons, List.length_append]
          rcases lv_cat w with z | z <;> rw [z] <;> rfl
        rw [List.map_cons, e1, e1, mv_cat, ih]
    rw [e]
    exact h3
  refine ⟨h1, h2, fun l => Met.ofW (cc := mB μ) (maxL := mX μ) (ret := mR μ) a4 rfl ?_⟩
  intro p e s m args below meth c s₁ B hml hv
  obtain ⟨rfl, hH, hI, hK, hE⟩ := hv
  have hown := findClass_of_methodNamed B.named
  rw [a1] at hown
  have C : Cx g ev μ p s m ((as.map (mv ev)).toArray) meth c := ⟨B.exec, B.bytes, B.returns, hml, hown, atoms_spec (ws := wsM μ) B.pre, B.notSynchronized, hI, hK, hE⟩
  rw [lg_entry_eq]
  exact h p l e s m _ below meth c s.heap [] _ C hH va_S.rf (lv_entry (as.map (mv ev)) h3')
