/-! THE TYPED HEAP: what stands from the law's beginning (prototypes), getters, setters and their laws -/
def VK (p v : Value) : Prop := match p, v with
  | .int _, .int _ => True
  | .long _, .long _ => True
  | .ref a, .ref b => a = b
  | .null, .ref _ => True
  | _, _ => False
def SA (p : AC) (c : Option AC) : Prop := match p with
  | .inr (ci, ps) => ∃ fs, c = some (.inr (ci, fs)) ∧ fs.length = ps.length ∧ ∀ (k : Nat) (w : Value), ps[k]? = some w → ∃ v : Value, fs[k]? = some v ∧ VK w v
  | .inl (ty, n, .inl _) => ∃ f, c = some (.inl (ty, n, .inl f))
  | .inl (ty, n, .inr (.inl _)) => ∃ f, c = some (.inl (ty, n, .inr (.inl f)))
  | .inl (ty, n, .inr (.inr (.inr (.inr g)))) => ∃ f, c = some (.inl (ty, n, .inr (.inr (.inr (.inr f))))) ∧ ∀ i, i < n → g i = none ∨ f i = g i
  | _ => False
def PL : List AC := [cO 11 [.ref 1, .ref 5, .int 0, .int 0, .ref 6, .ref 15, .int 0, .ref 16, .ref 18, .int 0, .ref 22, .ref 23, .ref 42, .ref 43, .ref 44, .ref 45, .ref 51, .ref 56, .ref 57, .int 0],
  cO 6 [.ref 2, .int 0, .int 0, .int 0, .int 0, .int 0, .ref 3, .int 0, .ref 4, .int 0],
  cI 100 (fun _ => 0),
  cI 60 (fun _ => 0),
  cI 60 (fun _ => 0),
  cR "RoundMaps$MapText" 4 (fun _ => none),
  cO 7 [.ref 7, .ref 8, .ref 9, .ref 10, .int 0, .int 0, .ref 11, .ref 12, .ref 13, .ref 14, .int 0, .int 0, .long 0, .long 0, .long 0, .long 0, .long 0, .long 0],
  cJ 6 (fun _ => 0),
  cJ 6 (fun _ => 0),
  cJ 61 (fun _ => 0),
  cJ 61 (fun _ => 0),
  cJ 61 (fun _ => 0),
  cJ 61 (fun _ => 0),
  cZ 61 (fun _ => 0),
  cI 61 (fun _ => 0),
  cI 20 (fun _ => 0),
  cO 8 [.ref 17, .int 0],
  cI 128 (fun _ => 0),
  cO 3 [.int 0, .ref 19, .ref 20, .ref 21, .int 0, .long 0, .long 0, .long 0, .long 0],
  cO 0 [.long 0, .long 0, .int 0],
  cO 0 [.long 0, .long 0, .int 0],
  cI 128 (fun _ => 0),
  cR "RoundMaps$Net" 4 (fun i => [58, 62, 66, 70][i]?),
  cO 10 [.ref 24, .ref 28, .ref 29, .int 0, .int 0, .null, .null, .null],
  cO 5 [.ref 25, .ref 26, .ref 27, .int 0],
  cJ 128 (fun _ => 0),
  cJ 128 (fun _ => 0),
  cO 2 [.long 0, .long 0],
  cI 128 (fun _ => 0),
  cI 128 (fun _ => 0),
  cO 5 [.ref 31, .ref 32, .ref 33, .int 0],
  cJ 128 (fun _ => 0),
  cJ 128 (fun _ => 0),
  cO 2 [.long 0, .long 0],
  cO 5 [.ref 35, .ref 36, .ref 37, .int 0],
  cJ 128 (fun _ => 0),
  cJ 128 (fun _ => 0),
  cO 2 [.long 0, .long 0],
  cO 5 [.ref 39, .ref 40, .ref 41, .int 0],
  cJ 128 (fun _ => 0),
  cJ 128 (fun _ => 0),
  cO 2 [.long 0, .long 0],
  cR "RoundMaps$Cells" 4 (fun i => [74, 75, 76, 77][i]?),
  cO 2 [.long 0, .long 0],
  cO 2 [.long 0, .long 0],
  cO 1 [.ref 46, .ref 47, .int 0, .ref 48, .null, .null],
  cI 6 (fun _ => 0),
  cI 6 (fun _ => 0),
  cZ 36 (fun _ => 0),
  cJ 6 (fun _ => 0),
  cJ 6 (fun _ => 0),
  cO 9 [.ref 52, .int 0, .int 0, .ref 53, .ref 54, .ref 55],
  cI 4 (fun _ => 0),
  cI 128 (fun _ => 0),
  cI 128 (fun _ => 0),
  cO 2 [.long 0, .long 0],
  cI 128 (fun _ => 0),
  cI 12 (fun _ => 0),
  cO 5 [.ref 59, .ref 60, .ref 61, .int 0],
  cJ 128 (fun _ => 0),
  cJ 128 (fun _ => 0),
  cO 2 [.long 0, .long 0],
  cO 5 [.ref 63, .ref 64, .ref 65, .int 0],
  cJ 128 (fun _ => 0),
  cJ 128 (fun _ => 0),
  cO 2 [.long 0, .long 0],
  cO 5 [.ref 67, .ref 68, .ref 69, .int 0],
  cJ 128 (fun _ => 0),
  cJ 128 (fun _ => 0),
  cO 2 [.long 0, .long 0],
  cO 5 [.ref 71, .ref 72, .ref 73, .int 0],
  cJ 128 (fun _ => 0),
  cJ 128 (fun _ => 0),
  cO 2 [.long 0, .long 0],
  cO 2 [.long 0, .long 0],
  cO 2 [.long 0, .long 0],
  cO 2 [.long 0, .long 0],
  cO 2 [.long 0, .long 0],
  cO 12 [.int 0, .ref 79, .int 0, .int 0, .int 0, .int 0, .int 0, .int 0, .ref 80, .ref 81, .ref 82, .ref 83, .ref 84, .ref 85, .ref 86, .ref 87, .ref 88, .ref 89, .int 0, .ref 90, .int 0, .ref 91, .ref 92, .ref 93, .ref 94, .ref 95, .ref 96, .int 0, .long 0, .long 0, .long 0, .long 0, .long 0, .long 0, .int 0, .ref 97, .int 0, .int 0, .int 0, .int 0, .int 0, .int 0, .int 0, .int 0, .ref 98, .ref 99, .ref 100, .ref 101, .ref 102, .ref 103, .ref 104, .long 0, .long 0, .long 0, .long 0, .int 0, .ref 105, .int 0, .int 0, .int 0, .int 0, .int 0, .ref 106, .ref 107, .ref 108, .ref 109, .ref 110, .ref 111, .ref 112, .ref 113, .ref 114, .int 0, .ref 115, .ref 116],
  cI 100 (fun _ => 0),
  cI 5 (fun _ => 0),
  cI 310 (fun _ => 0),
  cI 310 (fun _ => 0),
  cI 310 (fun _ => 0),
  cI 310 (fun _ => 0),
  cI 310 (fun _ => 0),
  cI 5 (fun _ => 0),
  cI 5 (fun _ => 0),
  cJ 6 (fun _ => 0),
  cJ 6 (fun _ => 0),
  cI 4 (fun _ => 0),
  cI 20 (fun _ => 0),
  cJ 310 (fun _ => 0),
  cJ 310 (fun _ => 0),
  cJ 310 (fun _ => 0),
  cJ 310 (fun _ => 0),
  cZ 310 (fun _ => 0),
  cI 128 (fun _ => 0),
  cZ 16384 (fun _ => 0),
  cZ 128 (fun _ => 0),
  cZ 16384 (fun _ => 0),
  cZ 512 (fun _ => 0),
  cZ 128 (fun _ => 0),
  cI 128 (fun _ => 0),
  cI 128 (fun _ => 0),
  cZ 128 (fun _ => 0),
  cI 6 (fun _ => 0),
  cI 6 (fun _ => 0),
  cZ 36 (fun _ => 0),
  cJ 6 (fun _ => 0),
  cJ 6 (fun _ => 0),
  cI 128 (fun _ => 0),
  cI 128 (fun _ => 0),
  cZ 128 (fun _ => 0),
  cI 128 (fun _ => 0),
  cI 12 (fun _ => 0),
  cI 128 (fun _ => 0),
  cJ 1 (fun _ => 0)]
def SH (h : AH) : Prop := 118 ≤ h.1 ∧ ∀ a p, PL[a]? = some p → SA p (ag h a)
def gi (h : AH) (r b : Nat) : Int32 := match ag h r with
  | some (.inr (_, fs)) => (match fs[b]? with
    | some (.int x) => x
    | _ => 0)
  | _ => 0
def gj (h : AH) (r b : Nat) : Int64 := match ag h r with
  | some (.inr (_, fs)) => (match fs[b]? with
    | some (.long x) => x
    | _ => 0)
  | _ => 0
def gr (h : AH) (r b : Nat) : Nat := match ag h r with
  | some (.inr (_, fs)) => (match fs[b]? with
    | some (.ref x) => x
    | _ => 0)
  | _ => 0
def ai (h : AH) (r : Nat) : Nat → Int32 := match ag h r with
  | some (.inl (_, _, .inl f)) => f
  | _ => fun _ => 0
def aj (h : AH) (r : Nat) : Nat → Int64 := match ag h r with
  | some (.inl (_, _, .inr (.inl f))) => f
  | _ => fun _ => 0
def ar (h : AH) (r : Nat) : Nat → Option Nat := match ag h r with
  | some (.inl (_, _, .inr (.inr (.inr (.inr f))))) => f
  | _ => fun _ => none
def wi (h : AH) (r b : Nat) (x : Int32) : AH := match ag h r with
  | some (.inr (ci, fs)) => (match fs[b]? with
    | some (.int _) => au h r (cO ci (fs.set b (.int x)))
    | _ => h)
  | _ => h
def wj (h : AH) (r b : Nat) (x : Int64) : AH := match ag h r with
  | some (.inr (ci, fs)) => (match fs[b]? with
    | some (.long _) => au h r (cO ci (fs.set b (.long x)))
    | _ => h)
  | _ => h
def wr (h : AH) (r b : Nat) (x : Nat) : AH := match ag h r with
  | some (.inr (ci, fs)) => (match fs[b]? with
    | some (.ref _) => au h r (cO ci (fs.set b (.ref x)))
    | _ => h)
  | _ => h
def wAI (h : AH) (r : Nat) (f : Nat → Int32) : AH := match ag h r with
  | some (.inl (ty, n, .inl _)) => au h r (.inl (ty, n, .inl f))
  | _ => h
def wAJ (h : AH) (r : Nat) (f : Nat → Int64) : AH := match ag h r with
  | some (.inl (ty, n, .inr (.inl _))) => au h r (.inl (ty, n, .inr (.inl f)))
  | _ => h
def wAR (h : AH) (r : Nat) (f : Nat → Option Nat) : AH := match ag h r with
  | some (.inl (ty, n, .inr (.inr (.inr (.inr _))))) => au h r (.inl (ty, n, .inr (.inr (.inr (.inr f)))))
  | _ => h
theorem ag_au {h : AH} {a b : Nat} {c : AC} : ag (au h a c) b = if b = a then some c else ag h b := rfl
theorem ag_au_s {h : AH} {a : Nat} {c : AC} : ag (au h a c) a = some c := if_pos rfl
theorem ag_au_n {h : AH} {a b : Nat} {c : AC} (hn : b ≠ a) : ag (au h a c) b = ag h b := if_neg hn
section SETTERS
variable {h : AH} {r b r' b' : Nat} {x : Int32} {y : Int64} {z : Nat} {f : Nat → Int32} {fj : Nat → Int64} {fr : Nat → Option Nat}
theorem ag_wi (hn : r' ≠ r) : ag (wi h r b x) r' = ag h r' := by
  unfold wi
  split
  · split
    · exact ag_au_n hn
    · rfl
  · rfl
theorem ag_wj (hn : r' ≠ r) : ag (wj h r b y) r' = ag h r' := by
  unfold wj
  split
  · split
    · exact ag_au_n hn
    · rfl
  · rfl
theorem ag_wr (hn : r' ≠ r) : ag (wr h r b z) r' = ag h r' := by
  unfold wr
  split
  · split
    · exact ag_au_n hn
    · rfl
  · rfl
theorem ag_wAI (hn : r' ≠ r) : ag (wAI h r f) r' = ag h r' := by
  unfold wAI
  split
  · exact ag_au_n hn
  · rfl
theorem ag_wAJ (hn : r' ≠ r) : ag (wAJ h r fj) r' = ag h r' := by
  unfold wAJ
  split
  · exact ag_au_n hn
  · rfl
theorem ag_wAR (hn : r' ≠ r) : ag (wAR h r fr) r' = ag h r' := by
  unfold wAR
  split
  · exact ag_au_n hn
  · rfl
theorem sz_wi : (wi h r b x).1 = h.1 := by unfold wi; split <;> first | rfl | (split <;> rfl)
theorem sz_wj : (wj h r b y).1 = h.1 := by unfold wj; split <;> first | rfl | (split <;> rfl)
theorem sz_wr : (wr h r b z).1 = h.1 := by unfold wr; split <;> first | rfl | (split <;> rfl)
theorem sz_wAI : (wAI h r f).1 = h.1 := by unfold wAI; split <;> rfl
theorem sz_wAJ : (wAJ h r fj).1 = h.1 := by unfold wAJ; split <;> rfl
theorem sz_wAR : (wAR h r fr).1 = h.1 := by unfold wAR; split <;> rfl
theorem sl_wi : (wi h r b x).2.1 = h.2.1 := by unfold wi; split <;> first | rfl | (split <;> rfl)
theorem sl_wj : (wj h r b y).2.1 = h.2.1 := by unfold wj; split <;> first | rfl | (split <;> rfl)
theorem sl_wr : (wr h r b z).2.1 = h.2.1 := by unfold wr; split <;> first | rfl | (split <;> rfl)
theorem sl_wAI : (wAI h r f).2.1 = h.2.1 := by unfold wAI; split <;> rfl
theorem sl_wAJ : (wAJ h r fj).2.1 = h.2.1 := by unfold wAJ; split <;> rfl
theorem sl_wAR : (wAR h r fr).2.1 = h.2.1 := by unfold wAR; split <;> rfl
end SETTERS
/-- getters read through what does not matter -/
theorem gi_of_ag {h h' : AH} {r b : Nat} (e : ag h' r = ag h r) : gi h' r b = gi h r b := by unfold gi; rw [e]
theorem gj_of_ag {h h' : AH} {r b : Nat} (e : ag h' r = ag h r) : gj h' r b = gj h r b := by unfold gj; rw [e]
theorem gr_of_ag {h h' : AH} {r b : Nat} (e : ag h' r = ag h r) : gr h' r b = gr h r b := by unfold gr; rw [e]
theorem ai_of_ag {h h' : AH} {r : Nat} (e : ag h' r = ag h r) : ai h' r = ai h r := by unfold ai; rw [e]
theorem aj_of_ag {h h' : AH} {r : Nat} (e : ag h' r = ag h r) : aj h' r = aj h r := by unfold aj; rw [e]
theorem ar_of_ag {h h' : AH} {r : Nat} (e : ag h' r = ag h r) : ar h' r = ar h r := by unfold ar; rw [e]
section SETOBJ
variable {h : AH} {r b : Nat} {w : Value} {ci : Nat} {fs : List Value}
theorem set_other {k : Nat} {r' b' : Nat} (hr : ag h r = some (cO ci fs)) (hn : ¬ (r' = r ∧ b' = b)) : (match ag (au h r (cO ci (fs.set b w))) r' with
  | some (.inr (_, fs)) => fs[b']?
  | _ => none) = (match ag h r' with
  | some (.inr (_, fs)) => fs[b']?
  | _ => none) := by
  by_cases e : r' = r
  · subst e
    rw [ag_au_s, hr]
    show (fs.set b w)[b']? = fs[b']?
    rw [List.getElem?_set]
    rw [if_neg (fun z => hn ⟨rfl, z.symm⟩)]
  · rw [ag_au_n e]
end SETOBJ
def fld (h : AH) (r b : Nat) : Option Value := match ag h r with
  | some (.inr (_, fs)) => fs[b]?
  | _ => none
theorem gi_fld (h : AH) (r b : Nat) : gi h r b = (match fld h r b with
  | some (.int x) => x
  | _ => 0) := by
  unfold gi fld
  split <;> rfl
theorem gj_fld (h : AH) (r b : Nat) : gj h r b = (match fld h r b with
  | some (.long x) => x
  | _ => 0) := by
  unfold gj fld
  split <;> rfl
theorem gr_fld (h : AH) (r b : Nat) : gr h r b = (match fld h r b with
  | some (.ref x) => x
  | _ => 0) := by
  unfold gr fld
  split <;> rfl
theorem fld_au {h : AH} {r b r' b' ci : Nat} {fs : List Value} {w : Value} (hr : ag h r = some (cO ci fs)) (hn : ¬ (r' = r ∧ b' = b)) : fld (au h r (cO ci (fs.set b w))) r' b' = fld h r' b' := set_other (k := 0) hr hn
theorem fld_au_s {h : AH} {r b ci : Nat} {fs : List Value} {w : Value} (hr : ag h r = some (cO ci fs)) (hb : b < fs.length) : fld (au h r (cO ci (fs.set b w))) r b = some w := by
  unfold fld
  rw [ag_au_s]
  show (fs.set b w)[b]? = some w
  rw [List.getElem?_set, if_pos rfl, if_pos hb]
theorem fld_wi {h : AH} {r b r' b' : Nat} {x : Int32} (hn : ¬ (r' = r ∧ b' = b)) : fld (wi h r b x) r' b' = fld h r' b' := by
  unfold wi
  split
  · rename_i ci fs hr
    split
    · exact fld_au hr hn
    · rfl
  · rfl
theorem fld_wj {h : AH} {r b r' b' : Nat} {x : Int64} (hn : ¬ (r' = r ∧ b' = b)) : fld (wj h r b x) r' b' = fld h r' b' := by
  unfold wj
  split
  · rename_i ci fs hr
    split
    · exact fld_au hr hn
    · rfl
  · rfl
theorem fld_wr {h : AH} {r b r' b' : Nat} {x : Nat} (hn : ¬ (r' = r ∧ b' = b)) : fld (wr h r b x) r' b' = fld h r' b' := by
  unfold wr
  split
  · rename_i ci fs hr
    split
    · exact fld_au hr hn
    · rfl
  · rfl
/-- a setter leaves the field, or puts a value of the field's own kind -/
theorem fld_wi_s (h : AH) (r b : Nat) (x : Int32) : (∃ y, fld h r b = some (.int y) ∧ fld (wi h r b x) r b = some (.int x)) ∨ ((∀ y, fld h r b ≠ some (.int y)) ∧ wi h r b x = h) := by
  unfold wi
  split
  · rename_i ci fs hr
    have e : fld h r b = fs[b]? := by unfold fld; rw [hr]
    split
    · rename_i y hy
      exact Or.inl ⟨y, e.trans hy, fld_au_s hr (List.getElem?_eq_some_iff.mp hy).1⟩
    · rename_i hy
      exact Or.inr ⟨fun y z => hy y (e.symm.trans z), rfl⟩
  · rename_i hr
    refine Or.inr ⟨fun y z => ?_, rfl⟩
    unfold fld at z
    split at z
    · rename_i ci fs hh; exact hr _ _ hh
    · cases z
theorem fld_wj_s (h : AH) (r b : Nat) (x : Int64) : (∃ y, fld h r b = some (.long y) ∧ fld (wj h r b x) r b = some (.long x)) ∨ ((∀ y, fld h r b ≠ some (.long y)) ∧ wj h r b x = h) := by
  unfold wj
  split
  · rename_i ci fs hr
    have e : fld h r b = fs[b]? := by unfold fld; rw [hr]
    split
    · rename_i y hy
      exact Or.inl ⟨y, e.trans hy, fld_au_s hr (List.getElem?_eq_some_iff.mp hy).1⟩
    · rename_i hy
      exact Or.inr ⟨fun y z => hy y (e.symm.trans z), rfl⟩
  · rename_i hr
    refine Or.inr ⟨fun y z => ?_, rfl⟩
    unfold fld at z
    split at z
    · rename_i ci fs hh; exact hr _ _ hh
    · cases z
theorem fld_wr_s (h : AH) (r b : Nat) (x : Nat) : (∃ y, fld h r b = some (.ref y) ∧ fld (wr h r b x) r b = some (.ref x)) ∨ ((∀ y, fld h r b ≠ some (.ref y)) ∧ wr h r b x = h) := by
  unfold wr
  split
  · rename_i ci fs hr
    have e : fld h r b = fs[b]? := by unfold fld; rw [hr]
    split
    · rename_i y hy
      exact Or.inl ⟨y, e.trans hy, fld_au_s hr (List.getElem?_eq_some_iff.mp hy).1⟩
    · rename_i hy
      exact Or.inr ⟨fun y z => hy y (e.symm.trans z), rfl⟩
  · rename_i hr
    refine Or.inr ⟨fun y z => ?_, rfl⟩
    unfold fld at z
    split at z
    · rename_i ci fs hh; exact hr _ _ hh
    · cases z
section LAWS
variable {h : AH} {r b r' b' : Nat} {x : Int32} {y : Int64} {z : Nat} {f : Nat → Int32} {fj : Nat → Int64} {fr : Nat → Option Nat}
theorem gi_wi_n (hn : ¬ (r' = r ∧ b' = b)) : gi (wi h r b x) r' b' = gi h r' b' := by rw [gi_fld, gi_fld, fld_wi hn]
theorem gj_wj_n (hn : ¬ (r' = r ∧ b' = b)) : gj (wj h r b y) r' b' = gj h r' b' := by rw [gj_fld, gj_fld, fld_wj hn]
theorem gr_wr_n (hn : ¬ (r' = r ∧ b' = b)) : gr (wr h r b z) r' b' = gr h r' b' := by rw [gr_fld, gr_fld, fld_wr hn]
theorem gi_wj : gi (wj h r b y) r' b' = gi h r' b' := by
  by_cases e : r' = r ∧ b' = b
  · obtain ⟨rfl, rfl⟩ := e
    rw [gi_fld, gi_fld]
    rcases fld_wj_s h r' b' y with ⟨w, h1, h2⟩ | ⟨-, h2⟩
    · rw [h1, h2]
    · rw [h2]
  · rw [gi_fld, gi_fld, fld_wj e]
theorem gi_wr : gi (wr h r b z) r' b' = gi h r' b' := by
  by_cases e : r' = r ∧ b' = b
  · obtain ⟨rfl, rfl⟩ := e
    rw [gi_fld, gi_fld]
    rcases fld_wr_s h r' b' z with ⟨w, h1, h2⟩ | ⟨-, h2⟩
    · rw [h1, h2]
    · rw [h2]
  · rw [gi_fld, gi_fld, fld_wr e]
theorem gj_wi : gj (wi h r b x) r' b' = gj h r' b' := by
  by_cases e : r' = r ∧ b' = b
  · obtain ⟨rfl, rfl⟩ := e
    rw [gj_fld, gj_fld]
    rcases fld_wi_s h r' b' x with ⟨w, h1, h2⟩ | ⟨-, h2⟩
    · rw [h1, h2]
    · rw [h2]
  · rw [gj_fld, gj_fld, fld_wi e]
theorem gj_wr : gj (wr h r b z) r' b' = gj h r' b' := by
  by_cases e : r' = r ∧ b' = b
  · obtain ⟨rfl, rfl⟩ := e
    rw [gj_fld, gj_fld]
    rcases fld_wr_s h r' b' z with ⟨w, h1, h2⟩ | ⟨-, h2⟩
    · rw [h1, h2]
    · rw [h2]
  · rw [gj_fld, gj_fld, fld_wr e]
theorem gr_wi : gr (wi h r b x) r' b' = gr h r' b' := by
  by_cases e : r' = r ∧ b' = b
  · obtain ⟨rfl, rfl⟩ := e
    rw [gr_fld, gr_fld]
    rcases fld_wi_s h r' b' x with ⟨w, h1, h2⟩ | ⟨-, h2⟩
    · rw [h1, h2]
    · rw [h2]
  · rw [gr_fld, gr_fld, fld_wi e]
theorem gr_wj : gr (wj h r b y) r' b' = gr h r' b' := by
  by_cases e : r' = r ∧ b' = b
  · obtain ⟨rfl, rfl⟩ := e
    rw [gr_fld, gr_fld]
    rcases fld_wj_s h r' b' y with ⟨w, h1, h2⟩ | ⟨-, h2⟩
    · rw [h1, h2]
    · rw [h2]
  · rw [gr_fld, gr_fld, fld_wj e]
theorem wi_cell (h : AH) (r b : Nat) (x : Int32) : wi h r b x = h ∨ ∃ ci fs fs', ag h r = some (cO ci fs) ∧ wi h r b x = au h r (cO ci fs') := by
  unfold wi
  split
  · rename_i ci fs hr
    split
    · exact Or.inr ⟨ci, fs, _, hr, rfl⟩
    · exact Or.inl rfl
  · exact Or.inl rfl
theorem wj_cell (h : AH) (r b : Nat) (x : Int64) : wj h r b x = h ∨ ∃ ci fs fs', ag h r = some (cO ci fs) ∧ wj h r b x = au h r (cO ci fs') := by
  unfold wj
  split
  · rename_i ci fs hr
    split
    · exact Or.inr ⟨ci, fs, _, hr, rfl⟩
    · exact Or.inl rfl
  · exact Or.inl rfl
theorem wr_cell (h : AH) (r b : Nat) (x : Nat) : wr h r b x = h ∨ ∃ ci fs fs', ag h r = some (cO ci fs) ∧ wr h r b x = au h r (cO ci fs') := by
  unfold wr
  split
  · rename_i ci fs hr
    split
    · exact Or.inr ⟨ci, fs, _, hr, rfl⟩
    · exact Or.inl rfl
  · exact Or.inl rfl
theorem wAI_cell (h : AH) (r : Nat) (f : Nat → Int32) : wAI h r f = h ∨ ∃ ty n g, ag h r = some (.inl (ty, n, .inl g)) ∧ wAI h r f = au h r (.inl (ty, n, .inl f)) := by
  unfold wAI
  split
  · rename_i ty n g hr; exact Or.inr ⟨ty, n, g, hr, rfl⟩
  · exact Or.inl rfl
theorem wAJ_cell (h : AH) (r : Nat) (f : Nat → Int64) : wAJ h r f = h ∨ ∃ ty n g, ag h r = some (.inl (ty, n, .inr (.inl g))) ∧ wAJ h r f = au h r (.inl (ty, n, .inr (.inl f))) := by
  unfold wAJ
  split
  · rename_i ty n g hr; exact Or.inr ⟨ty, n, g, hr, rfl⟩
  · exact Or.inl rfl
theorem wAR_cell (h : AH) (r : Nat) (f : Nat → Option Nat) : wAR h r f = h ∨ ∃ ty n g, ag h r = some (.inl (ty, n, .inr (.inr (.inr (.inr g))))) ∧ wAR h r f = au h r (.inl (ty, n, .inr (.inr (.inr (.inr f))))) := by
  unfold wAR
  split
  · rename_i ty n g hr; exact Or.inr ⟨ty, n, g, hr, rfl⟩
  · exact Or.inl rfl
theorem fld_wAI : fld (wAI h r f) r' b' = fld h r' b' := by
  rcases wAI_cell h r f with e | ⟨ty, n, g, h1, e⟩
  · rw [e]
  · rw [e]; unfold fld
    by_cases q : r' = r
    · subst q; rw [ag_au_s, h1]
    · rw [ag_au_n q]
theorem fld_wAJ : fld (wAJ h r fj) r' b' = fld h r' b' := by
  rcases wAJ_cell h r fj with e | ⟨ty, n, g, h1, e⟩
  · rw [e]
  · rw [e]; unfold fld
    by_cases q : r' = r
    · subst q; rw [ag_au_s, h1]
    · rw [ag_au_n q]
theorem fld_wAR : fld (wAR h r fr) r' b' = fld h r' b' := by
  rcases wAR_cell h r fr with e | ⟨ty, n, g, h1, e⟩
  · rw [e]
  · rw [e]; unfold fld
    by_cases q : r' = r
    · subst q; rw [ag_au_s, h1]
    · rw [ag_au_n q]
theorem gi_wAI : gi (wAI h r f) r' b' = gi h r' b' := by rw [gi_fld, gi_fld, fld_wAI]
theorem gi_wAJ : gi (wAJ h r fj) r' b' = gi h r' b' := by rw [gi_fld, gi_fld, fld_wAJ]
theorem gi_wAR : gi (wAR h r fr) r' b' = gi h r' b' := by rw [gi_fld, gi_fld, fld_wAR]
theorem gj_wAI : gj (wAI h r f) r' b' = gj h r' b' := by rw [gj_fld, gj_fld, fld_wAI]
theorem gj_wAJ : gj (wAJ h r fj) r' b' = gj h r' b' := by rw [gj_fld, gj_fld, fld_wAJ]
theorem gj_wAR : gj (wAR h r fr) r' b' = gj h r' b' := by rw [gj_fld, gj_fld, fld_wAR]
theorem gr_wAI : gr (wAI h r f) r' b' = gr h r' b' := by rw [gr_fld, gr_fld, fld_wAI]
theorem gr_wAJ : gr (wAJ h r fj) r' b' = gr h r' b' := by rw [gr_fld, gr_fld, fld_wAJ]
theorem gr_wAR : gr (wAR h r fr) r' b' = gr h r' b' := by rw [gr_fld, gr_fld, fld_wAR]
theorem ai_wi : ai (wi h r b x) r' = ai h r' := by
  rcases wi_cell h r b x with e | ⟨ci, fs, fs', h1, e⟩
  · rw [e]
  · rw [e]; unfold ai
    by_cases q : r' = r
    · subst q; rw [ag_au_s, h1]
    · rw [ag_au_n q]
theorem ai_wj : ai (wj h r b y) r' = ai h r' := by
  rcases wj_cell h r b y with e | ⟨ci, fs, fs', h1, e⟩
  · rw [e]
  · rw [e]; unfold ai
    by_cases q : r' = r
    · subst q; rw [ag_au_s, h1]
    · rw [ag_au_n q]
theorem ai_wr : ai (wr h r b z) r' = ai h r' := by
  rcases wr_cell h r b z with e | ⟨ci, fs, fs', h1, e⟩
  · rw [e]
  · rw [e]; unfold ai
    by_cases q : r' = r
    · subst q; rw [ag_au_s, h1]
    · rw [ag_au_n q]
theorem aj_wi : aj (wi h r b x) r' = aj h r' := by
  rcases wi_cell h r b x with e | ⟨ci, fs, fs', h1, e⟩
  · rw [e]
  · rw [e]; unfold aj
    by_cases q : r' = r
    · subst q; rw [ag_au_s, h1]
    · rw [ag_au_n q]
theorem aj_wj : aj (wj h r b y) r' = aj h r' := by
  rcases wj_cell h r b y with e | ⟨ci, fs, fs', h1, e⟩
  · rw [e]
  · rw [e]; unfold aj
    by_cases q : r' = r
    · subst q; rw [ag_au_s, h1]
    · rw [ag_au_n q]
theorem aj_wr : aj (wr h r b z) r' = aj h r' := by
  rcases wr_cell h r b z with e | ⟨ci, fs, fs', h1, e⟩
  · rw [e]
  · rw [e]; unfold aj
    by_cases q : r' = r
    · subst q; rw [ag_au_s, h1]
    · rw [ag_au_n q]
theorem ar_wi : ar (wi h r b x) r' = ar h r' := by
  rcases wi_cell h r b x with e | ⟨ci, fs, fs', h1, e⟩
  · rw [e]
  · rw [e]; unfold ar
    by_cases q : r' = r
    · subst q; rw [ag_au_s, h1]
    · rw [ag_au_n q]
theorem ar_wj : ar (wj h r b y) r' = ar h r' := by
  rcases wj_cell h r b y with e | ⟨ci, fs, fs', h1, e⟩
  · rw [e]
  · rw [e]; unfold ar
    by_cases q : r' = r
    · subst q; rw [ag_au_s, h1]
    · rw [ag_au_n q]
theorem ar_wr : ar (wr h r b z) r' = ar h r' := by
  rcases wr_cell h r b z with e | ⟨ci, fs, fs', h1, e⟩
  · rw [e]
  · rw [e]; unfold ar
    by_cases q : r' = r
    · subst q; rw [ag_au_s, h1]
    · rw [ag_au_n q]
theorem ai_wAI_n (hn : r' ≠ r) : ai (wAI h r f) r' = ai h r' := ai_of_ag (ag_wAI hn)
theorem aj_wAJ_n (hn : r' ≠ r) : aj (wAJ h r fj) r' = aj h r' := aj_of_ag (ag_wAJ hn)
theorem ar_wAR_n (hn : r' ≠ r) : ar (wAR h r fr) r' = ar h r' := ar_of_ag (ag_wAR hn)
theorem aj_wAI : aj (wAI h r f) r' = aj h r' := by
  rcases wAI_cell h r f with e | ⟨ty, n, g, h1, e⟩
  · rw [e]
  · rw [e]; unfold aj
    by_cases q : r' = r
    · subst q; rw [ag_au_s, h1]
    · rw [ag_au_n q]
theorem ar_wAI : ar (wAI h r f) r' = ar h r' := by
  rcases wAI_cell h r f with e | ⟨ty, n, g, h1, e⟩
  · rw [e]
  · rw [e]; unfold ar
    by_cases q : r' = r
    · subst q; rw [ag_au_s, h1]
    · rw [ag_au_n q]
theorem ai_wAJ : ai (wAJ h r fj) r' = ai h r' := by
  rcases wAJ_cell h r fj with e | ⟨ty, n, g, h1, e⟩
  · rw [e]
  · rw [e]; unfold ai
    by_cases q : r' = r
    · subst q; rw [ag_au_s, h1]
    · rw [ag_au_n q]
theorem ar_wAJ : ar (wAJ h r fj) r' = ar h r' := by
  rcases wAJ_cell h r fj with e | ⟨ty, n, g, h1, e⟩
  · rw [e]
  · rw [e]; unfold ar
    by_cases q : r' = r
    · subst q; rw [ag_au_s, h1]
    · rw [ag_au_n q]
theorem ai_wAR : ai (wAR h r fr) r' = ai h r' := by
  rcases wAR_cell h r fr with e | ⟨ty, n, g, h1, e⟩
  · rw [e]
  · rw [e]; unfold ai
    by_cases q : r' = r
    · subst q; rw [ag_au_s, h1]
    · rw [ag_au_n q]
theorem aj_wAR : aj (wAR h r fr) r' = aj h r' := by
  rcases wAR_cell h r fr with e | ⟨ty, n, g, h1, e⟩
  · rw [e]
  · rw [e]; unfold aj
    by_cases q : r' = r
    · subst q; rw [ag_au_s, h1]
    · rw [ag_au_n q]
end LAWS
section SHAPE
theorem e_gXi {α : Type} {i : Int32} {n : Nat} {k : Option α} (h : vp_in i n) : gX i n k = k := if_neg h
theorem VK_int {p : Value} {x y : Int32} : VK p (.int x) ↔ VK p (.int y) := by cases p <;> exact Iff.rfl
theorem VK_long {p : Value} {x y : Int64} : VK p (.long x) ↔ VK p (.long y) := by cases p <;> exact Iff.rfl
theorem SA_set {ps fs : List Value} {ci b : Nat} {v w : Value} {p : AC} (hb : fs[b]? = some v) (hv : ∀ q, VK q v → VK q w) (h : SA p (some (cO ci fs))) : SA p (some (cO ci (fs.set b w))) := by
  obtain ⟨ty, n, f | f | f | f | f⟩ | ⟨ci', ps'⟩ := p
  · obtain ⟨_, e⟩ := h; cases e
  · obtain ⟨_, e⟩ := h; cases e
  · exact h.elim
  · exact h.elim
  · obtain ⟨_, e, -⟩ := h; cases e
  · obtain ⟨fs', e, h1, h2⟩ := h
    cases e
    refine ⟨_, rfl, by rw [List.length_set]; exact h1, fun k q hk => ?_⟩
    obtain ⟨v', h3, h4⟩ := h2 k q hk
    rw [List.getElem?_set]
    by_cases e : b = k
    · subst e
      rw [if_pos rfl, if_pos (List.getElem?_eq_some_iff.mp hb).1]
      cases h3.symm.trans hb
      exact ⟨w, rfl, hv q h4⟩
    · rw [if_neg e]
      exact ⟨v', h3, h4⟩
theorem SH_au {h : AH} {r : Nat} {c c' : AC} (hr : ag h r = some c) (hc : ∀ p, SA p (some c) → SA p (some c')) (hS : SH h) : SH (au h r c') := by
  refine ⟨hS.1, fun a p hp => ?_⟩
  have h1 := hS.2 a p hp
  by_cases e : a = r
  · subst e
    rw [ag_au_s]
    rw [hr] at h1
    exact hc p h1
  · rw [ag_au_n e]
    exact h1
theorem SH_wi {h : AH} {r b : Nat} {x : Int32} (hS : SH h) : SH (wi h r b x) := by
  unfold wi
  split
  · rename_i ci fs hr
    split
    · rename_i y hy
      exact SH_au hr (fun p hp => SA_set (ps := []) hy (fun q => VK_int.mp) hp) hS
    · exact hS
  · exact hS
theorem SH_wj {h : AH} {r b : Nat} {x : Int64} (hS : SH h) : SH (wj h r b x) := by
  unfold wj
  split
  · rename_i ci fs hr
    split
    · rename_i y hy
      exact SH_au hr (fun p hp => SA_set (ps := []) hy (fun q => VK_long.mp) hp) hS
    · exact hS
  · exact hS
theorem SH_wAI {h : AH} {r : Nat} {f : Nat → Int32} (hS : SH h) : SH (wAI h r f) := by
  rcases wAI_cell h r f with e | ⟨ty, n, g, h1, e⟩
  · rw [e]; exact hS
  · rw [e]
    refine SH_au h1 (fun p hp => ?_) hS
    obtain ⟨ty, n, f | f | f | f | f⟩ | ⟨ci', ps'⟩ := p
    · obtain ⟨_, e⟩ := hp; cases e; exact ⟨_, rfl⟩
    · obtain ⟨_, e⟩ := hp; cases e
    · exact hp.elim
    · exact hp.elim
    · obtain ⟨_, e, -⟩ := hp; cases e
    · obtain ⟨_, e, -⟩ := hp; cases e
theorem SH_wAJ {h : AH} {r : Nat} {f : Nat → Int64} (hS : SH h) : SH (wAJ h r f) := by
  rcases wAJ_cell h r f with e | ⟨ty, n, g, h1, e⟩
  · rw [e]; exact hS
  · rw [e]
    refine SH_au h1 (fun p hp => ?_) hS
    obtain ⟨ty, n, f | f | f | f | f⟩ | ⟨ci', ps'⟩ := p
    · obtain ⟨_, e⟩ := hp; cases e
    · obtain ⟨_, e⟩ := hp; cases e; exact ⟨_, rfl⟩
    · exact hp.elim
    · exact hp.elim
    · obtain ⟨_, e, -⟩ := hp; cases e
    · obtain ⟨_, e, -⟩ := hp; cases e
theorem SH_an {h : AH} {n : Nat} {c : AC} (hS : SH h) : SH (an h n c) := by
  refine ⟨Nat.le_succ_of_le hS.1, fun a p hp => ?_⟩
  have ha : a < PL.length := (List.getElem?_eq_some_iff.mp hp).1
  have hl : PL.length = 118 := rfl
  have h1 := hS.2 a p hp
  have hn : a ≠ h.1 := by have := hS.1; omega
  rw [show ag (an h n c) a = ag h a from if_neg hn]
  exact h1
variable {α : Type} {h : AH} {r b a : Nat} {ps : List Value}
theorem SA_obj (hS : SH h) (hp : PL[r]? = some (cO a ps)) : ∃ fs, ag h r = some (cO a fs) ∧ fs.length = ps.length ∧ ∀ (k : Nat) (w : Value), ps[k]? = some w → ∃ v : Value, fs[k]? = some v ∧ VK w v := hS.2 r _ hp
theorem L_gi {K : Value → Option α} {z : Int32} (hS : SH h) (hp : PL[r]? = some (cO a ps)) (hk : ps[b]? = some (.int z)) : hGet h r b a K = K (.int (gi h r b)) := by
  obtain ⟨fs, h1, h2, h3⟩ := SA_obj hS hp
  obtain ⟨v, h4, h5⟩ := h3 b _ hk
  cases v <;> first | exact h5.elim | skip
  unfold hGet gi
  rw [h1]
  show gT (a = a) (ob fs[b]? K) = K (.int (match fs[b]? with
    | some (.int x) => x
    | _ => 0))
  rw [h4]
  exact e_gT rfl
theorem L_gj {K : Value → Option α} {z : Int64} (hS : SH h) (hp : PL[r]? = some (cO a ps)) (hk : ps[b]? = some (.long z)) : hGet h r b a K = K (.long (gj h r b)) := by
  obtain ⟨fs, h1, h2, h3⟩ := SA_obj hS hp
  obtain ⟨v, h4, h5⟩ := h3 b _ hk
  cases v <;> first | exact h5.elim | skip
  unfold hGet gj
  rw [h1]
  show gT (a = a) (ob fs[b]? K) = K (.long (match fs[b]? with
    | some (.long x) => x
    | _ => 0))
  rw [h4]
  exact e_gT rfl
theorem L_gr {K : Value → Option α} (hS : SH h) (hp : PL[r]? = some (cO a ps)) (hk : ps[b]? = some .null) : hGet h r b a K = K (.ref (gr h r b)) := by
  obtain ⟨fs, h1, h2, h3⟩ := SA_obj hS hp
  obtain ⟨v, h4, h5⟩ := h3 b _ hk
  cases v <;> first | exact h5.elim | skip
  unfold hGet gr
  rw [h1]
  show gT (a = a) (ob fs[b]? K) = K (.ref (match fs[b]? with
    | some (.ref x) => x
    | _ => 0))
  rw [h4]
  exact e_gT rfl
theorem L_gc {K : Value → Option α} {t : Nat} (hS : SH h) (hp : PL[r]? = some (cO a ps)) (hk : ps[b]? = some (.ref t)) : hGet h r b a K = K (.ref t) := by
  obtain ⟨fs, h1, h2, h3⟩ := SA_obj hS hp
  obtain ⟨v, h4, h5⟩ := h3 b _ hk
  cases v <;> first | exact h5.elim | skip
  have h5 : t = _ := h5
  subst h5
  unfold hGet
  rw [h1]
  show gT (a = a) (ob fs[b]? K) = _
  rw [h4]
  exact if_pos rfl
theorem L_pi {K : AH → Option α} {x z : Int32} {t : Nat} (hS : SH h) (hp : PL[r]? = some (cO a ps)) (hk : ps[b]? = some (.int z)) (ht : putOk t (.int x) = true) : hPut h r b a t (.int x) K = K (wi h r b x) := by
  obtain ⟨fs, h1, h2, h3⟩ := SA_obj hS hp
  obtain ⟨v, h4, h5⟩ := h3 b _ hk
  cases v <;> first | exact h5.elim | skip
  unfold hPut wi
  rw [h1]
  show gT _ _ = K (match fs[b]? with
    | some (.int _) => _
    | _ => h)
  rw [h4]
  exact if_pos ⟨rfl, ht, (List.getElem?_eq_some_iff.mp h4).1⟩
theorem L_pj {K : AH → Option α} {x z : Int64} (hS : SH h) (hp : PL[r]? = some (cO a ps)) (hk : ps[b]? = some (.long z)) : hPut h r b a 1 (.long x) K = K (wj h r b x) := by
  obtain ⟨fs, h1, h2, h3⟩ := SA_obj hS hp
  obtain ⟨v, h4, h5⟩ := h3 b _ hk
  cases v <;> first | exact h5.elim | skip
  unfold hPut wj
  rw [h1]
  show gT _ _ = K (match fs[b]? with
    | some (.long _) => _
    | _ => h)
  rw [h4]
  exact if_pos ⟨rfl, rfl, (List.getElem?_eq_some_iff.mp h4).1⟩
theorem L_pr {K : AH → Option α} {x : Nat} (hS : SH h) (hp : PL[r]? = some (cO a ps)) (hk : ps[b]? = some .null) : hPut h r b a 3 (.ref x) K = K (wr h r b x) := by
  obtain ⟨fs, h1, h2, h3⟩ := SA_obj hS hp
  obtain ⟨v, h4, h5⟩ := h3 b _ hk
  cases v <;> first | exact h5.elim | skip
  unfold hPut wr
  rw [h1]
  show gT _ _ = K (match fs[b]? with
    | some (.ref _) => _
    | _ => h)
  rw [h4]
  exact if_pos ⟨rfl, rfl, (List.getElem?_eq_some_iff.mp h4).1⟩
theorem gi_wi {x z : Int32} (hS : SH h) (hp : PL[r]? = some (cO a ps)) (hk : ps[b]? = some (.int z)) : gi (wi h r b x) r b = x := by
  obtain ⟨fs, h1, h2, h3⟩ := SA_obj hS hp
  obtain ⟨v, h4, h5⟩ := h3 b _ hk
  cases v <;> first | exact h5.elim | skip
  rw [gi_fld]
  rcases fld_wi_s h r b x with ⟨y, -, e⟩ | ⟨e, -⟩
  · rw [e]
  · exact absurd (show fld h r b = _ by unfold fld; rw [h1]; exact h4) (e _)
theorem gj_wj {x z : Int64} (hS : SH h) (hp : PL[r]? = some (cO a ps)) (hk : ps[b]? = some (.long z)) : gj (wj h r b x) r b = x := by
  obtain ⟨fs, h1, h2, h3⟩ := SA_obj hS hp
  obtain ⟨v, h4, h5⟩ := h3 b _ hk
  cases v <;> first | exact h5.elim | skip
  rw [gj_fld]
  rcases fld_wj_s h r b x with ⟨y, -, e⟩ | ⟨e, -⟩
  · rw [e]
  · exact absurd (show fld h r b = _ by unfold fld; rw [h1]; exact h4) (e _)
theorem gr_wr {x : Nat} (hS : SH h) (hp : PL[r]? = some (cO a ps)) (hk : ps[b]? = some .null) : gr (wr h r b x) r b = x := by
  obtain ⟨fs, h1, h2, h3⟩ := SA_obj hS hp
  obtain ⟨v, h4, h5⟩ := h3 b _ hk
  cases v <;> first | exact h5.elim | skip
  rw [gr_fld]
  rcases fld_wr_s h r b x with ⟨y, -, e⟩ | ⟨e, -⟩
  · rw [e]
  · exact absurd (show fld h r b = _ by unfold fld; rw [h1]; exact h4) (e _)
theorem SH_wr {x : Nat} (hS : SH h) (hp : PL[r]? = some (cO a ps)) (hk : ps[b]? = some .null) : SH (wr h r b x) := by
  refine ⟨by rw [sz_wr]; exact hS.1, fun q p hq => ?_⟩
  by_cases e : q = r
  · subst e
    cases hp.symm.trans hq
    obtain ⟨fs, h1, h2, h3⟩ := SA_obj hS hp
    obtain ⟨v, h4, h5⟩ := h3 b _ hk
    cases v <;> first | exact h5.elim | skip
    unfold wr
    rw [h1]
    show SA _ (ag (match fs[b]? with
      | some (.ref _) => _
      | _ => h) q)
    rw [h4]
    show SA _ (ag (au h q (cO a (fs.set b (.ref x)))) q)
    rw [ag_au_s]
    refine ⟨_, rfl, by rw [List.length_set]; exact h2, fun k w hk' => ?_⟩
    rw [List.getElem?_set]
    by_cases e : b = k
    · subst e
      cases hk.symm.trans hk'
      rw [if_pos rfl, if_pos (List.getElem?_eq_some_iff.mp h4).1]
      exact ⟨_, rfl, trivial⟩
    · rw [if_neg e]
      exact h3 k w hk'
  · rw [ag_wr e]
    exact hS.2 q p hq
variable {n : Nat} {ty : FieldType}
theorem L_len {K : Nat → Option α} {p : vp_A} (hS : SH h) (hp : PL[r]? = some (.inl (ty, p))) : hLen h r K = K p.1 := by
  have h1 := hS.2 r _ hp
  unfold hLen
  obtain ⟨n, f | f | f | f | f⟩ := p
  · obtain ⟨g, e⟩ := h1; rw [e]; rfl
  · obtain ⟨g, e⟩ := h1; rw [e]; rfl
  · exact h1.elim
  · exact h1.elim
  · obtain ⟨g, e, -⟩ := h1; rw [e]; rfl
theorem ai_wAI {f g : Nat → Int32} (hS : SH h) (hp : PL[r]? = some (.inl (ty, n, .inl g))) : ai (wAI h r f) r = f := by
  obtain ⟨f0, e⟩ := hS.2 r _ hp
  unfold ai wAI
  rw [e]
  show (match ag (au h r _) r with | some (.inl (_, _, .inl f)) => f | _ => fun _ => 0) = f
  rw [ag_au_s]
theorem aj_wAJ {f g : Nat → Int64} (hS : SH h) (hp : PL[r]? = some (.inl (ty, n, .inr (.inl g)))) : aj (wAJ h r f) r = f := by
  obtain ⟨f0, e⟩ := hS.2 r _ hp
  unfold aj wAJ
  rw [e]
  show (match ag (au h r _) r with | some (.inl (_, _, .inr (.inl f))) => f | _ => fun _ => 0) = f
  rw [ag_au_s]
theorem L_hIld {K : Int32 → Option α} {i : Int32} {g : Nat → Int32} (hS : SH h) (hp : PL[r]? = some (cI n g)) (hi : vp_in i n) : hIld h r i K = K (ai h r (cl i)) := by
  obtain ⟨f0, e⟩ := hS.2 r _ hp
  unfold hIld ai
  rw [e]
  exact (e_gT (Or.inl rfl)).trans (e_gXi hi)
theorem L_hBld {K : Int32 → Option α} {i : Int32} {g : Nat → Int32} (hS : SH h) (hp : PL[r]? = some (cZ n g)) (hi : vp_in i n) : hBld h r i K = K (ai h r (cl i)) := by
  obtain ⟨f0, e⟩ := hS.2 r _ hp
  unfold hBld ai
  rw [e]
  exact (e_gT (Or.inl rfl)).trans (e_gXi hi)
theorem L_hJld {K : Int64 → Option α} {i : Int32} {g : Nat → Int64} (hS : SH h) (hp : PL[r]? = some (cJ n g)) (hi : vp_in i n) : hJld h r i K = K (aj h r (cl i)) := by
  obtain ⟨f0, e⟩ := hS.2 r _ hp
  unfold hJld aj
  rw [e]
  exact (e_gT rfl).trans (e_gXi hi)
theorem L_hRld {K : Value → Option α} {i : Int32} {C : String} {g : Nat → Option Nat} (hS : SH h) (hp : PL[r]? = some (cR C n g)) (hi : vp_in i n) : hRld h r i K = K (va_rf (ar h r (cl i))) := by
  obtain ⟨f0, e, -⟩ := hS.2 r _ hp
  unfold hRld ar
  rw [e]
  exact e_gXi hi
theorem L_hIst {K : AH → Option α} {i x : Int32} {g : Nat → Int32} (hS : SH h) (hp : PL[r]? = some (cI n g)) (hi : vp_in i n) : hIst h r i x K = K (wAI h r (upd (ai h r) (cl i) x)) := by
  obtain ⟨f0, e⟩ := hS.2 r _ hp
  unfold hIst ai wAI
  rw [e]
  exact (e_gT rfl).trans (e_gXi hi)
theorem L_hBst {K : AH → Option α} {i x : Int32} {g : Nat → Int32} (hS : SH h) (hp : PL[r]? = some (cZ n g)) (hi : vp_in i n) : hBst h r i x K = K (wAI h r (upd (ai h r) (cl i) (vp_nar .boolean x))) := by
  obtain ⟨f0, e⟩ := hS.2 r _ hp
  unfold hBst ai wAI
  rw [e]
  exact (e_gT rfl).trans (e_gXi hi)
theorem L_hJst {K : AH → Option α} {i : Int32} {x : Int64} {g : Nat → Int64} (hS : SH h) (hp : PL[r]? = some (cJ n g)) (hi : vp_in i n) : hJst h r i x K = K (wAJ h r (vp_updL (aj h r) (cl i) x)) := by
  obtain ⟨f0, e⟩ := hS.2 r _ hp
  unfold hJst aj wAJ
  rw [e]
  exact (e_gT rfl).trans (e_gXi hi)
theorem ar_const {i : Nat} {C : String} {g : Nat → Option Nat} (hS : SH h) (hp : PL[r]? = some (cR C n g)) (hi : i < n) (hg : g i ≠ none) : ar h r i = g i := by
  obtain ⟨f0, e, h1⟩ := hS.2 r _ hp
  unfold ar
  rw [e]
  exact (h1 i hi).resolve_left hg
theorem L_isO {c : Nat} {as : List Value} (hS : SH h) (hp : PL[r]? = some (cO a ps)) : isO h c (.ref r :: as) = (a == c) := by
  obtain ⟨fs, h1, -⟩ := SA_obj hS hp
  unfold isO
  show (match ag h r with
    | some (.inr (ci, _)) => ci == c
    | _ => false) = (a == c)
  rw [h1]
end SHAPE
theorem pl0 : PL[0]? = some (cO 11 [.ref 1, .ref 5, .int 0, .int 0, .ref 6, .ref 15, .int 0, .ref 16, .ref 18, .int 0, .ref 22, .ref 23, .ref 42, .ref 43, .ref 44, .ref 45, .ref 51, .ref 56, .ref 57, .int 0]) := rfl
theorem O0 {h : AH} {as : List Value} (hS : SH h) : isO h 11 (.ref 0 :: as) = true := (L_isO hS pl0).trans (beq_self_eq_true _)
theorem G0_0 {α : Type} {h : AH} {K : Value → Option α} (hS : SH h) : hGet h 0 0 11 K = K (.ref 1) := L_gc hS pl0 rfl
theorem G0_1 {α : Type} {h : AH} {K : Value → Option α} (hS : SH h) : hGet h 0 1 11 K = K (.ref 5) := L_gc hS pl0 rfl
theorem G0_2 {α : Type} {h : AH} {K : Value → Option α} (hS : SH h) : hGet h 0 2 11 K = K (.int (gi h 0 2)) := L_gi hS pl0 rfl
theorem g0_2 {h : AH} {x : Int32} (hS : SH h) : gi (wi h 0 2 x) 0 2 = x := gi_wi hS pl0 rfl
theorem U0_2 {α : Type} {h : AH} {x : Int32} {K : AH → Option α} (hS : SH h) : hPut h 0 2 11 0 (.int x) K = K (wi h 0 2 x) := L_pi hS pl0 rfl rfl
theorem G0_3 {α : Type} {h : AH} {K : Value → Option α} (hS : SH h) : hGet h 0 3 11 K = K (.int (gi h 0 3)) := L_gi hS pl0 rfl
theorem g0_3 {h : AH} {x : Int32} (hS : SH h) : gi (wi h 0 3 x) 0 3 = x := gi_wi hS pl0 rfl
theorem U0_3 {α : Type} {h : AH} {x : Int32} {K : AH → Option α} (hS : SH h) : hPut h 0 3 11 0 (.int x) K = K (wi h 0 3 x) := L_pi hS pl0 rfl rfl
theorem G0_4 {α : Type} {h : AH} {K : Value → Option α} (hS : SH h) : hGet h 0 4 11 K = K (.ref 6) := L_gc hS pl0 rfl
theorem G0_5 {α : Type} {h : AH} {K : Value → Option α} (hS : SH h) : hGet h 0 5 11 K = K (.ref 15) := L_gc hS pl0 rfl
theorem G0_6 {α : Type} {h : AH} {K : Value → Option α} (hS : SH h) : hGet h 0 6 11 K = K (.int (gi h 0 6)) := L_gi hS pl0 rfl
theorem g0_6 {h : AH} {x : Int32} (hS : SH h) : gi (wi h 0 6 x) 0 6 = x := gi_wi hS pl0 rfl
theorem U0_6 {α : Type} {h : AH} {x : Int32} {K : AH → Option α} (hS : SH h) : hPut h 0 6 11 0 (.int x) K = K (wi h 0 6 x) := L_pi hS pl0 rfl rfl
theorem G0_7 {α : Type} {h : AH} {K : Value → Option α} (hS : SH h) : hGet h 0 7 11 K = K (.ref 16) := L_gc hS pl0 rfl
theorem G0_8 {α : Type} {h : AH} {K : Value → Option α} (hS : SH h) : hGet h 0 8 11 K = K (.ref 18) := L_gc hS pl0 rfl
theorem G0_9 {α : Type} {h : AH} {K : Value → Option α} (hS : SH h) : hGet h 0 9 11 K = K (.int (gi h 0 9)) := L_gi hS pl0 rfl
theorem g0_9 {h : AH} {x : Int32} (hS : SH h) : gi (wi h 0 9 x) 0 9 = x := gi_wi hS pl0 rfl
theorem U0_9 {α : Type} {h : AH} {x : Int32} {K : AH → Option α} (hS : SH h) : hPut h 0 9 11 0 (.int x) K = K (wi h 0 9 x) := L_pi hS pl0 rfl rfl
theorem G0_10 {α : Type} {h : AH} {K : Value → Option α} (hS : SH h) : hGet h 0 10 11 K = K (.ref 22) := L_gc hS pl0 rfl
theorem G0_11 {α : Type} {h : AH} {K : Value → Option α} (hS : SH h) : hGet h 0 11 11 K = K (.ref 23) := L_gc hS pl0 rfl
theorem G0_12 {α : Type} {h : AH} {K : Value → Option α} (hS : SH h) : hGet h 0 12 11 K = K (.ref 42) := L_gc hS pl0 rfl
theorem G0_13 {α : Type} {h : AH} {K : Value → Option α} (hS : SH h) : hGet h 0 13 11 K = K (.ref 43) := L_gc hS pl0 rfl
theorem G0_14 {α : Type} {h : AH} {K : Value → Option α} (hS : SH h) : hGet h 0 14 11 K = K (.ref 44) := L_gc hS pl0 rfl
theorem G0_15 {α : Type} {h : AH} {K : Value → Option α} (hS : SH h) : hGet h 0 15 11 K = K (.ref 45) := L_gc hS pl0 rfl
theorem G0_16 {α : Type} {h : AH} {K : Value → Option α} (hS : SH h) : hGet h 0 16 11 K = K (.ref 51) := L_gc hS pl0 rfl
theorem G0_17 {α : Type} {h : AH} {K : Value → Option α} (hS : SH h) : hGet h 0 17 11 K = K (.ref 56) := L_gc hS pl0 rfl
theorem G0_18 {α : Type} {h : AH} {K : Value → Option α} (hS : SH h) : hGet h 0 18 11 K = K (.ref 57) := L_gc hS pl0 rfl
theorem G0_19 {α : Type} {h : AH} {K : Value → Option α} (hS : SH h) : hGet h 0 19 11 K = K (.int (gi h 0 19)) := L_gi hS pl0 rfl
theorem g0_19 {h : AH} {x : Int32} (hS : SH h) : gi (wi h 0 19 x) 0 19 = x := gi_wi hS pl0 rfl
theorem U0_19 {α : Type} {h : AH} {x : Int32} {K : AH → Option α} (hS : SH h) : hPut h 0 19 11 0 (.int x) K = K (wi h 0 19 x) := L_pi hS pl0 rfl rfl
theorem pl1 : PL[1]? = some (cO 6 [.ref 2, .int 0, .int 0, .int 0, .int 0, .int 0, .ref 3, .int 0, .ref 4, .int 0]) := rfl
theorem O1 {h : AH} {as : List Value} (hS : SH h) : isO h 6 (.ref 1 :: as) = true := (L_isO hS pl1).trans (beq_self_eq_true _)
theorem G1_0 {α : Type} {h : AH} {K : Value → Option α} (hS : SH h) : hGet h 1 0 6 K = K (.ref 2) := L_gc hS pl1 rfl
theorem G1_1 {α : Type} {h : AH} {K : Value → Option α} (hS : SH h) : hGet h 1 1 6 K = K (.int (gi h 1 1)) := L_gi hS pl1 rfl
theorem g1_1 {h : AH} {x : Int32} (hS : SH h) : gi (wi h 1 1 x) 1 1 = x := gi_wi hS pl1 rfl
theorem U1_1 {α : Type} {h : AH} {x : Int32} {K : AH → Option α} (hS : SH h) : hPut h 1 1 6 0 (.int x) K = K (wi h 1 1 x) := L_pi hS pl1 rfl rfl
theorem G1_2 {α : Type} {h : AH} {K : Value → Option α} (hS : SH h) : hGet h 1 2 6 K = K (.int (gi h 1 2)) := L_gi hS pl1 rfl
theorem g1_2 {h : AH} {x : Int32} (hS : SH h) : gi (wi h 1 2 x) 1 2 = x := gi_wi hS pl1 rfl
theorem U1_2 {α : Type} {h : AH} {x : Int32} {K : AH → Option α} (hS : SH h) : hPut h 1 2 6 0 (.int x) K = K (wi h 1 2 x) := L_pi hS pl1 rfl rfl
theorem G1_3 {α : Type} {h : AH} {K : Value → Option α} (hS : SH h) : hGet h 1 3 6 K = K (.int (gi h 1 3)) := L_gi hS pl1 rfl
theorem g1_3 {h : AH} {x : Int32} (hS : SH h) : gi (wi h 1 3 x) 1 3 = x := gi_wi hS pl1 rfl
theorem U1_3 {α : Type} {h : AH} {x : Int32} {K : AH → Option α} (hS : SH h) : hPut h 1 3 6 0 (.int x) K = K (wi h 1 3 x) := L_pi hS pl1 rfl rfl
theorem G1_4 {α : Type} {h : AH} {K : Value → Option α} (hS : SH h) : hGet h 1 4 6 K = K (.int (gi h 1 4)) := L_gi hS pl1 rfl
theorem g1_4 {h : AH} {x : Int32} (hS : SH h) : gi (wi h 1 4 x) 1 4 = x := gi_wi hS pl1 rfl
theorem U1_4 {α : Type} {h : AH} {x : Int32} {K : AH → Option α} (hS : SH h) (hx : x = 0 ∨ x = 1) : hPut h 1 4 6 2 (.int x) K = K (wi h 1 4 x) := L_pi hS pl1 rfl (decide_eq_true hx)
theorem G1_5 {α : Type} {h : AH} {K : Value → Option α} (hS : SH h) : hGet h 1 5 6 K = K (.int (gi h 1 5)) := L_gi hS pl1 rfl
theorem g1_5 {h : AH} {x : Int32} (hS : SH h) : gi (wi h 1 5 x) 1 5 = x := gi_wi hS pl1 rfl
theorem U1_5 {α : Type} {h : AH} {x : Int32} {K : AH → Option α} (hS : SH h) (hx : x = 0 ∨ x = 1) : hPut h 1 5 6 2 (.int x) K = K (wi h 1 5 x) := L_pi hS pl1 rfl (decide_eq_true hx)
theorem G1_6 {α : Type} {h : AH} {K : Value → Option α} (hS : SH h) : hGet h 1 6 6 K = K (.ref 3) := L_gc hS pl1 rfl
theorem G1_7 {α : Type} {h : AH} {K : Value → Option α} (hS : SH h) : hGet h 1 7 6 K = K (.int (gi h 1 7)) := L_gi hS pl1 rfl
theorem g1_7 {h : AH} {x : Int32} (hS : SH h) : gi (wi h 1 7 x) 1 7 = x := gi_wi hS pl1 rfl
theorem U1_7 {α : Type} {h : AH} {x : Int32} {K : AH → Option α} (hS : SH h) : hPut h 1 7 6 0 (.int x) K = K (wi h 1 7 x) := L_pi hS pl1 rfl rfl
theorem G1_8 {α : Type} {h : AH} {K : Value → Option α} (hS : SH h) : hGet h 1 8 6 K = K (.ref 4) := L_gc hS pl1 rfl
theorem G1_9 {α : Type} {h : AH} {K : Value → Option α} (hS : SH h) : hGet h 1 9 6 K = K (.int (gi h 1 9)) := L_gi hS pl1 rfl
theorem g1_9 {h : AH} {x : Int32} (hS : SH h) : gi (wi h 1 9 x) 1 9 = x := gi_wi hS pl1 rfl
theorem U1_9 {α : Type} {h : AH} {x : Int32} {K : AH → Option α} (hS : SH h) : hPut h 1 9 6 0 (.int x) K = K (wi h 1 9 x) := L_pi hS pl1 rfl rfl
theorem pl2 : PL[2]? = some (cI 100 (fun _ => 0)) := rfl
theorem E2 {α : Type} {h : AH} {K : Nat → Option α} (hS : SH h) : hLen h 2 K = K 100 := L_len hS pl2
theorem a2 {h : AH} {f : Nat → Int32} (hS : SH h) : ai (wAI h 2 f) 2 = f := ai_wAI hS pl2
theorem I2 {α : Type} {h : AH} {i : Int32} {K : Int32 → Option α} (hS : SH h) (hi : vp_in i 100) : hIld h 2 i K = K (ai h 2 (cl i)) := L_hIld hS pl2 hi
theorem W2 {α : Type} {h : AH} {i x : Int32} {K : AH → Option α} (hS : SH h) (hi : vp_in i 100) : hIst h 2 i x K = K (wAI h 2 (upd (ai h 2) (cl i) x)) := L_hIst hS pl2 hi
theorem pl3 : PL[3]? = some (cI 60 (fun _ => 0)) := rfl
theorem E3 {α : Type} {h : AH} {K : Nat → Option α} (hS : SH h) : hLen h 3 K = K 60 := L_len hS pl3
theorem a3 {h : AH} {f : Nat → Int32} (hS : SH h) : ai (wAI h 3 f) 3 = f := ai_wAI hS pl3
theorem I3 {α : Type} {h : AH} {i : Int32} {K : Int32 → Option α} (hS : SH h) (hi : vp_in i 60) : hIld h 3 i K = K (ai h 3 (cl i)) := L_hIld hS pl3 hi
theorem W3 {α : Type} {h : AH} {i x : Int32} {K : AH → Option α} (hS : SH h) (hi : vp_in i 60) : hIst h 3 i x K = K (wAI h 3 (upd (ai h 3) (cl i) x)) := L_hIst hS pl3 hi
theorem pl4 : PL[4]? = some (cI 60 (fun _ => 0)) := rfl
theorem E4 {α : Type} {h : AH} {K : Nat → Option α} (hS : SH h) : hLen h 4 K = K 60 := L_len hS pl4
theorem a4 {h : AH} {f : Nat → Int32} (hS : SH h) : ai (wAI h 4 f) 4 = f := ai_wAI hS pl4
theorem I4 {α : Type} {h : AH} {i : Int32} {K : Int32 → Option α} (hS : SH h) (hi : vp_in i 60) : hIld h 4 i K = K (ai h 4 (cl i)) := L_hIld hS pl4 hi
theorem W4 {α : Type} {h : AH} {i x : Int32} {K : AH → Option α} (hS : SH h) (hi : vp_in i 60) : hIst h 4 i x K = K (wAI h 4 (upd (ai h 4) (cl i) x)) := L_hIst hS pl4 hi
theorem pl5 : PL[5]? = some (cR "RoundMaps$MapText" 4 (fun _ => none)) := rfl
theorem E5 {α : Type} {h : AH} {K : Nat → Option α} (hS : SH h) : hLen h 5 K = K 4 := L_len hS pl5
theorem I5 {α : Type} {h : AH} {i : Int32} {K : Value → Option α} (hS : SH h) (hi : vp_in i 4) : hRld h 5 i K = K (va_rf (ar h 5 (cl i))) := L_hRld hS pl5 hi
theorem pl6 : PL[6]? = some (cO 7 [.ref 7, .ref 8, .ref 9, .ref 10, .int 0, .int 0, .ref 11, .ref 12, .ref 13, .ref 14, .int 0, .int 0, .long 0, .long 0, .long 0, .long 0, .long 0, .long 0]) := rfl
theorem O6 {h : AH} {as : List Value} (hS : SH h) : isO h 7 (.ref 6 :: as) = true := (L_isO hS pl6).trans (beq_self_eq_true _)
theorem G6_0 {α : Type} {h : AH} {K : Value → Option α} (hS : SH h) : hGet h 6 0 7 K = K (.ref 7) := L_gc hS pl6 rfl
theorem G6_1 {α : Type} {h : AH} {K : Value → Option α} (hS : SH h) : hGet h 6 1 7 K = K (.ref 8) := L_gc hS pl6 rfl
theorem G6_2 {α : Type} {h : AH} {K : Value → Option α} (hS : SH h) : hGet h 6 2 7 K = K (.ref 9) := L_gc hS pl6 rfl
theorem G6_3 {α : Type} {h : AH} {K : Value → Option α} (hS : SH h) : hGet h 6 3 7 K = K (.ref 10) := L_gc hS pl6 rfl
theorem G6_4 {α : Type} {h : AH} {K : Value → Option α} (hS : SH h) : hGet h 6 4 7 K = K (.int (gi h 6 4)) := L_gi hS pl6 rfl
theorem g6_4 {h : AH} {x : Int32} (hS : SH h) : gi (wi h 6 4 x) 6 4 = x := gi_wi hS pl6 rfl
theorem U6_4 {α : Type} {h : AH} {x : Int32} {K : AH → Option α} (hS : SH h) : hPut h 6 4 7 0 (.int x) K = K (wi h 6 4 x) := L_pi hS pl6 rfl rfl
theorem G6_5 {α : Type} {h : AH} {K : Value → Option α} (hS : SH h) : hGet h 6 5 7 K = K (.int (gi h 6 5)) := L_gi hS pl6 rfl
theorem g6_5 {h : AH} {x : Int32} (hS : SH h) : gi (wi h 6 5 x) 6 5 = x := gi_wi hS pl6 rfl
theorem U6_5 {α : Type} {h : AH} {x : Int32} {K : AH → Option α} (hS : SH h) (hx : x = 0 ∨ x = 1) : hPut h 6 5 7 2 (.int x) K = K (wi h 6 5 x) := L_pi hS pl6 rfl (decide_eq_true hx)
theorem G6_6 {α : Type} {h : AH} {K : Value → Option α} (hS : SH h) : hGet h 6 6 7 K = K (.ref 11) := L_gc hS pl6 rfl
theorem G6_7 {α : Type} {h : AH} {K : Value → Option α} (hS : SH h) : hGet h 6 7 7 K = K (.ref 12) := L_gc hS pl6 rfl
theorem G6_8 {α : Type} {h : AH} {K : Value → Option α} (hS : SH h) : hGet h 6 8 7 K = K (.ref 13) := L_gc hS pl6 rfl
theorem G6_9 {α : Type} {h : AH} {K : Value → Option α} (hS : SH h) : hGet h 6 9 7 K = K (.ref 14) := L_gc hS pl6 rfl
theorem G6_10 {α : Type} {h : AH} {K : Value → Option α} (hS : SH h) : hGet h 6 10 7 K = K (.int (gi h 6 10)) := L_gi hS pl6 rfl
theorem g6_10 {h : AH} {x : Int32} (hS : SH h) : gi (wi h 6 10 x) 6 10 = x := gi_wi hS pl6 rfl
theorem U6_10 {α : Type} {h : AH} {x : Int32} {K : AH → Option α} (hS : SH h) : hPut h 6 10 7 0 (.int x) K = K (wi h 6 10 x) := L_pi hS pl6 rfl rfl
theorem G6_11 {α : Type} {h : AH} {K : Value → Option α} (hS : SH h) : hGet h 6 11 7 K = K (.int (gi h 6 11)) := L_gi hS pl6 rfl
theorem g6_11 {h : AH} {x : Int32} (hS : SH h) : gi (wi h 6 11 x) 6 11 = x := gi_wi hS pl6 rfl
theorem U6_11 {α : Type} {h : AH} {x : Int32} {K : AH → Option α} (hS : SH h) : hPut h 6 11 7 0 (.int x) K = K (wi h 6 11 x) := L_pi hS pl6 rfl rfl
theorem G6_12 {α : Type} {h : AH} {K : Value → Option α} (hS : SH h) : hGet h 6 12 7 K = K (.long (gj h 6 12)) := L_gj hS pl6 rfl
theorem g6_12 {h : AH} {x : Int64} (hS : SH h) : gj (wj h 6 12 x) 6 12 = x := gj_wj hS pl6 rfl
theorem U6_12 {α : Type} {h : AH} {x : Int64} {K : AH → Option α} (hS : SH h) : hPut h 6 12 7 1 (.long x) K = K (wj h 6 12 x) := L_pj hS pl6 rfl
theorem G6_13 {α : Type} {h : AH} {K : Value → Option α} (hS : SH h) : hGet h 6 13 7 K = K (.long (gj h 6 13)) := L_gj hS pl6 rfl
theorem g6_13 {h : AH} {x : Int64} (hS : SH h) : gj (wj h 6 13 x) 6 13 = x := gj_wj hS pl6 rfl
theorem U6_13 {α : Type} {h : AH} {x : Int64} {K : AH → Option α} (hS : SH h) : hPut h 6 13 7 1 (.long x) K = K (wj h 6 13 x) := L_pj hS pl6 rfl
theorem G6_14 {α : Type} {h : AH} {K : Value → Option α} (hS : SH h) : hGet h 6 14 7 K = K (.long (gj h 6 14)) := L_gj hS pl6 rfl
theorem g6_14 {h : AH} {x : Int64} (hS : SH h) : gj (wj h 6 14 x) 6 14 = x := gj_wj hS pl6 rfl
theorem U6_14 {α : Type} {h : AH} {x : Int64} {K : AH → Option α} (hS : SH h) : hPut h 6 14 7 1 (.long x) K = K (wj h 6 14 x) := L_pj hS pl6 rfl
theorem G6_15 {α : Type} {h : AH} {K : Value → Option α} (hS : SH h) : hGet h 6 15 7 K = K (.long (gj h 6 15)) := L_gj hS pl6 rfl
theorem g6_15 {h : AH} {x : Int64} (hS : SH h) : gj (wj h 6 15 x) 6 15 = x := gj_wj hS pl6 rfl
theorem U6_15 {α : Type} {h : AH} {x : Int64} {K : AH → Option α} (hS : SH h) : hPut h 6 15 7 1 (.long x) K = K (wj h 6 15 x) := L_pj hS pl6 rfl
theorem G6_16 {α : Type} {h : AH} {K : Value → Option α} (hS : SH h) : hGet h 6 16 7 K = K (.long (gj h 6 16)) := L_gj hS pl6 rfl
theorem g6_16 {h : AH} {x : Int64} (hS : SH h) : gj (wj h 6 16 x) 6 16 = x := gj_wj hS pl6 rfl
theorem U6_16 {α : Type} {h : AH} {x : Int64} {K : AH → Option α} (hS : SH h) : hPut h 6 16 7 1 (.long x) K = K (wj h 6 16 x) := L_pj hS pl6 rfl
theorem G6_17 {α : Type} {h : AH} {K : Value → Option α} (hS : SH h) : hGet h 6 17 7 K = K (.long (gj h 6 17)) := L_gj hS pl6 rfl
theorem g6_17 {h : AH} {x : Int64} (hS : SH h) : gj (wj h 6 17 x) 6 17 = x := gj_wj hS pl6 rfl
theorem U6_17 {α : Type} {h : AH} {x : Int64} {K : AH → Option α} (hS : SH h) : hPut h 6 17 7 1 (.long x) K = K (wj h 6 17 x) := L_pj hS pl6 rfl
theorem pl7 : PL[7]? = some (cJ 6 (fun _ => 0)) := rfl
theorem E7 {α : Type} {h : AH} {K : Nat → Option α} (hS : SH h) : hLen h 7 K = K 6 := L_len hS pl7
theorem a7 {h : AH} {f : Nat → Int64} (hS : SH h) : aj (wAJ h 7 f) 7 = f := aj_wAJ hS pl7
theorem I7 {α : Type} {h : AH} {i : Int32} {K : Int64 → Option α} (hS : SH h) (hi : vp_in i 6) : hJld h 7 i K = K (aj h 7 (cl i)) := L_hJld hS pl7 hi
theorem W7 {α : Type} {h : AH} {i : Int32} {x : Int64} {K : AH → Option α} (hS : SH h) (hi : vp_in i 6) : hJst h 7 i x K = K (wAJ h 7 (vp_updL (aj h 7) (cl i) x)) := L_hJst hS pl7 hi
theorem pl8 : PL[8]? = some (cJ 6 (fun _ => 0)) := rfl
theorem E8 {α : Type} {h : AH} {K : Nat → Option α} (hS : SH h) : hLen h 8 K = K 6 := L_len hS pl8
theorem a8 {h : AH} {f : Nat → Int64} (hS : SH h) : aj (wAJ h 8 f) 8 = f := aj_wAJ hS pl8
theorem I8 {α : Type} {h : AH} {i : Int32} {K : Int64 → Option α} (hS : SH h) (hi : vp_in i 6) : hJld h 8 i K = K (aj h 8 (cl i)) := L_hJld hS pl8 hi
theorem W8 {α : Type} {h : AH} {i : Int32} {x : Int64} {K : AH → Option α} (hS : SH h) (hi : vp_in i 6) : hJst h 8 i x K = K (wAJ h 8 (vp_updL (aj h 8) (cl i) x)) := L_hJst hS pl8 hi
theorem pl9 : PL[9]? = some (cJ 61 (fun _ => 0)) := rfl
theorem E9 {α : Type} {h : AH} {K : Nat → Option α} (hS : SH h) : hLen h 9 K = K 61 := L_len hS pl9
theorem a9 {h : AH} {f : Nat → Int64} (hS : SH h) : aj (wAJ h 9 f) 9 = f := aj_wAJ hS pl9
theorem I9 {α : Type} {h : AH} {i : Int32} {K : Int64 → Option α} (hS : SH h) (hi : vp_in i 61) : hJld h 9 i K = K (aj h 9 (cl i)) := L_hJld hS pl9 hi
theorem W9 {α : Type} {h : AH} {i : Int32} {x : Int64} {K : AH → Option α} (hS : SH h) (hi : vp_in i 61) : hJst h 9 i x K = K (wAJ h 9 (vp_updL (aj h 9) (cl i) x)) := L_hJst hS pl9 hi
theorem pl10 : PL[10]? = some (cJ 61 (fun _ => 0)) := rfl
theorem E10 {α : Type} {h : AH} {K : Nat → Option α} (hS : SH h) : hLen h 10 K = K 61 := L_len hS pl10
theorem a10 {h : AH} {f : Nat → Int64} (hS : SH h) : aj (wAJ h 10 f) 10 = f := aj_wAJ hS pl10
theorem I10 {α : Type} {h : AH} {i : Int32} {K : Int64 → Option α} (hS : SH h) (hi : vp_in i 61) : hJld h 10 i K = K (aj h 10 (cl i)) := L_hJld hS pl10 hi
theorem W10 {α : Type} {h : AH} {i : Int32} {x : Int64} {K : AH → Option α} (hS : SH h) (hi : vp_in i 61) : hJst h 10 i x K = K (wAJ h 10 (vp_updL (aj h 10) (cl i) x)) := L_hJst hS pl10 hi
theorem pl11 : PL[11]? = some (cJ 61 (fun _ => 0)) := rfl
theorem E11 {α : Type} {h : AH} {K : Nat → Option α} (hS : SH h) : hLen h 11 K = K 61 := L_len hS pl11
theorem a11 {h : AH} {f : Nat → Int64} (hS : SH h) : aj (wAJ h 11 f) 11 = f := aj_wAJ hS pl11
theorem I11 {α : Type} {h : AH} {i : Int32} {K : Int64 → Option α} (hS : SH h) (hi : vp_in i 61) : hJld h 11 i K = K (aj h 11 (cl i)) := L_hJld hS pl11 hi
theorem W11 {α : Type} {h : AH} {i : Int32} {x : Int64} {K : AH → Option α} (hS : SH h) (hi : vp_in i 61) : hJst h 11 i x K = K (wAJ h 11 (vp_updL (aj h 11) (cl i) x)) := L_hJst hS pl11 hi
theorem pl12 : PL[12]? = some (cJ 61 (fun _ => 0)) := rfl
theorem E12 {α : Type} {h : AH} {K : Nat → Option α} (hS : SH h) : hLen h 12 K = K 61 := L_len hS pl12
theorem a12 {h : AH} {f : Nat → Int64} (hS : SH h) : aj (wAJ h 12 f) 12 = f := aj_wAJ hS pl12
theorem I12 {α : Type} {h : AH} {i : Int32} {K : Int64 → Option α} (hS : SH h) (hi : vp_in i 61) : hJld h 12 i K = K (aj h 12 (cl i)) := L_hJld hS pl12 hi
theorem W12 {α : Type} {h : AH} {i : Int32} {x : Int64} {K : AH → Option α} (hS : SH h) (hi : vp_in i 61) : hJst h 12 i x K = K (wAJ h 12 (vp_updL (aj h 12) (cl i) x)) := L_hJst hS pl12 hi
theorem pl13 : PL[13]? = some (cZ 61 (fun _ => 0)) := rfl
theorem E13 {α : Type} {h : AH} {K : Nat → Option α} (hS : SH h) : hLen h 13 K = K 61 := L_len hS pl13
theorem a13 {h : AH} {f : Nat → Int32} (hS : SH h) : ai (wAI h 13 f) 13 = f := ai_wAI hS pl13
theorem I13 {α : Type} {h : AH} {i : Int32} {K : Int32 → Option α} (hS : SH h) (hi : vp_in i 61) : hBld h 13 i K = K (ai h 13 (cl i)) := L_hBld hS pl13 hi
theorem W13 {α : Type} {h : AH} {i x : Int32} {K : AH → Option α} (hS : SH h) (hi : vp_in i 61) : hBst h 13 i x K = K (wAI h 13 (upd (ai h 13) (cl i) (vp_nar .boolean x))) := L_hBst hS pl13 hi
theorem pl14 : PL[14]? = some (cI 61 (fun _ => 0)) := rfl
theorem E14 {α : Type} {h : AH} {K : Nat → Option α} (hS : SH h) : hLen h 14 K = K 61 := L_len hS pl14
theorem a14 {h : AH} {f : Nat → Int32} (hS : SH h) : ai (wAI h 14 f) 14 = f := ai_wAI hS pl14
theorem I14 {α : Type} {h : AH} {i : Int32} {K : Int32 → Option α} (hS : SH h) (hi : vp_in i 61) : hIld h 14 i K = K (ai h 14 (cl i)) := L_hIld hS pl14 hi
theorem W14 {α : Type} {h : AH} {i x : Int32} {K : AH → Option α} (hS : SH h) (hi : vp_in i 61) : hIst h 14 i x K = K (wAI h 14 (upd (ai h 14) (cl i) x)) := L_hIst hS pl14 hi
theorem pl15 : PL[15]? = some (cI 20 (fun _ => 0)) := rfl
theorem E15 {α : Type} {h : AH} {K : Nat → Option α} (hS : SH h) : hLen h 15 K = K 20 := L_len hS pl15
theorem a15 {h : AH} {f : Nat → Int32} (hS : SH h) : ai (wAI h 15 f) 15 = f := ai_wAI hS pl15
theorem I15 {α : Type} {h : AH} {i : Int32} {K : Int32 → Option α} (hS : SH h) (hi : vp_in i 20) : hIld h 15 i K = K (ai h 15 (cl i)) := L_hIld hS pl15 hi
theorem W15 {α : Type} {h : AH} {i x : Int32} {K : AH → Option α} (hS : SH h) (hi : vp_in i 20) : hIst h 15 i x K = K (wAI h 15 (upd (ai h 15) (cl i) x)) := L_hIst hS pl15 hi
theorem pl16 : PL[16]? = some (cO 8 [.ref 17, .int 0]) := rfl
theorem O16 {h : AH} {as : List Value} (hS : SH h) : isO h 8 (.ref 16 :: as) = true := (L_isO hS pl16).trans (beq_self_eq_true _)
theorem G16_0 {α : Type} {h : AH} {K : Value → Option α} (hS : SH h) : hGet h 16 0 8 K = K (.ref 17) := L_gc hS pl16 rfl
theorem G16_1 {α : Type} {h : AH} {K : Value → Option α} (hS : SH h) : hGet h 16 1 8 K = K (.int (gi h 16 1)) := L_gi hS pl16 rfl
theorem g16_1 {h : AH} {x : Int32} (hS : SH h) : gi (wi h 16 1 x) 16 1 = x := gi_wi hS pl16 rfl
theorem U16_1 {α : Type} {h : AH} {x : Int32} {K : AH → Option α} (hS : SH h) : hPut h 16 1 8 0 (.int x) K = K (wi h 16 1 x) := L_pi hS pl16 rfl rfl
theorem pl17 : PL[17]? = some (cI 128 (fun _ => 0)) := rfl
theorem E17 {α : Type} {h : AH} {K : Nat → Option α} (hS : SH h) : hLen h 17 K = K 128 := L_len hS pl17
theorem a17 {h : AH} {f : Nat → Int32} (hS : SH h) : ai (wAI h 17 f) 17 = f := ai_wAI hS pl17
theorem I17 {α : Type} {h : AH} {i : Int32} {K : Int32 → Option α} (hS : SH h) (hi : vp_in i 128) : hIld h 17 i K = K (ai h 17 (cl i)) := L_hIld hS pl17 hi
theorem W17 {α : Type} {h : AH} {i x : Int32} {K : AH → Option α} (hS : SH h) (hi : vp_in i 128) : hIst h 17 i x K = K (wAI h 17 (upd (ai h 17) (cl i) x)) := L_hIst hS pl17 hi
theorem pl18 : PL[18]? = some (cO 3 [.int 0, .ref 19, .ref 20, .ref 21, .int 0, .long 0, .long 0, .long 0, .long 0]) := rfl
theorem O18 {h : AH} {as : List Value} (hS : SH h) : isO h 3 (.ref 18 :: as) = true := (L_isO hS pl18).trans (beq_self_eq_true _)
theorem G18_0 {α : Type} {h : AH} {K : Value → Option α} (hS : SH h) : hGet h 18 0 3 K = K (.int (gi h 18 0)) := L_gi hS pl18 rfl
theorem g18_0 {h : AH} {x : Int32} (hS : SH h) : gi (wi h 18 0 x) 18 0 = x := gi_wi hS pl18 rfl
theorem U18_0 {α : Type} {h : AH} {x : Int32} {K : AH → Option α} (hS : SH h) (hx : x = 0 ∨ x = 1) : hPut h 18 0 3 2 (.int x) K = K (wi h 18 0 x) := L_pi hS pl18 rfl (decide_eq_true hx)
theorem G18_1 {α : Type} {h : AH} {K : Value → Option α} (hS : SH h) : hGet h 18 1 3 K = K (.ref 19) := L_gc hS pl18 rfl
theorem G18_2 {α : Type} {h : AH} {K : Value → Option α} (hS : SH h) : hGet h 18 2 3 K = K (.ref 20) := L_gc hS pl18 rfl
theorem G18_3 {α : Type} {h : AH} {K : Value → Option α} (hS : SH h) : hGet h 18 3 3 K = K (.ref 21) := L_gc hS pl18 rfl
theorem G18_4 {α : Type} {h : AH} {K : Value → Option α} (hS : SH h) : hGet h 18 4 3 K = K (.int (gi h 18 4)) := L_gi hS pl18 rfl
theorem g18_4 {h : AH} {x : Int32} (hS : SH h) : gi (wi h 18 4 x) 18 4 = x := gi_wi hS pl18 rfl
theorem U18_4 {α : Type} {h : AH} {x : Int32} {K : AH → Option α} (hS : SH h) : hPut h 18 4 3 0 (.int x) K = K (wi h 18 4 x) := L_pi hS pl18 rfl rfl
theorem G18_5 {α : Type} {h : AH} {K : Value → Option α} (hS : SH h) : hGet h 18 5 3 K = K (.long (gj h 18 5)) := L_gj hS pl18 rfl
theorem g18_5 {h : AH} {x : Int64} (hS : SH h) : gj (wj h 18 5 x) 18 5 = x := gj_wj hS pl18 rfl
theorem U18_5 {α : Type} {h : AH} {x : Int64} {K : AH → Option α} (hS : SH h) : hPut h 18 5 3 1 (.long x) K = K (wj h 18 5 x) := L_pj hS pl18 rfl
theorem G18_6 {α : Type} {h : AH} {K : Value → Option α} (hS : SH h) : hGet h 18 6 3 K = K (.long (gj h 18 6)) := L_gj hS pl18 rfl
theorem g18_6 {h : AH} {x : Int64} (hS : SH h) : gj (wj h 18 6 x) 18 6 = x := gj_wj hS pl18 rfl
theorem U18_6 {α : Type} {h : AH} {x : Int64} {K : AH → Option α} (hS : SH h) : hPut h 18 6 3 1 (.long x) K = K (wj h 18 6 x) := L_pj hS pl18 rfl
theorem G18_7 {α : Type} {h : AH} {K : Value → Option α} (hS : SH h) : hGet h 18 7 3 K = K (.long (gj h 18 7)) := L_gj hS pl18 rfl
theorem g18_7 {h : AH} {x : Int64} (hS : SH h) : gj (wj h 18 7 x) 18 7 = x := gj_wj hS pl18 rfl
theorem U18_7 {α : Type} {h : AH} {x : Int64} {K : AH → Option α} (hS : SH h) : hPut h 18 7 3 1 (.long x) K = K (wj h 18 7 x) := L_pj hS pl18 rfl
theorem G18_8 {α : Type} {h : AH} {K : Value → Option α} (hS : SH h) : hGet h 18 8 3 K = K (.long (gj h 18 8)) := L_gj hS pl18 rfl
theorem g18_8 {h : AH} {x : Int64} (hS : SH h) : gj (wj h 18 8 x) 18 8 = x := gj_wj hS pl18 rfl
theorem U18_8 {α : Type} {h : AH} {x : Int64} {K : AH → Option α} (hS : SH h) : hPut h 18 8 3 1 (.long x) K = K (wj h 18 8 x) := L_pj hS pl18 rfl
theorem pl19 : PL[19]? = some (cO 0 [.long 0, .long 0, .int 0]) := rfl
theorem O19 {h : AH} {as : List Value} (hS : SH h) : isO h 0 (.ref 19 :: as) = true := (L_isO hS pl19).trans (beq_self_eq_true _)
theorem G19_0 {α : Type} {h : AH} {K : Value → Option α} (hS : SH h) : hGet h 19 0 0 K = K (.long (gj h 19 0)) := L_gj hS pl19 rfl
theorem g19_0 {h : AH} {x : Int64} (hS : SH h) : gj (wj h 19 0 x) 19 0 = x := gj_wj hS pl19 rfl
theorem U19_0 {α : Type} {h : AH} {x : Int64} {K : AH → Option α} (hS : SH h) : hPut h 19 0 0 1 (.long x) K = K (wj h 19 0 x) := L_pj hS pl19 rfl
theorem G19_1 {α : Type} {h : AH} {K : Value → Option α} (hS : SH h) : hGet h 19 1 0 K = K (.long (gj h 19 1)) := L_gj hS pl19 rfl
theorem g19_1 {h : AH} {x : Int64} (hS : SH h) : gj (wj h 19 1 x) 19 1 = x := gj_wj hS pl19 rfl
theorem U19_1 {α : Type} {h : AH} {x : Int64} {K : AH → Option α} (hS : SH h) : hPut h 19 1 0 1 (.long x) K = K (wj h 19 1 x) := L_pj hS pl19 rfl
theorem G19_2 {α : Type} {h : AH} {K : Value → Option α} (hS : SH h) : hGet h 19 2 0 K = K (.int (gi h 19 2)) := L_gi hS pl19 rfl
theorem g19_2 {h : AH} {x : Int32} (hS : SH h) : gi (wi h 19 2 x) 19 2 = x := gi_wi hS pl19 rfl
theorem U19_2 {α : Type} {h : AH} {x : Int32} {K : AH → Option α} (hS : SH h) : hPut h 19 2 0 0 (.int x) K = K (wi h 19 2 x) := L_pi hS pl19 rfl rfl
theorem pl20 : PL[20]? = some (cO 0 [.long 0, .long 0, .int 0]) := rfl
theorem O20 {h : AH} {as : List Value} (hS : SH h) : isO h 0 (.ref 20 :: as) = true := (L_isO hS pl20).trans (beq_self_eq_true _)
theorem G20_0 {α : Type} {h : AH} {K : Value → Option α} (hS : SH h) : hGet h 20 0 0 K = K (.long (gj h 20 0)) := L_gj hS pl20 rfl
theorem g20_0 {h : AH} {x : Int64} (hS : SH h) : gj (wj h 20 0 x) 20 0 = x := gj_wj hS pl20 rfl
theorem U20_0 {α : Type} {h : AH} {x : Int64} {K : AH → Option α} (hS : SH h) : hPut h 20 0 0 1 (.long x) K = K (wj h 20 0 x) := L_pj hS pl20 rfl
theorem G20_1 {α : Type} {h : AH} {K : Value → Option α} (hS : SH h) : hGet h 20 1 0 K = K (.long (gj h 20 1)) := L_gj hS pl20 rfl
theorem g20_1 {h : AH} {x : Int64} (hS : SH h) : gj (wj h 20 1 x) 20 1 = x := gj_wj hS pl20 rfl
theorem U20_1 {α : Type} {h : AH} {x : Int64} {K : AH → Option α} (hS : SH h) : hPut h 20 1 0 1 (.long x) K = K (wj h 20 1 x) := L_pj hS pl20 rfl
theorem G20_2 {α : Type} {h : AH} {K : Value → Option α} (hS : SH h) : hGet h 20 2 0 K = K (.int (gi h 20 2)) := L_gi hS pl20 rfl
theorem g20_2 {h : AH} {x : Int32} (hS : SH h) : gi (wi h 20 2 x) 20 2 = x := gi_wi hS pl20 rfl
theorem U20_2 {α : Type} {h : AH} {x : Int32} {K : AH → Option α} (hS : SH h) : hPut h 20 2 0 0 (.int x) K = K (wi h 20 2 x) := L_pi hS pl20 rfl rfl
theorem pl21 : PL[21]? = some (cI 128 (fun _ => 0)) := rfl
theorem E21 {α : Type} {h : AH} {K : Nat → Option α} (hS : SH h) : hLen h 21 K = K 128 := L_len hS pl21
theorem a21 {h : AH} {f : Nat → Int32} (hS : SH h) : ai (wAI h 21 f) 21 = f := ai_wAI hS pl21
theorem I21 {α : Type} {h : AH} {i : Int32} {K : Int32 → Option α} (hS : SH h) (hi : vp_in i 128) : hIld h 21 i K = K (ai h 21 (cl i)) := L_hIld hS pl21 hi
theorem W21 {α : Type} {h : AH} {i x : Int32} {K : AH → Option α} (hS : SH h) (hi : vp_in i 128) : hIst h 21 i x K = K (wAI h 21 (upd (ai h 21) (cl i) x)) := L_hIst hS pl21 hi
theorem pl22 : PL[22]? = some (cR "RoundMaps$Net" 4 (fun i => [58, 62, 66, 70][i]?)) := rfl
theorem E22 {α : Type} {h : AH} {K : Nat → Option α} (hS : SH h) : hLen h 22 K = K 4 := L_len hS pl22
theorem I22 {α : Type} {h : AH} {i : Int32} {K : Value → Option α} (hS : SH h) (hi : vp_in i 4) : hRld h 22 i K = K (va_rf (ar h 22 (cl i))) := L_hRld hS pl22 hi
theorem a22 {h : AH} {i : Nat} (hS : SH h) (hi : i < 4) : ar h 22 i = [58, 62, 66, 70][i]? := ar_const hS pl22 hi (by rcases i with _ | _ | _ | _ | i <;> first | omega | (intro z; cases z))
theorem pl23 : PL[23]? = some (cO 10 [.ref 24, .ref 28, .ref 29, .int 0, .int 0, .null, .null, .null]) := rfl
theorem O23 {h : AH} {as : List Value} (hS : SH h) : isO h 10 (.ref 23 :: as) = true := (L_isO hS pl23).trans (beq_self_eq_true _)
theorem G23_0 {α : Type} {h : AH} {K : Value → Option α} (hS : SH h) : hGet h 23 0 10 K = K (.ref 24) := L_gc hS pl23 rfl
theorem G23_1 {α : Type} {h : AH} {K : Value → Option α} (hS : SH h) : hGet h 23 1 10 K = K (.ref 28) := L_gc hS pl23 rfl
theorem G23_2 {α : Type} {h : AH} {K : Value → Option α} (hS : SH h) : hGet h 23 2 10 K = K (.ref 29) := L_gc hS pl23 rfl
theorem G23_3 {α : Type} {h : AH} {K : Value → Option α} (hS : SH h) : hGet h 23 3 10 K = K (.int (gi h 23 3)) := L_gi hS pl23 rfl
theorem g23_3 {h : AH} {x : Int32} (hS : SH h) : gi (wi h 23 3 x) 23 3 = x := gi_wi hS pl23 rfl
theorem U23_3 {α : Type} {h : AH} {x : Int32} {K : AH → Option α} (hS : SH h) : hPut h 23 3 10 0 (.int x) K = K (wi h 23 3 x) := L_pi hS pl23 rfl rfl
theorem G23_4 {α : Type} {h : AH} {K : Value → Option α} (hS : SH h) : hGet h 23 4 10 K = K (.int (gi h 23 4)) := L_gi hS pl23 rfl
theorem g23_4 {h : AH} {x : Int32} (hS : SH h) : gi (wi h 23 4 x) 23 4 = x := gi_wi hS pl23 rfl
theorem U23_4 {α : Type} {h : AH} {x : Int32} {K : AH → Option α} (hS : SH h) (hx : x = 0 ∨ x = 1) : hPut h 23 4 10 2 (.int x) K = K (wi h 23 4 x) := L_pi hS pl23 rfl (decide_eq_true hx)
theorem G23_5 {α : Type} {h : AH} {K : Value → Option α} (hS : SH h) : hGet h 23 5 10 K = K (.ref (gr h 23 5)) := L_gr hS pl23 rfl
theorem g23_5 {h : AH} {x : Nat} (hS : SH h) : gr (wr h 23 5 x) 23 5 = x := gr_wr hS pl23 rfl
theorem U23_5 {α : Type} {h : AH} {x : Nat} {K : AH → Option α} (hS : SH h) : hPut h 23 5 10 3 (.ref x) K = K (wr h 23 5 x) := L_pr hS pl23 rfl
theorem S23_5 {h : AH} {x : Nat} (hS : SH h) : SH (wr h 23 5 x) := SH_wr hS pl23 rfl
theorem G23_6 {α : Type} {h : AH} {K : Value → Option α} (hS : SH h) : hGet h 23 6 10 K = K (.ref (gr h 23 6)) := L_gr hS pl23 rfl
theorem g23_6 {h : AH} {x : Nat} (hS : SH h) : gr (wr h 23 6 x) 23 6 = x := gr_wr hS pl23 rfl
theorem U23_6 {α : Type} {h : AH} {x : Nat} {K : AH → Option α} (hS : SH h) : hPut h 23 6 10 3 (.ref x) K = K (wr h 23 6 x) := L_pr hS pl23 rfl
theorem S23_6 {h : AH} {x : Nat} (hS : SH h) : SH (wr h 23 6 x) := SH_wr hS pl23 rfl
theorem G23_7 {α : Type} {h : AH} {K : Value → Option α} (hS : SH h) : hGet h 23 7 10 K = K (.ref (gr h 23 7)) := L_gr hS pl23 rfl
theorem g23_7 {h : AH} {x : Nat} (hS : SH h) : gr (wr h 23 7 x) 23 7 = x := gr_wr hS pl23 rfl
theorem U23_7 {α : Type} {h : AH} {x : Nat} {K : AH → Option α} (hS : SH h) : hPut h 23 7 10 3 (.ref x) K = K (wr h 23 7 x) := L_pr hS pl23 rfl
theorem S23_7 {h : AH} {x : Nat} (hS : SH h) : SH (wr h 23 7 x) := SH_wr hS pl23 rfl
theorem pl24 : PL[24]? = some (cO 5 [.ref 25, .ref 26, .ref 27, .int 0]) := rfl
theorem O24 {h : AH} {as : List Value} (hS : SH h) : isO h 5 (.ref 24 :: as) = true := (L_isO hS pl24).trans (beq_self_eq_true _)
theorem G24_0 {α : Type} {h : AH} {K : Value → Option α} (hS : SH h) : hGet h 24 0 5 K = K (.ref 25) := L_gc hS pl24 rfl
theorem G24_1 {α : Type} {h : AH} {K : Value → Option α} (hS : SH h) : hGet h 24 1 5 K = K (.ref 26) := L_gc hS pl24 rfl
theorem G24_2 {α : Type} {h : AH} {K : Value → Option α} (hS : SH h) : hGet h 24 2 5 K = K (.ref 27) := L_gc hS pl24 rfl
theorem G24_3 {α : Type} {h : AH} {K : Value → Option α} (hS : SH h) : hGet h 24 3 5 K = K (.int (gi h 24 3)) := L_gi hS pl24 rfl
theorem g24_3 {h : AH} {x : Int32} (hS : SH h) : gi (wi h 24 3 x) 24 3 = x := gi_wi hS pl24 rfl
theorem U24_3 {α : Type} {h : AH} {x : Int32} {K : AH → Option α} (hS : SH h) (hx : x = 0 ∨ x = 1) : hPut h 24 3 5 2 (.int x) K = K (wi h 24 3 x) := L_pi hS pl24 rfl (decide_eq_true hx)
theorem pl25 : PL[25]? = some (cJ 128 (fun _ => 0)) := rfl
theorem E25 {α : Type} {h : AH} {K : Nat → Option α} (hS : SH h) : hLen h 25 K = K 128 := L_len hS pl25
theorem a25 {h : AH} {f : Nat → Int64} (hS : SH h) : aj (wAJ h 25 f) 25 = f := aj_wAJ hS pl25
theorem I25 {α : Type} {h : AH} {i : Int32} {K : Int64 → Option α} (hS : SH h) (hi : vp_in i 128) : hJld h 25 i K = K (aj h 25 (cl i)) := L_hJld hS pl25 hi
theorem W25 {α : Type} {h : AH} {i : Int32} {x : Int64} {K : AH → Option α} (hS : SH h) (hi : vp_in i 128) : hJst h 25 i x K = K (wAJ h 25 (vp_updL (aj h 25) (cl i) x)) := L_hJst hS pl25 hi
theorem pl26 : PL[26]? = some (cJ 128 (fun _ => 0)) := rfl
theorem E26 {α : Type} {h : AH} {K : Nat → Option α} (hS : SH h) : hLen h 26 K = K 128 := L_len hS pl26
theorem a26 {h : AH} {f : Nat → Int64} (hS : SH h) : aj (wAJ h 26 f) 26 = f := aj_wAJ hS pl26
theorem I26 {α : Type} {h : AH} {i : Int32} {K : Int64 → Option α} (hS : SH h) (hi : vp_in i 128) : hJld h 26 i K = K (aj h 26 (cl i)) := L_hJld hS pl26 hi
theorem W26 {α : Type} {h : AH} {i : Int32} {x : Int64} {K : AH → Option α} (hS : SH h) (hi : vp_in i 128) : hJst h 26 i x K = K (wAJ h 26 (vp_updL (aj h 26) (cl i) x)) := L_hJst hS pl26 hi
theorem pl27 : PL[27]? = some (cO 2 [.long 0, .long 0]) := rfl
theorem O27 {h : AH} {as : List Value} (hS : SH h) : isO h 2 (.ref 27 :: as) = true := (L_isO hS pl27).trans (beq_self_eq_true _)
theorem G27_0 {α : Type} {h : AH} {K : Value → Option α} (hS : SH h) : hGet h 27 0 2 K = K (.long (gj h 27 0)) := L_gj hS pl27 rfl
theorem g27_0 {h : AH} {x : Int64} (hS : SH h) : gj (wj h 27 0 x) 27 0 = x := gj_wj hS pl27 rfl
theorem U27_0 {α : Type} {h : AH} {x : Int64} {K : AH → Option α} (hS : SH h) : hPut h 27 0 2 1 (.long x) K = K (wj h 27 0 x) := L_pj hS pl27 rfl
theorem G27_1 {α : Type} {h : AH} {K : Value → Option α} (hS : SH h) : hGet h 27 1 2 K = K (.long (gj h 27 1)) := L_gj hS pl27 rfl
theorem g27_1 {h : AH} {x : Int64} (hS : SH h) : gj (wj h 27 1 x) 27 1 = x := gj_wj hS pl27 rfl
theorem U27_1 {α : Type} {h : AH} {x : Int64} {K : AH → Option α} (hS : SH h) : hPut h 27 1 2 1 (.long x) K = K (wj h 27 1 x) := L_pj hS pl27 rfl
theorem pl28 : PL[28]? = some (cI 128 (fun _ => 0)) := rfl
theorem E28 {α : Type} {h : AH} {K : Nat → Option α} (hS : SH h) : hLen h 28 K = K 128 := L_len hS pl28
theorem a28 {h : AH} {f : Nat → Int32} (hS : SH h) : ai (wAI h 28 f) 28 = f := ai_wAI hS pl28
theorem I28 {α : Type} {h : AH} {i : Int32} {K : Int32 → Option α} (hS : SH h) (hi : vp_in i 128) : hIld h 28 i K = K (ai h 28 (cl i)) := L_hIld hS pl28 hi
theorem W28 {α : Type} {h : AH} {i x : Int32} {K : AH → Option α} (hS : SH h) (hi : vp_in i 128) : hIst h 28 i x K = K (wAI h 28 (upd (ai h 28) (cl i) x)) := L_hIst hS pl28 hi
theorem pl29 : PL[29]? = some (cI 128 (fun _ => 0)) := rfl
theorem E29 {α : Type} {h : AH} {K : Nat → Option α} (hS : SH h) : hLen h 29 K = K 128 := L_len hS pl29
theorem a29 {h : AH} {f : Nat → Int32} (hS : SH h) : ai (wAI h 29 f) 29 = f := ai_wAI hS pl29
theorem I29 {α : Type} {h : AH} {i : Int32} {K : Int32 → Option α} (hS : SH h) (hi : vp_in i 128) : hIld h 29 i K = K (ai h 29 (cl i)) := L_hIld hS pl29 hi
theorem W29 {α : Type} {h : AH} {i x : Int32} {K : AH → Option α} (hS : SH h) (hi : vp_in i 128) : hIst h 29 i x K = K (wAI h 29 (upd (ai h 29) (cl i) x)) := L_hIst hS pl29 hi
theorem pl30 : PL[30]? = some (cO 5 [.ref 31, .ref 32, .ref 33, .int 0]) := rfl
theorem O30 {h : AH} {as : List Value} (hS : SH h) : isO h 5 (.ref 30 :: as) = true := (L_isO hS pl30).trans (beq_self_eq_true _)
theorem G30_0 {α : Type} {h : AH} {K : Value → Option α} (hS : SH h) : hGet h 30 0 5 K = K (.ref 31) := L_gc hS pl30 rfl
theorem G30_1 {α : Type} {h : AH} {K : Value → Option α} (hS : SH h) : hGet h 30 1 5 K = K (.ref 32) := L_gc hS pl30 rfl
theorem G30_2 {α : Type} {h : AH} {K : Value → Option α} (hS : SH h) : hGet h 30 2 5 K = K (.ref 33) := L_gc hS pl30 rfl
theorem G30_3 {α : Type} {h : AH} {K : Value → Option α} (hS : SH h) : hGet h 30 3 5 K = K (.int (gi h 30 3)) := L_gi hS pl30 rfl
theorem g30_3 {h : AH} {x : Int32} (hS : SH h) : gi (wi h 30 3 x) 30 3 = x := gi_wi hS pl30 rfl
theorem U30_3 {α : Type} {h : AH} {x : Int32} {K : AH → Option α} (hS : SH h) (hx : x = 0 ∨ x = 1) : hPut h 30 3 5 2 (.int x) K = K (wi h 30 3 x) := L_pi hS pl30 rfl (decide_eq_true hx)
theorem pl31 : PL[31]? = some (cJ 128 (fun _ => 0)) := rfl
theorem E31 {α : Type} {h : AH} {K : Nat → Option α} (hS : SH h) : hLen h 31 K = K 128 := L_len hS pl31
theorem a31 {h : AH} {f : Nat → Int64} (hS : SH h) : aj (wAJ h 31 f) 31 = f := aj_wAJ hS pl31
theorem I31 {α : Type} {h : AH} {i : Int32} {K : Int64 → Option α} (hS : SH h) (hi : vp_in i 128) : hJld h 31 i K = K (aj h 31 (cl i)) := L_hJld hS pl31 hi
theorem W31 {α : Type} {h : AH} {i : Int32} {x : Int64} {K : AH → Option α} (hS : SH h) (hi : vp_in i 128) : hJst h 31 i x K = K (wAJ h 31 (vp_updL (aj h 31) (cl i) x)) := L_hJst hS pl31 hi
theorem pl32 : PL[32]? = some (cJ 128 (fun _ => 0)) := rfl
theorem E32 {α : Type} {h : AH} {K : Nat → Option α} (hS : SH h) : hLen h 32 K = K 128 := L_len hS pl32
theorem a32 {h : AH} {f : Nat → Int64} (hS : SH h) : aj (wAJ h 32 f) 32 = f := aj_wAJ hS pl32
theorem I32 {α : Type} {h : AH} {i : Int32} {K : Int64 → Option α} (hS : SH h) (hi : vp_in i 128) : hJld h 32 i K = K (aj h 32 (cl i)) := L_hJld hS pl32 hi
theorem W32 {α : Type} {h : AH} {i : Int32} {x : Int64} {K : AH → Option α} (hS : SH h) (hi : vp_in i 128) : hJst h 32 i x K = K (wAJ h 32 (vp_updL (aj h 32) (cl i) x)) := L_hJst hS pl32 hi
theorem pl33 : PL[33]? = some (cO 2 [.long 0, .long 0]) := rfl
theorem O33 {h : AH} {as : List Value} (hS : SH h) : isO h 2 (.ref 33 :: as) = true := (L_isO hS pl33).trans (beq_self_eq_true _)
theorem G33_0 {α : Type} {h : AH} {K : Value → Option α} (hS : SH h) : hGet h 33 0 2 K = K (.long (gj h 33 0)) := L_gj hS pl33 rfl
theorem g33_0 {h : AH} {x : Int64} (hS : SH h) : gj (wj h 33 0 x) 33 0 = x := gj_wj hS pl33 rfl
theorem U33_0 {α : Type} {h : AH} {x : Int64} {K : AH → Option α} (hS : SH h) : hPut h 33 0 2 1 (.long x) K = K (wj h 33 0 x) := L_pj hS pl33 rfl
theorem G33_1 {α : Type} {h : AH} {K : Value → Option α} (hS : SH h) : hGet h 33 1 2 K = K (.long (gj h 33 1)) := L_gj hS pl33 rfl
theorem g33_1 {h : AH} {x : Int64} (hS : SH h) : gj (wj h 33 1 x) 33 1 = x := gj_wj hS pl33 rfl
theorem U33_1 {α : Type} {h : AH} {x : Int64} {K : AH → Option α} (hS : SH h) : hPut h 33 1 2 1 (.long x) K = K (wj h 33 1 x) := L_pj hS pl33 rfl
theorem pl34 : PL[34]? = some (cO 5 [.ref 35, .ref 36, .ref 37, .int 0]) := rfl
theorem O34 {h : AH} {as : List Value} (hS : SH h) : isO h 5 (.ref 34 :: as) = true := (L_isO hS pl34).trans (beq_self_eq_true _)
theorem G34_0 {α : Type} {h : AH} {K : Value → Option α} (hS : SH h) : hGet h 34 0 5 K = K (.ref 35) := L_gc hS pl34 rfl
theorem G34_1 {α : Type} {h : AH} {K : Value → Option α} (hS : SH h) : hGet h 34 1 5 K = K (.ref 36) := L_gc hS pl34 rfl
theorem G34_2 {α : Type} {h : AH} {K : Value → Option α} (hS : SH h) : hGet h 34 2 5 K = K (.ref 37) := L_gc hS pl34 rfl
theorem G34_3 {α : Type} {h : AH} {K : Value → Option α} (hS : SH h) : hGet h 34 3 5 K = K (.int (gi h 34 3)) := L_gi hS pl34 rfl
theorem g34_3 {h : AH} {x : Int32} (hS : SH h) : gi (wi h 34 3 x) 34 3 = x := gi_wi hS pl34 rfl
theorem U34_3 {α : Type} {h : AH} {x : Int32} {K : AH → Option α} (hS : SH h) (hx : x = 0 ∨ x = 1) : hPut h 34 3 5 2 (.int x) K = K (wi h 34 3 x) := L_pi hS pl34 rfl (decide_eq_true hx)
theorem pl35 : PL[35]? = some (cJ 128 (fun _ => 0)) := rfl
theorem E35 {α : Type} {h : AH} {K : Nat → Option α} (hS : SH h) : hLen h 35 K = K 128 := L_len hS pl35
theorem a35 {h : AH} {f : Nat → Int64} (hS : SH h) : aj (wAJ h 35 f) 35 = f := aj_wAJ hS pl35
theorem I35 {α : Type} {h : AH} {i : Int32} {K : Int64 → Option α} (hS : SH h) (hi : vp_in i 128) : hJld h 35 i K = K (aj h 35 (cl i)) := L_hJld hS pl35 hi
theorem W35 {α : Type} {h : AH} {i : Int32} {x : Int64} {K : AH → Option α} (hS : SH h) (hi : vp_in i 128) : hJst h 35 i x K = K (wAJ h 35 (vp_updL (aj h 35) (cl i) x)) := L_hJst hS pl35 hi
theorem pl36 : PL[36]? = some (cJ 128 (fun _ => 0)) := rfl
theorem E36 {α : Type} {h : AH} {K : Nat → Option α} (hS : SH h) : hLen h 36 K = K 128 := L_len hS pl36
theorem a36 {h : AH} {f : Nat → Int64} (hS : SH h) : aj (wAJ h 36 f) 36 = f := aj_wAJ hS pl36
theorem I36 {α : Type} {h : AH} {i : Int32} {K : Int64 → Option α} (hS : SH h) (hi : vp_in i 128) : hJld h 36 i K = K (aj h 36 (cl i)) := L_hJld hS pl36 hi
theorem W36 {α : Type} {h : AH} {i : Int32} {x : Int64} {K : AH → Option α} (hS : SH h) (hi : vp_in i 128) : hJst h 36 i x K = K (wAJ h 36 (vp_updL (aj h 36) (cl i) x)) := L_hJst hS pl36 hi
theorem pl37 : PL[37]? = some (cO 2 [.long 0, .long 0]) := rfl
theorem O37 {h : AH} {as : List Value} (hS : SH h) : isO h 2 (.ref 37 :: as) = true := (L_isO hS pl37).trans (beq_self_eq_true _)
theorem G37_0 {α : Type} {h : AH} {K : Value → Option α} (hS : SH h) : hGet h 37 0 2 K = K (.long (gj h 37 0)) := L_gj hS pl37 rfl
theorem g37_0 {h : AH} {x : Int64} (hS : SH h) : gj (wj h 37 0 x) 37 0 = x := gj_wj hS pl37 rfl
theorem U37_0 {α : Type} {h : AH} {x : Int64} {K : AH → Option α} (hS : SH h) : hPut h 37 0 2 1 (.long x) K = K (wj h 37 0 x) := L_pj hS pl37 rfl
theorem G37_1 {α : Type} {h : AH} {K : Value → Option α} (hS : SH h) : hGet h 37 1 2 K = K (.long (gj h 37 1)) := L_gj hS pl37 rfl
theorem g37_1 {h : AH} {x : Int64} (hS : SH h) : gj (wj h 37 1 x) 37 1 = x := gj_wj hS pl37 rfl
theorem U37_1 {α : Type} {h : AH} {x : Int64} {K : AH → Option α} (hS : SH h) : hPut h 37 1 2 1 (.long x) K = K (wj h 37 1 x) := L_pj hS pl37 rfl
theorem pl38 : PL[38]? = some (cO 5 [.ref 39, .ref 40, .ref 41, .int 0]) := rfl
theorem O38 {h : AH} {as : List Value} (hS : SH h) : isO h 5 (.ref 38 :: as) = true := (L_isO hS pl38).trans (beq_self_eq_true _)
theorem G38_0 {α : Type} {h : AH} {K : Value → Option α} (hS : SH h) : hGet h 38 0 5 K = K (.ref 39) := L_gc hS pl38 rfl
theorem G38_1 {α : Type} {h : AH} {K : Value → Option α} (hS : SH h) : hGet h 38 1 5 K = K (.ref 40) := L_gc hS pl38 rfl
theorem G38_2 {α : Type} {h : AH} {K : Value → Option α} (hS : SH h) : hGet h 38 2 5 K = K (.ref 41) := L_gc hS pl38 rfl
theorem G38_3 {α : Type} {h : AH} {K : Value → Option α} (hS : SH h) : hGet h 38 3 5 K = K (.int (gi h 38 3)) := L_gi hS pl38 rfl
theorem g38_3 {h : AH} {x : Int32} (hS : SH h) : gi (wi h 38 3 x) 38 3 = x := gi_wi hS pl38 rfl
theorem U38_3 {α : Type} {h : AH} {x : Int32} {K : AH → Option α} (hS : SH h) (hx : x = 0 ∨ x = 1) : hPut h 38 3 5 2 (.int x) K = K (wi h 38 3 x) := L_pi hS pl38 rfl (decide_eq_true hx)
theorem pl39 : PL[39]? = some (cJ 128 (fun _ => 0)) := rfl
theorem E39 {α : Type} {h : AH} {K : Nat → Option α} (hS : SH h) : hLen h 39 K = K 128 := L_len hS pl39
theorem a39 {h : AH} {f : Nat → Int64} (hS : SH h) : aj (wAJ h 39 f) 39 = f := aj_wAJ hS pl39
theorem I39 {α : Type} {h : AH} {i : Int32} {K : Int64 → Option α} (hS : SH h) (hi : vp_in i 128) : hJld h 39 i K = K (aj h 39 (cl i)) := L_hJld hS pl39 hi
theorem W39 {α : Type} {h : AH} {i : Int32} {x : Int64} {K : AH → Option α} (hS : SH h) (hi : vp_in i 128) : hJst h 39 i x K = K (wAJ h 39 (vp_updL (aj h 39) (cl i) x)) := L_hJst hS pl39 hi
theorem pl40 : PL[40]? = some (cJ 128 (fun _ => 0)) := rfl
theorem E40 {α : Type} {h : AH} {K : Nat → Option α} (hS : SH h) : hLen h 40 K = K 128 := L_len hS pl40
theorem a40 {h : AH} {f : Nat → Int64} (hS : SH h) : aj (wAJ h 40 f) 40 = f := aj_wAJ hS pl40
theorem I40 {α : Type} {h : AH} {i : Int32} {K : Int64 → Option α} (hS : SH h) (hi : vp_in i 128) : hJld h 40 i K = K (aj h 40 (cl i)) := L_hJld hS pl40 hi
theorem W40 {α : Type} {h : AH} {i : Int32} {x : Int64} {K : AH → Option α} (hS : SH h) (hi : vp_in i 128) : hJst h 40 i x K = K (wAJ h 40 (vp_updL (aj h 40) (cl i) x)) := L_hJst hS pl40 hi
theorem pl41 : PL[41]? = some (cO 2 [.long 0, .long 0]) := rfl
theorem O41 {h : AH} {as : List Value} (hS : SH h) : isO h 2 (.ref 41 :: as) = true := (L_isO hS pl41).trans (beq_self_eq_true _)
theorem G41_0 {α : Type} {h : AH} {K : Value → Option α} (hS : SH h) : hGet h 41 0 2 K = K (.long (gj h 41 0)) := L_gj hS pl41 rfl
theorem g41_0 {h : AH} {x : Int64} (hS : SH h) : gj (wj h 41 0 x) 41 0 = x := gj_wj hS pl41 rfl
theorem U41_0 {α : Type} {h : AH} {x : Int64} {K : AH → Option α} (hS : SH h) : hPut h 41 0 2 1 (.long x) K = K (wj h 41 0 x) := L_pj hS pl41 rfl
theorem G41_1 {α : Type} {h : AH} {K : Value → Option α} (hS : SH h) : hGet h 41 1 2 K = K (.long (gj h 41 1)) := L_gj hS pl41 rfl
theorem g41_1 {h : AH} {x : Int64} (hS : SH h) : gj (wj h 41 1 x) 41 1 = x := gj_wj hS pl41 rfl
theorem U41_1 {α : Type} {h : AH} {x : Int64} {K : AH → Option α} (hS : SH h) : hPut h 41 1 2 1 (.long x) K = K (wj h 41 1 x) := L_pj hS pl41 rfl
theorem pl42 : PL[42]? = some (cR "RoundMaps$Cells" 4 (fun i => [74, 75, 76, 77][i]?)) := rfl
theorem E42 {α : Type} {h : AH} {K : Nat → Option α} (hS : SH h) : hLen h 42 K = K 4 := L_len hS pl42
theorem I42 {α : Type} {h : AH} {i : Int32} {K : Value → Option α} (hS : SH h) (hi : vp_in i 4) : hRld h 42 i K = K (va_rf (ar h 42 (cl i))) := L_hRld hS pl42 hi
theorem a42 {h : AH} {i : Nat} (hS : SH h) (hi : i < 4) : ar h 42 i = [74, 75, 76, 77][i]? := ar_const hS pl42 hi (by rcases i with _ | _ | _ | _ | i <;> first | omega | (intro z; cases z))
theorem pl43 : PL[43]? = some (cO 2 [.long 0, .long 0]) := rfl
theorem O43 {h : AH} {as : List Value} (hS : SH h) : isO h 2 (.ref 43 :: as) = true := (L_isO hS pl43).trans (beq_self_eq_true _)
theorem G43_0 {α : Type} {h : AH} {K : Value → Option α} (hS : SH h) : hGet h 43 0 2 K = K (.long (gj h 43 0)) := L_gj hS pl43 rfl
theorem g43_0 {h : AH} {x : Int64} (hS : SH h) : gj (wj h 43 0 x) 43 0 = x := gj_wj hS pl43 rfl
theorem U43_0 {α : Type} {h : AH} {x : Int64} {K : AH → Option α} (hS : SH h) : hPut h 43 0 2 1 (.long x) K = K (wj h 43 0 x) := L_pj hS pl43 rfl
theorem G43_1 {α : Type} {h : AH} {K : Value → Option α} (hS : SH h) : hGet h 43 1 2 K = K (.long (gj h 43 1)) := L_gj hS pl43 rfl
theorem g43_1 {h : AH} {x : Int64} (hS : SH h) : gj (wj h 43 1 x) 43 1 = x := gj_wj hS pl43 rfl
theorem U43_1 {α : Type} {h : AH} {x : Int64} {K : AH → Option α} (hS : SH h) : hPut h 43 1 2 1 (.long x) K = K (wj h 43 1 x) := L_pj hS pl43 rfl
theorem pl44 : PL[44]? = some (cO 2 [.long 0, .long 0]) := rfl
theorem O44 {h : AH} {as : List Value} (hS : SH h) : isO h 2 (.ref 44 :: as) = true := (L_isO hS pl44).trans (beq_self_eq_true _)
theorem G44_0 {α : Type} {h : AH} {K : Value → Option α} (hS : SH h) : hGet h 44 0 2 K = K (.long (gj h 44 0)) := L_gj hS pl44 rfl
theorem g44_0 {h : AH} {x : Int64} (hS : SH h) : gj (wj h 44 0 x) 44 0 = x := gj_wj hS pl44 rfl
theorem U44_0 {α : Type} {h : AH} {x : Int64} {K : AH → Option α} (hS : SH h) : hPut h 44 0 2 1 (.long x) K = K (wj h 44 0 x) := L_pj hS pl44 rfl
theorem G44_1 {α : Type} {h : AH} {K : Value → Option α} (hS : SH h) : hGet h 44 1 2 K = K (.long (gj h 44 1)) := L_gj hS pl44 rfl
theorem g44_1 {h : AH} {x : Int64} (hS : SH h) : gj (wj h 44 1 x) 44 1 = x := gj_wj hS pl44 rfl
theorem U44_1 {α : Type} {h : AH} {x : Int64} {K : AH → Option α} (hS : SH h) : hPut h 44 1 2 1 (.long x) K = K (wj h 44 1 x) := L_pj hS pl44 rfl
theorem pl45 : PL[45]? = some (cO 1 [.ref 46, .ref 47, .int 0, .ref 48, .null, .null]) := rfl
theorem O45 {h : AH} {as : List Value} (hS : SH h) : isO h 1 (.ref 45 :: as) = true := (L_isO hS pl45).trans (beq_self_eq_true _)
theorem G45_0 {α : Type} {h : AH} {K : Value → Option α} (hS : SH h) : hGet h 45 0 1 K = K (.ref 46) := L_gc hS pl45 rfl
theorem G45_1 {α : Type} {h : AH} {K : Value → Option α} (hS : SH h) : hGet h 45 1 1 K = K (.ref 47) := L_gc hS pl45 rfl
theorem G45_2 {α : Type} {h : AH} {K : Value → Option α} (hS : SH h) : hGet h 45 2 1 K = K (.int (gi h 45 2)) := L_gi hS pl45 rfl
theorem g45_2 {h : AH} {x : Int32} (hS : SH h) : gi (wi h 45 2 x) 45 2 = x := gi_wi hS pl45 rfl
theorem U45_2 {α : Type} {h : AH} {x : Int32} {K : AH → Option α} (hS : SH h) : hPut h 45 2 1 0 (.int x) K = K (wi h 45 2 x) := L_pi hS pl45 rfl rfl
theorem G45_3 {α : Type} {h : AH} {K : Value → Option α} (hS : SH h) : hGet h 45 3 1 K = K (.ref 48) := L_gc hS pl45 rfl
theorem G45_4 {α : Type} {h : AH} {K : Value → Option α} (hS : SH h) : hGet h 45 4 1 K = K (.ref (gr h 45 4)) := L_gr hS pl45 rfl
theorem g45_4 {h : AH} {x : Nat} (hS : SH h) : gr (wr h 45 4 x) 45 4 = x := gr_wr hS pl45 rfl
theorem U45_4 {α : Type} {h : AH} {x : Nat} {K : AH → Option α} (hS : SH h) : hPut h 45 4 1 3 (.ref x) K = K (wr h 45 4 x) := L_pr hS pl45 rfl
theorem S45_4 {h : AH} {x : Nat} (hS : SH h) : SH (wr h 45 4 x) := SH_wr hS pl45 rfl
theorem G45_5 {α : Type} {h : AH} {K : Value → Option α} (hS : SH h) : hGet h 45 5 1 K = K (.ref (gr h 45 5)) := L_gr hS pl45 rfl
theorem g45_5 {h : AH} {x : Nat} (hS : SH h) : gr (wr h 45 5 x) 45 5 = x := gr_wr hS pl45 rfl
theorem U45_5 {α : Type} {h : AH} {x : Nat} {K : AH → Option α} (hS : SH h) : hPut h 45 5 1 3 (.ref x) K = K (wr h 45 5 x) := L_pr hS pl45 rfl
theorem S45_5 {h : AH} {x : Nat} (hS : SH h) : SH (wr h 45 5 x) := SH_wr hS pl45 rfl
theorem pl46 : PL[46]? = some (cI 6 (fun _ => 0)) := rfl
theorem E46 {α : Type} {h : AH} {K : Nat → Option α} (hS : SH h) : hLen h 46 K = K 6 := L_len hS pl46
theorem a46 {h : AH} {f : Nat → Int32} (hS : SH h) : ai (wAI h 46 f) 46 = f := ai_wAI hS pl46
theorem I46 {α : Type} {h : AH} {i : Int32} {K : Int32 → Option α} (hS : SH h) (hi : vp_in i 6) : hIld h 46 i K = K (ai h 46 (cl i)) := L_hIld hS pl46 hi
theorem W46 {α : Type} {h : AH} {i x : Int32} {K : AH → Option α} (hS : SH h) (hi : vp_in i 6) : hIst h 46 i x K = K (wAI h 46 (upd (ai h 46) (cl i) x)) := L_hIst hS pl46 hi
theorem pl47 : PL[47]? = some (cI 6 (fun _ => 0)) := rfl
theorem E47 {α : Type} {h : AH} {K : Nat → Option α} (hS : SH h) : hLen h 47 K = K 6 := L_len hS pl47
theorem a47 {h : AH} {f : Nat → Int32} (hS : SH h) : ai (wAI h 47 f) 47 = f := ai_wAI hS pl47
theorem I47 {α : Type} {h : AH} {i : Int32} {K : Int32 → Option α} (hS : SH h) (hi : vp_in i 6) : hIld h 47 i K = K (ai h 47 (cl i)) := L_hIld hS pl47 hi
theorem W47 {α : Type} {h : AH} {i x : Int32} {K : AH → Option α} (hS : SH h) (hi : vp_in i 6) : hIst h 47 i x K = K (wAI h 47 (upd (ai h 47) (cl i) x)) := L_hIst hS pl47 hi
theorem pl48 : PL[48]? = some (cZ 36 (fun _ => 0)) := rfl
theorem E48 {α : Type} {h : AH} {K : Nat → Option α} (hS : SH h) : hLen h 48 K = K 36 := L_len hS pl48
theorem a48 {h : AH} {f : Nat → Int32} (hS : SH h) : ai (wAI h 48 f) 48 = f := ai_wAI hS pl48
theorem I48 {α : Type} {h : AH} {i : Int32} {K : Int32 → Option α} (hS : SH h) (hi : vp_in i 36) : hBld h 48 i K = K (ai h 48 (cl i)) := L_hBld hS pl48 hi
theorem W48 {α : Type} {h : AH} {i x : Int32} {K : AH → Option α} (hS : SH h) (hi : vp_in i 36) : hBst h 48 i x K = K (wAI h 48 (upd (ai h 48) (cl i) (vp_nar .boolean x))) := L_hBst hS pl48 hi
theorem pl49 : PL[49]? = some (cJ 6 (fun _ => 0)) := rfl
theorem E49 {α : Type} {h : AH} {K : Nat → Option α} (hS : SH h) : hLen h 49 K = K 6 := L_len hS pl49
theorem a49 {h : AH} {f : Nat → Int64} (hS : SH h) : aj (wAJ h 49 f) 49 = f := aj_wAJ hS pl49
theorem I49 {α : Type} {h : AH} {i : Int32} {K : Int64 → Option α} (hS : SH h) (hi : vp_in i 6) : hJld h 49 i K = K (aj h 49 (cl i)) := L_hJld hS pl49 hi
theorem W49 {α : Type} {h : AH} {i : Int32} {x : Int64} {K : AH → Option α} (hS : SH h) (hi : vp_in i 6) : hJst h 49 i x K = K (wAJ h 49 (vp_updL (aj h 49) (cl i) x)) := L_hJst hS pl49 hi
theorem pl50 : PL[50]? = some (cJ 6 (fun _ => 0)) := rfl
theorem E50 {α : Type} {h : AH} {K : Nat → Option α} (hS : SH h) : hLen h 50 K = K 6 := L_len hS pl50
theorem a50 {h : AH} {f : Nat → Int64} (hS : SH h) : aj (wAJ h 50 f) 50 = f := aj_wAJ hS pl50
theorem I50 {α : Type} {h : AH} {i : Int32} {K : Int64 → Option α} (hS : SH h) (hi : vp_in i 6) : hJld h 50 i K = K (aj h 50 (cl i)) := L_hJld hS pl50 hi
theorem W50 {α : Type} {h : AH} {i : Int32} {x : Int64} {K : AH → Option α} (hS : SH h) (hi : vp_in i 6) : hJst h 50 i x K = K (wAJ h 50 (vp_updL (aj h 50) (cl i) x)) := L_hJst hS pl50 hi
theorem pl51 : PL[51]? = some (cO 9 [.ref 52, .int 0, .int 0, .ref 53, .ref 54, .ref 55]) := rfl
theorem O51 {h : AH} {as : List Value} (hS : SH h) : isO h 9 (.ref 51 :: as) = true := (L_isO hS pl51).trans (beq_self_eq_true _)
theorem G51_0 {α : Type} {h : AH} {K : Value → Option α} (hS : SH h) : hGet h 51 0 9 K = K (.ref 52) := L_gc hS pl51 rfl
theorem G51_1 {α : Type} {h : AH} {K : Value → Option α} (hS : SH h) : hGet h 51 1 9 K = K (.int (gi h 51 1)) := L_gi hS pl51 rfl
theorem g51_1 {h : AH} {x : Int32} (hS : SH h) : gi (wi h 51 1 x) 51 1 = x := gi_wi hS pl51 rfl
theorem U51_1 {α : Type} {h : AH} {x : Int32} {K : AH → Option α} (hS : SH h) : hPut h 51 1 9 0 (.int x) K = K (wi h 51 1 x) := L_pi hS pl51 rfl rfl
theorem G51_2 {α : Type} {h : AH} {K : Value → Option α} (hS : SH h) : hGet h 51 2 9 K = K (.int (gi h 51 2)) := L_gi hS pl51 rfl
theorem g51_2 {h : AH} {x : Int32} (hS : SH h) : gi (wi h 51 2 x) 51 2 = x := gi_wi hS pl51 rfl
theorem U51_2 {α : Type} {h : AH} {x : Int32} {K : AH → Option α} (hS : SH h) (hx : x = 0 ∨ x = 1) : hPut h 51 2 9 2 (.int x) K = K (wi h 51 2 x) := L_pi hS pl51 rfl (decide_eq_true hx)
theorem G51_3 {α : Type} {h : AH} {K : Value → Option α} (hS : SH h) : hGet h 51 3 9 K = K (.ref 53) := L_gc hS pl51 rfl
theorem G51_4 {α : Type} {h : AH} {K : Value → Option α} (hS : SH h) : hGet h 51 4 9 K = K (.ref 54) := L_gc hS pl51 rfl
theorem G51_5 {α : Type} {h : AH} {K : Value → Option α} (hS : SH h) : hGet h 51 5 9 K = K (.ref 55) := L_gc hS pl51 rfl
theorem pl52 : PL[52]? = some (cI 4 (fun _ => 0)) := rfl
theorem E52 {α : Type} {h : AH} {K : Nat → Option α} (hS : SH h) : hLen h 52 K = K 4 := L_len hS pl52
theorem a52 {h : AH} {f : Nat → Int32} (hS : SH h) : ai (wAI h 52 f) 52 = f := ai_wAI hS pl52
theorem I52 {α : Type} {h : AH} {i : Int32} {K : Int32 → Option α} (hS : SH h) (hi : vp_in i 4) : hIld h 52 i K = K (ai h 52 (cl i)) := L_hIld hS pl52 hi
theorem W52 {α : Type} {h : AH} {i x : Int32} {K : AH → Option α} (hS : SH h) (hi : vp_in i 4) : hIst h 52 i x K = K (wAI h 52 (upd (ai h 52) (cl i) x)) := L_hIst hS pl52 hi
theorem pl53 : PL[53]? = some (cI 128 (fun _ => 0)) := rfl
theorem E53 {α : Type} {h : AH} {K : Nat → Option α} (hS : SH h) : hLen h 53 K = K 128 := L_len hS pl53
theorem a53 {h : AH} {f : Nat → Int32} (hS : SH h) : ai (wAI h 53 f) 53 = f := ai_wAI hS pl53
theorem I53 {α : Type} {h : AH} {i : Int32} {K : Int32 → Option α} (hS : SH h) (hi : vp_in i 128) : hIld h 53 i K = K (ai h 53 (cl i)) := L_hIld hS pl53 hi
theorem W53 {α : Type} {h : AH} {i x : Int32} {K : AH → Option α} (hS : SH h) (hi : vp_in i 128) : hIst h 53 i x K = K (wAI h 53 (upd (ai h 53) (cl i) x)) := L_hIst hS pl53 hi
theorem pl54 : PL[54]? = some (cI 128 (fun _ => 0)) := rfl
theorem E54 {α : Type} {h : AH} {K : Nat → Option α} (hS : SH h) : hLen h 54 K = K 128 := L_len hS pl54
theorem a54 {h : AH} {f : Nat → Int32} (hS : SH h) : ai (wAI h 54 f) 54 = f := ai_wAI hS pl54
theorem I54 {α : Type} {h : AH} {i : Int32} {K : Int32 → Option α} (hS : SH h) (hi : vp_in i 128) : hIld h 54 i K = K (ai h 54 (cl i)) := L_hIld hS pl54 hi
theorem W54 {α : Type} {h : AH} {i x : Int32} {K : AH → Option α} (hS : SH h) (hi : vp_in i 128) : hIst h 54 i x K = K (wAI h 54 (upd (ai h 54) (cl i) x)) := L_hIst hS pl54 hi
theorem pl55 : PL[55]? = some (cO 2 [.long 0, .long 0]) := rfl
theorem O55 {h : AH} {as : List Value} (hS : SH h) : isO h 2 (.ref 55 :: as) = true := (L_isO hS pl55).trans (beq_self_eq_true _)
theorem G55_0 {α : Type} {h : AH} {K : Value → Option α} (hS : SH h) : hGet h 55 0 2 K = K (.long (gj h 55 0)) := L_gj hS pl55 rfl
theorem g55_0 {h : AH} {x : Int64} (hS : SH h) : gj (wj h 55 0 x) 55 0 = x := gj_wj hS pl55 rfl
theorem U55_0 {α : Type} {h : AH} {x : Int64} {K : AH → Option α} (hS : SH h) : hPut h 55 0 2 1 (.long x) K = K (wj h 55 0 x) := L_pj hS pl55 rfl
theorem G55_1 {α : Type} {h : AH} {K : Value → Option α} (hS : SH h) : hGet h 55 1 2 K = K (.long (gj h 55 1)) := L_gj hS pl55 rfl
theorem g55_1 {h : AH} {x : Int64} (hS : SH h) : gj (wj h 55 1 x) 55 1 = x := gj_wj hS pl55 rfl
theorem U55_1 {α : Type} {h : AH} {x : Int64} {K : AH → Option α} (hS : SH h) : hPut h 55 1 2 1 (.long x) K = K (wj h 55 1 x) := L_pj hS pl55 rfl
theorem pl56 : PL[56]? = some (cI 128 (fun _ => 0)) := rfl
theorem E56 {α : Type} {h : AH} {K : Nat → Option α} (hS : SH h) : hLen h 56 K = K 128 := L_len hS pl56
theorem a56 {h : AH} {f : Nat → Int32} (hS : SH h) : ai (wAI h 56 f) 56 = f := ai_wAI hS pl56
theorem I56 {α : Type} {h : AH} {i : Int32} {K : Int32 → Option α} (hS : SH h) (hi : vp_in i 128) : hIld h 56 i K = K (ai h 56 (cl i)) := L_hIld hS pl56 hi
theorem W56 {α : Type} {h : AH} {i x : Int32} {K : AH → Option α} (hS : SH h) (hi : vp_in i 128) : hIst h 56 i x K = K (wAI h 56 (upd (ai h 56) (cl i) x)) := L_hIst hS pl56 hi
theorem pl57 : PL[57]? = some (cI 12 (fun _ => 0)) := rfl
theorem E57 {α : Type} {h : AH} {K : Nat → Option α} (hS : SH h) : hLen h 57 K = K 12 := L_len hS pl57
theorem a57 {h : AH} {f : Nat → Int32} (hS : SH h) : ai (wAI h 57 f) 57 = f := ai_wAI hS pl57
theorem I57 {α : Type} {h : AH} {i : Int32} {K : Int32 → Option α} (hS : SH h) (hi : vp_in i 12) : hIld h 57 i K = K (ai h 57 (cl i)) := L_hIld hS pl57 hi
theorem W57 {α : Type} {h : AH} {i x : Int32} {K : AH → Option α} (hS : SH h) (hi : vp_in i 12) : hIst h 57 i x K = K (wAI h 57 (upd (ai h 57) (cl i) x)) := L_hIst hS pl57 hi
theorem pl58 : PL[58]? = some (cO 5 [.ref 59, .ref 60, .ref 61, .int 0]) := rfl
theorem O58 {h : AH} {as : List Value} (hS : SH h) : isO h 5 (.ref 58 :: as) = true := (L_isO hS pl58).trans (beq_self_eq_true _)
theorem G58_0 {α : Type} {h : AH} {K : Value → Option α} (hS : SH h) : hGet h 58 0 5 K = K (.ref 59) := L_gc hS pl58 rfl
theorem G58_1 {α : Type} {h : AH} {K : Value → Option α} (hS : SH h) : hGet h 58 1 5 K = K (.ref 60) := L_gc hS pl58 rfl
theorem G58_2 {α : Type} {h : AH} {K : Value → Option α} (hS : SH h) : hGet h 58 2 5 K = K (.ref 61) := L_gc hS pl58 rfl
theorem G58_3 {α : Type} {h : AH} {K : Value → Option α} (hS : SH h) : hGet h 58 3 5 K = K (.int (gi h 58 3)) := L_gi hS pl58 rfl
theorem g58_3 {h : AH} {x : Int32} (hS : SH h) : gi (wi h 58 3 x) 58 3 = x := gi_wi hS pl58 rfl
theorem U58_3 {α : Type} {h : AH} {x : Int32} {K : AH → Option α} (hS : SH h) (hx : x = 0 ∨ x = 1) : hPut h 58 3 5 2 (.int x) K = K (wi h 58 3 x) := L_pi hS pl58 rfl (decide_eq_true hx)
theorem pl59 : PL[59]? = some (cJ 128 (fun _ => 0)) := rfl
theorem E59 {α : Type} {h : AH} {K : Nat → Option α} (hS : SH h) : hLen h 59 K = K 128 := L_len hS pl59
theorem a59 {h : AH} {f : Nat → Int64} (hS : SH h) : aj (wAJ h 59 f) 59 = f := aj_wAJ hS pl59
theorem I59 {α : Type} {h : AH} {i : Int32} {K : Int64 → Option α} (hS : SH h) (hi : vp_in i 128) : hJld h 59 i K = K (aj h 59 (cl i)) := L_hJld hS pl59 hi
theorem W59 {α : Type} {h : AH} {i : Int32} {x : Int64} {K : AH → Option α} (hS : SH h) (hi : vp_in i 128) : hJst h 59 i x K = K (wAJ h 59 (vp_updL (aj h 59) (cl i) x)) := L_hJst hS pl59 hi
theorem pl60 : PL[60]? = some (cJ 128 (fun _ => 0)) := rfl
theorem E60 {α : Type} {h : AH} {K : Nat → Option α} (hS : SH h) : hLen h 60 K = K 128 := L_len hS pl60
theorem a60 {h : AH} {f : Nat → Int64} (hS : SH h) : aj (wAJ h 60 f) 60 = f := aj_wAJ hS pl60
theorem I60 {α : Type} {h : AH} {i : Int32} {K : Int64 → Option α} (hS : SH h) (hi : vp_in i 128) : hJld h 60 i K = K (aj h 60 (cl i)) := L_hJld hS pl60 hi
theorem W60 {α : Type} {h : AH} {i : Int32} {x : Int64} {K : AH → Option α} (hS : SH h) (hi : vp_in i 128) : hJst h 60 i x K = K (wAJ h 60 (vp_updL (aj h 60) (cl i) x)) := L_hJst hS pl60 hi
theorem pl61 : PL[61]? = some (cO 2 [.long 0, .long 0]) := rfl
theorem O61 {h : AH} {as : List Value} (hS : SH h) : isO h 2 (.ref 61 :: as) = true := (L_isO hS pl61).trans (beq_self_eq_true _)
theorem G61_0 {α : Type} {h : AH} {K : Value → Option α} (hS : SH h) : hGet h 61 0 2 K = K (.long (gj h 61 0)) := L_gj hS pl61 rfl
theorem g61_0 {h : AH} {x : Int64} (hS : SH h) : gj (wj h 61 0 x) 61 0 = x := gj_wj hS pl61 rfl
theorem U61_0 {α : Type} {h : AH} {x : Int64} {K : AH → Option α} (hS : SH h) : hPut h 61 0 2 1 (.long x) K = K (wj h 61 0 x) := L_pj hS pl61 rfl
theorem G61_1 {α : Type} {h : AH} {K : Value → Option α} (hS : SH h) : hGet h 61 1 2 K = K (.long (gj h 61 1)) := L_gj hS pl61 rfl
theorem g61_1 {h : AH} {x : Int64} (hS : SH h) : gj (wj h 61 1 x) 61 1 = x := gj_wj hS pl61 rfl
theorem U61_1 {α : Type} {h : AH} {x : Int64} {K : AH → Option α} (hS : SH h) : hPut h 61 1 2 1 (.long x) K = K (wj h 61 1 x) := L_pj hS pl61 rfl
theorem pl62 : PL[62]? = some (cO 5 [.ref 63, .ref 64, .ref 65, .int 0]) := rfl
theorem O62 {h : AH} {as : List Value} (hS : SH h) : isO h 5 (.ref 62 :: as) = true := (L_isO hS pl62).trans (beq_self_eq_true _)
theorem G62_0 {α : Type} {h : AH} {K : Value → Option α} (hS : SH h) : hGet h 62 0 5 K = K (.ref 63) := L_gc hS pl62 rfl
theorem G62_1 {α : Type} {h : AH} {K : Value → Option α} (hS : SH h) : hGet h 62 1 5 K = K (.ref 64) := L_gc hS pl62 rfl
theorem G62_2 {α : Type} {h : AH} {K : Value → Option α} (hS : SH h) : hGet h 62 2 5 K = K (.ref 65) := L_gc hS pl62 rfl
theorem G62_3 {α : Type} {h : AH} {K : Value → Option α} (hS : SH h) : hGet h 62 3 5 K = K (.int (gi h 62 3)) := L_gi hS pl62 rfl
theorem g62_3 {h : AH} {x : Int32} (hS : SH h) : gi (wi h 62 3 x) 62 3 = x := gi_wi hS pl62 rfl
theorem U62_3 {α : Type} {h : AH} {x : Int32} {K : AH → Option α} (hS : SH h) (hx : x = 0 ∨ x = 1) : hPut h 62 3 5 2 (.int x) K = K (wi h 62 3 x) := L_pi hS pl62 rfl (decide_eq_true hx)
theorem pl63 : PL[63]? = some (cJ 128 (fun _ => 0)) := rfl
theorem E63 {α : Type} {h : AH} {K : Nat → Option α} (hS : SH h) : hLen h 63 K = K 128 := L_len hS pl63
theorem a63 {h : AH} {f : Nat → Int64} (hS : SH h) : aj (wAJ h 63 f) 63 = f := aj_wAJ hS pl63
theorem I63 {α : Type} {h : AH} {i : Int32} {K : Int64 → Option α} (hS : SH h) (hi : vp_in i 128) : hJld h 63 i K = K (aj h 63 (cl i)) := L_hJld hS pl63 hi
theorem W63 {α : Type} {h : AH} {i : Int32} {x : Int64} {K : AH → Option α} (hS : SH h) (hi : vp_in i 128) : hJst h 63 i x K = K (wAJ h 63 (vp_updL (aj h 63) (cl i) x)) := L_hJst hS pl63 hi
theorem pl64 : PL[64]? = some (cJ 128 (fun _ => 0)) := rfl
theorem E64 {α : Type} {h : AH} {K : Nat → Option α} (hS : SH h) : hLen h 64 K = K 128 := L_len hS pl64
theorem a64 {h : AH} {f : Nat → Int64} (hS : SH h) : aj (wAJ h 64 f) 64 = f := aj_wAJ hS pl64
theorem I64 {α : Type} {h : AH} {i : Int32} {K : Int64 → Option α} (hS : SH h) (hi : vp_in i 128) : hJld h 64 i K = K (aj h 64 (cl i)) := L_hJld hS pl64 hi
theorem W64 {α : Type} {h : AH} {i : Int32} {x : Int64} {K : AH → Option α} (hS : SH h) (hi : vp_in i 128) : hJst h 64 i x K = K (wAJ h 64 (vp_updL (aj h 64) (cl i) x)) := L_hJst hS pl64 hi
theorem pl65 : PL[65]? = some (cO 2 [.long 0, .long 0]) := rfl
theorem O65 {h : AH} {as : List Value} (hS : SH h) : isO h 2 (.ref 65 :: as) = true := (L_isO hS pl65).trans (beq_self_eq_true _)
theorem G65_0 {α : Type} {h : AH} {K : Value → Option α} (hS : SH h) : hGet h 65 0 2 K = K (.long (gj h 65 0)) := L_gj hS pl65 rfl
theorem g65_0 {h : AH} {x : Int64} (hS : SH h) : gj (wj h 65 0 x) 65 0 = x := gj_wj hS pl65 rfl
theorem U65_0 {α : Type} {h : AH} {x : Int64} {K : AH → Option α} (hS : SH h) : hPut h 65 0 2 1 (.long x) K = K (wj h 65 0 x) := L_pj hS pl65 rfl
theorem G65_1 {α : Type} {h : AH} {K : Value → Option α} (hS : SH h) : hGet h 65 1 2 K = K (.long (gj h 65 1)) := L_gj hS pl65 rfl
theorem g65_1 {h : AH} {x : Int64} (hS : SH h) : gj (wj h 65 1 x) 65 1 = x := gj_wj hS pl65 rfl
theorem U65_1 {α : Type} {h : AH} {x : Int64} {K : AH → Option α} (hS : SH h) : hPut h 65 1 2 1 (.long x) K = K (wj h 65 1 x) := L_pj hS pl65 rfl
theorem pl66 : PL[66]? = some (cO 5 [.ref 67, .ref 68, .ref 69, .int 0]) := rfl
theorem O66 {h : AH} {as : List Value} (hS : SH h) : isO h 5 (.ref 66 :: as) = true := (L_isO hS pl66).trans (beq_self_eq_true _)
theorem G66_0 {α : Type} {h : AH} {K : Value → Option α} (hS : SH h) : hGet h 66 0 5 K = K (.ref 67) := L_gc hS pl66 rfl
theorem G66_1 {α : Type} {h : AH} {K : Value → Option α} (hS : SH h) : hGet h 66 1 5 K = K (.ref 68) := L_gc hS pl66 rfl
theorem G66_2 {α : Type} {h : AH} {K : Value → Option α} (hS : SH h) : hGet h 66 2 5 K = K (.ref 69) := L_gc hS pl66 rfl
theorem G66_3 {α : Type} {h : AH} {K : Value → Option α} (hS : SH h) : hGet h 66 3 5 K = K (.int (gi h 66 3)) := L_gi hS pl66 rfl
theorem g66_3 {h : AH} {x : Int32} (hS : SH h) : gi (wi h 66 3 x) 66 3 = x := gi_wi hS pl66 rfl
theorem U66_3 {α : Type} {h : AH} {x : Int32} {K : AH → Option α} (hS : SH h) (hx : x = 0 ∨ x = 1) : hPut h 66 3 5 2 (.int x) K = K (wi h 66 3 x) := L_pi hS pl66 rfl (decide_eq_true hx)
theorem pl67 : PL[67]? = some (cJ 128 (fun _ => 0)) := rfl
theorem E67 {α : Type} {h : AH} {K : Nat → Option α} (hS : SH h) : hLen h 67 K = K 128 := L_len hS pl67
theorem a67 {h : AH} {f : Nat → Int64} (hS : SH h) : aj (wAJ h 67 f) 67 = f := aj_wAJ hS pl67
theorem I67 {α : Type} {h : AH} {i : Int32} {K : Int64 → Option α} (hS : SH h) (hi : vp_in i 128) : hJld h 67 i K = K (aj h 67 (cl i)) := L_hJld hS pl67 hi
theorem W67 {α : Type} {h : AH} {i : Int32} {x : Int64} {K : AH → Option α} (hS : SH h) (hi : vp_in i 128) : hJst h 67 i x K = K (wAJ h 67 (vp_updL (aj h 67) (cl i) x)) := L_hJst hS pl67 hi
theorem pl68 : PL[68]? = some (cJ 128 (fun _ => 0)) := rfl
theorem E68 {α : Type} {h : AH} {K : Nat → Option α} (hS : SH h) : hLen h 68 K = K 128 := L_len hS pl68
theorem a68 {h : AH} {f : Nat → Int64} (hS : SH h) : aj (wAJ h 68 f) 68 = f := aj_wAJ hS pl68
theorem I68 {α : Type} {h : AH} {i : Int32} {K : Int64 → Option α} (hS : SH h) (hi : vp_in i 128) : hJld h 68 i K = K (aj h 68 (cl i)) := L_hJld hS pl68 hi
theorem W68 {α : Type} {h : AH} {i : Int32} {x : Int64} {K : AH → Option α} (hS : SH h) (hi : vp_in i 128) : hJst h 68 i x K = K (wAJ h 68 (vp_updL (aj h 68) (cl i) x)) := L_hJst hS pl68 hi
theorem pl69 : PL[69]? = some (cO 2 [.long 0, .long 0]) := rfl
theorem O69 {h : AH} {as : List Value} (hS : SH h) : isO h 2 (.ref 69 :: as) = true := (L_isO hS pl69).trans (beq_self_eq_true _)
theorem G69_0 {α : Type} {h : AH} {K : Value → Option α} (hS : SH h) : hGet h 69 0 2 K = K (.long (gj h 69 0)) := L_gj hS pl69 rfl
theorem g69_0 {h : AH} {x : Int64} (hS : SH h) : gj (wj h 69 0 x) 69 0 = x := gj_wj hS pl69 rfl
theorem U69_0 {α : Type} {h : AH} {x : Int64} {K : AH → Option α} (hS : SH h) : hPut h 69 0 2 1 (.long x) K = K (wj h 69 0 x) := L_pj hS pl69 rfl
theorem G69_1 {α : Type} {h : AH} {K : Value → Option α} (hS : SH h) : hGet h 69 1 2 K = K (.long (gj h 69 1)) := L_gj hS pl69 rfl
theorem g69_1 {h : AH} {x : Int64} (hS : SH h) : gj (wj h 69 1 x) 69 1 = x := gj_wj hS pl69 rfl
theorem U69_1 {α : Type} {h : AH} {x : Int64} {K : AH → Option α} (hS : SH h) : hPut h 69 1 2 1 (.long x) K = K (wj h 69 1 x) := L_pj hS pl69 rfl
theorem pl70 : PL[70]? = some (cO 5 [.ref 71, .ref 72, .ref 73, .int 0]) := rfl
theorem O70 {h : AH} {as : List Value} (hS : SH h) : isO h 5 (.ref 70 :: as) = true := (L_isO hS pl70).trans (beq_self_eq_true _)
theorem G70_0 {α : Type} {h : AH} {K : Value → Option α} (hS : SH h) : hGet h 70 0 5 K = K (.ref 71) := L_gc hS pl70 rfl
theorem G70_1 {α : Type} {h : AH} {K : Value → Option α} (hS : SH h) : hGet h 70 1 5 K = K (.ref 72) := L_gc hS pl70 rfl
theorem G70_2 {α : Type} {h : AH} {K : Value → Option α} (hS : SH h) : hGet h 70 2 5 K = K (.ref 73) := L_gc hS pl70 rfl
theorem G70_3 {α : Type} {h : AH} {K : Value → Option α} (hS : SH h) : hGet h 70 3 5 K = K (.int (gi h 70 3)) := L_gi hS pl70 rfl
theorem g70_3 {h : AH} {x : Int32} (hS : SH h) : gi (wi h 70 3 x) 70 3 = x := gi_wi hS pl70 rfl
theorem U70_3 {α : Type} {h : AH} {x : Int32} {K : AH → Option α} (hS : SH h) (hx : x = 0 ∨ x = 1) : hPut h 70 3 5 2 (.int x) K = K (wi h 70 3 x) := L_pi hS pl70 rfl (decide_eq_true hx)
theorem pl71 : PL[71]? = some (cJ 128 (fun _ => 0)) := rfl
theorem E71 {α : Type} {h : AH} {K : Nat → Option α} (hS : SH h) : hLen h 71 K = K 128 := L_len hS pl71
theorem a71 {h : AH} {f : Nat → Int64} (hS : SH h) : aj (wAJ h 71 f) 71 = f := aj_wAJ hS pl71
theorem I71 {α : Type} {h : AH} {i : Int32} {K : Int64 → Option α} (hS : SH h) (hi : vp_in i 128) : hJld h 71 i K = K (aj h 71 (cl i)) := L_hJld hS pl71 hi
theorem W71 {α : Type} {h : AH} {i : Int32} {x : Int64} {K : AH → Option α} (hS : SH h) (hi : vp_in i 128) : hJst h 71 i x K = K (wAJ h 71 (vp_updL (aj h 71) (cl i) x)) := L_hJst hS pl71 hi
theorem pl72 : PL[72]? = some (cJ 128 (fun _ => 0)) := rfl
theorem E72 {α : Type} {h : AH} {K : Nat → Option α} (hS : SH h) : hLen h 72 K = K 128 := L_len hS pl72
theorem a72 {h : AH} {f : Nat → Int64} (hS : SH h) : aj (wAJ h 72 f) 72 = f := aj_wAJ hS pl72
theorem I72 {α : Type} {h : AH} {i : Int32} {K : Int64 → Option α} (hS : SH h) (hi : vp_in i 128) : hJld h 72 i K = K (aj h 72 (cl i)) := L_hJld hS pl72 hi
theorem W72 {α : Type} {h : AH} {i : Int32} {x : Int64} {K : AH → Option α} (hS : SH h) (hi : vp_in i 128) : hJst h 72 i x K = K (wAJ h 72 (vp_updL (aj h 72) (cl i) x)) := L_hJst hS pl72 hi
theorem pl73 : PL[73]? = some (cO 2 [.long 0, .long 0]) := rfl
theorem O73 {h : AH} {as : List Value} (hS : SH h) : isO h 2 (.ref 73 :: as) = true := (L_isO hS pl73).trans (beq_self_eq_true _)
theorem G73_0 {α : Type} {h : AH} {K : Value → Option α} (hS : SH h) : hGet h 73 0 2 K = K (.long (gj h 73 0)) := L_gj hS pl73 rfl
theorem g73_0 {h : AH} {x : Int64} (hS : SH h) : gj (wj h 73 0 x) 73 0 = x := gj_wj hS pl73 rfl
theorem U73_0 {α : Type} {h : AH} {x : Int64} {K : AH → Option α} (hS : SH h) : hPut h 73 0 2 1 (.long x) K = K (wj h 73 0 x) := L_pj hS pl73 rfl
theorem G73_1 {α : Type} {h : AH} {K : Value → Option α} (hS : SH h) : hGet h 73 1 2 K = K (.long (gj h 73 1)) := L_gj hS pl73 rfl
theorem g73_1 {h : AH} {x : Int64} (hS : SH h) : gj (wj h 73 1 x) 73 1 = x := gj_wj hS pl73 rfl
theorem U73_1 {α : Type} {h : AH} {x : Int64} {K : AH → Option α} (hS : SH h) : hPut h 73 1 2 1 (.long x) K = K (wj h 73 1 x) := L_pj hS pl73 rfl
theorem pl74 : PL[74]? = some (cO 2 [.long 0, .long 0]) := rfl
theorem O74 {h : AH} {as : List Value} (hS : SH h) : isO h 2 (.ref 74 :: as) = true := (L_isO hS pl74).trans (beq_self_eq_true _)
theorem G74_0 {α : Type} {h : AH} {K : Value → Option α} (hS : SH h) : hGet h 74 0 2 K = K (.long (gj h 74 0)) := L_gj hS pl74 rfl
theorem g74_0 {h : AH} {x : Int64} (hS : SH h) : gj (wj h 74 0 x) 74 0 = x := gj_wj hS pl74 rfl
theorem U74_0 {α : Type} {h : AH} {x : Int64} {K : AH → Option α} (hS : SH h) : hPut h 74 0 2 1 (.long x) K = K (wj h 74 0 x) := L_pj hS pl74 rfl
theorem G74_1 {α : Type} {h : AH} {K : Value → Option α} (hS : SH h) : hGet h 74 1 2 K = K (.long (gj h 74 1)) := L_gj hS pl74 rfl
theorem g74_1 {h : AH} {x : Int64} (hS : SH h) : gj (wj h 74 1 x) 74 1 = x := gj_wj hS pl74 rfl
theorem U74_1 {α : Type} {h : AH} {x : Int64} {K : AH → Option α} (hS : SH h) : hPut h 74 1 2 1 (.long x) K = K (wj h 74 1 x) := L_pj hS pl74 rfl
theorem pl75 : PL[75]? = some (cO 2 [.long 0, .long 0]) := rfl
theorem O75 {h : AH} {as : List Value} (hS : SH h) : isO h 2 (.ref 75 :: as) = true := (L_isO hS pl75).trans (beq_self_eq_true _)
theorem G75_0 {α : Type} {h : AH} {K : Value → Option α} (hS : SH h) : hGet h 75 0 2 K = K (.long (gj h 75 0)) := L_gj hS pl75 rfl
theorem g75_0 {h : AH} {x : Int64} (hS : SH h) : gj (wj h 75 0 x) 75 0 = x := gj_wj hS pl75 rfl
theorem U75_0 {α : Type} {h : AH} {x : Int64} {K : AH → Option α} (hS : SH h) : hPut h 75 0 2 1 (.long x) K = K (wj h 75 0 x) := L_pj hS pl75 rfl
theorem G75_1 {α : Type} {h : AH} {K : Value → Option α} (hS : SH h) : hGet h 75 1 2 K = K (.long (gj h 75 1)) := L_gj hS pl75 rfl
theorem g75_1 {h : AH} {x : Int64} (hS : SH h) : gj (wj h 75 1 x) 75 1 = x := gj_wj hS pl75 rfl
theorem U75_1 {α : Type} {h : AH} {x : Int64} {K : AH → Option α} (hS : SH h) : hPut h 75 1 2 1 (.long x) K = K (wj h 75 1 x) := L_pj hS pl75 rfl
theorem pl76 : PL[76]? = some (cO 2 [.long 0, .long 0]) := rfl
theorem O76 {h : AH} {as : List Value} (hS : SH h) : isO h 2 (.ref 76 :: as) = true := (L_isO hS pl76).trans (beq_self_eq_true _)
theorem G76_0 {α : Type} {h : AH} {K : Value → Option α} (hS : SH h) : hGet h 76 0 2 K = K (.long (gj h 76 0)) := L_gj hS pl76 rfl
theorem g76_0 {h : AH} {x : Int64} (hS : SH h) : gj (wj h 76 0 x) 76 0 = x := gj_wj hS pl76 rfl
theorem U76_0 {α : Type} {h : AH} {x : Int64} {K : AH → Option α} (hS : SH h) : hPut h 76 0 2 1 (.long x) K = K (wj h 76 0 x) := L_pj hS pl76 rfl
theorem G76_1 {α : Type} {h : AH} {K : Value → Option α} (hS : SH h) : hGet h 76 1 2 K = K (.long (gj h 76 1)) := L_gj hS pl76 rfl
theorem g76_1 {h : AH} {x : Int64} (hS : SH h) : gj (wj h 76 1 x) 76 1 = x := gj_wj hS pl76 rfl
theorem U76_1 {α : Type} {h : AH} {x : Int64} {K : AH → Option α} (hS : SH h) : hPut h 76 1 2 1 (.long x) K = K (wj h 76 1 x) := L_pj hS pl76 rfl
theorem pl77 : PL[77]? = some (cO 2 [.long 0, .long 0]) := rfl
theorem O77 {h : AH} {as : List Value} (hS : SH h) : isO h 2 (.ref 77 :: as) = true := (L_isO hS pl77).trans (beq_self_eq_true _)
theorem G77_0 {α : Type} {h : AH} {K : Value → Option α} (hS : SH h) : hGet h 77 0 2 K = K (.long (gj h 77 0)) := L_gj hS pl77 rfl
theorem g77_0 {h : AH} {x : Int64} (hS : SH h) : gj (wj h 77 0 x) 77 0 = x := gj_wj hS pl77 rfl
theorem U77_0 {α : Type} {h : AH} {x : Int64} {K : AH → Option α} (hS : SH h) : hPut h 77 0 2 1 (.long x) K = K (wj h 77 0 x) := L_pj hS pl77 rfl
theorem G77_1 {α : Type} {h : AH} {K : Value → Option α} (hS : SH h) : hGet h 77 1 2 K = K (.long (gj h 77 1)) := L_gj hS pl77 rfl
theorem g77_1 {h : AH} {x : Int64} (hS : SH h) : gj (wj h 77 1 x) 77 1 = x := gj_wj hS pl77 rfl
theorem U77_1 {α : Type} {h : AH} {x : Int64} {K : AH → Option α} (hS : SH h) : hPut h 77 1 2 1 (.long x) K = K (wj h 77 1 x) := L_pj hS pl77 rfl
theorem pl78 : PL[78]? = some (cO 12 [.int 0, .ref 79, .int 0, .int 0, .int 0, .int 0, .int 0, .int 0, .ref 80, .ref 81, .ref 82, .ref 83, .ref 84, .ref 85, .ref 86, .ref 87, .ref 88, .ref 89, .int 0, .ref 90, .int 0, .ref 91, .ref 92, .ref 93, .ref 94, .ref 95, .ref 96, .int 0, .long 0, .long 0, .long 0, .long 0, .long 0, .long 0, .int 0, .ref 97, .int 0, .int 0, .int 0, .int 0, .int 0, .int 0, .int 0, .int 0, .ref 98, .ref 99, .ref 100, .ref 101, .ref 102, .ref 103, .ref 104, .long 0, .long 0, .long 0, .long 0, .int 0, .ref 105, .int 0, .int 0, .int 0, .int 0, .int 0, .ref 106, .ref 107, .ref 108, .ref 109, .ref 110, .ref 111, .ref 112, .ref 113, .ref 114, .int 0, .ref 115, .ref 116]) := rfl
theorem O78 {h : AH} {as : List Value} (hS : SH h) : isO h 12 (.ref 78 :: as) = true := (L_isO hS pl78).trans (beq_self_eq_true _)
theorem G78_0 {α : Type} {h : AH} {K : Value → Option α} (hS : SH h) : hGet h 78 0 12 K = K (.int (gi h 78 0)) := L_gi hS pl78 rfl
theorem g78_0 {h : AH} {x : Int32} (hS : SH h) : gi (wi h 78 0 x) 78 0 = x := gi_wi hS pl78 rfl
theorem U78_0 {α : Type} {h : AH} {x : Int32} {K : AH → Option α} (hS : SH h) : hPut h 78 0 12 0 (.int x) K = K (wi h 78 0 x) := L_pi hS pl78 rfl rfl
theorem G78_1 {α : Type} {h : AH} {K : Value → Option α} (hS : SH h) : hGet h 78 1 12 K = K (.ref 79) := L_gc hS pl78 rfl
theorem G78_2 {α : Type} {h : AH} {K : Value → Option α} (hS : SH h) : hGet h 78 2 12 K = K (.int (gi h 78 2)) := L_gi hS pl78 rfl
theorem g78_2 {h : AH} {x : Int32} (hS : SH h) : gi (wi h 78 2 x) 78 2 = x := gi_wi hS pl78 rfl
theorem U78_2 {α : Type} {h : AH} {x : Int32} {K : AH → Option α} (hS : SH h) : hPut h 78 2 12 0 (.int x) K = K (wi h 78 2 x) := L_pi hS pl78 rfl rfl
theorem G78_3 {α : Type} {h : AH} {K : Value → Option α} (hS : SH h) : hGet h 78 3 12 K = K (.int (gi h 78 3)) := L_gi hS pl78 rfl
theorem g78_3 {h : AH} {x : Int32} (hS : SH h) : gi (wi h 78 3 x) 78 3 = x := gi_wi hS pl78 rfl
theorem U78_3 {α : Type} {h : AH} {x : Int32} {K : AH → Option α} (hS : SH h) : hPut h 78 3 12 0 (.int x) K = K (wi h 78 3 x) := L_pi hS pl78 rfl rfl
theorem G78_4 {α : Type} {h : AH} {K : Value → Option α} (hS : SH h) : hGet h 78 4 12 K = K (.int (gi h 78 4)) := L_gi hS pl78 rfl
theorem g78_4 {h : AH} {x : Int32} (hS : SH h) : gi (wi h 78 4 x) 78 4 = x := gi_wi hS pl78 rfl
theorem U78_4 {α : Type} {h : AH} {x : Int32} {K : AH → Option α} (hS : SH h) : hPut h 78 4 12 0 (.int x) K = K (wi h 78 4 x) := L_pi hS pl78 rfl rfl
theorem G78_5 {α : Type} {h : AH} {K : Value → Option α} (hS : SH h) : hGet h 78 5 12 K = K (.int (gi h 78 5)) := L_gi hS pl78 rfl
theorem g78_5 {h : AH} {x : Int32} (hS : SH h) : gi (wi h 78 5 x) 78 5 = x := gi_wi hS pl78 rfl
theorem U78_5 {α : Type} {h : AH} {x : Int32} {K : AH → Option α} (hS : SH h) : hPut h 78 5 12 0 (.int x) K = K (wi h 78 5 x) := L_pi hS pl78 rfl rfl
theorem G78_6 {α : Type} {h : AH} {K : Value → Option α} (hS : SH h) : hGet h 78 6 12 K = K (.int (gi h 78 6)) := L_gi hS pl78 rfl
theorem g78_6 {h : AH} {x : Int32} (hS : SH h) : gi (wi h 78 6 x) 78 6 = x := gi_wi hS pl78 rfl
theorem U78_6 {α : Type} {h : AH} {x : Int32} {K : AH → Option α} (hS : SH h) : hPut h 78 6 12 0 (.int x) K = K (wi h 78 6 x) := L_pi hS pl78 rfl rfl
theorem G78_7 {α : Type} {h : AH} {K : Value → Option α} (hS : SH h) : hGet h 78 7 12 K = K (.int (gi h 78 7)) := L_gi hS pl78 rfl
theorem g78_7 {h : AH} {x : Int32} (hS : SH h) : gi (wi h 78 7 x) 78 7 = x := gi_wi hS pl78 rfl
theorem U78_7 {α : Type} {h : AH} {x : Int32} {K : AH → Option α} (hS : SH h) : hPut h 78 7 12 0 (.int x) K = K (wi h 78 7 x) := L_pi hS pl78 rfl rfl
theorem G78_8 {α : Type} {h : AH} {K : Value → Option α} (hS : SH h) : hGet h 78 8 12 K = K (.ref 80) := L_gc hS pl78 rfl
theorem G78_9 {α : Type} {h : AH} {K : Value → Option α} (hS : SH h) : hGet h 78 9 12 K = K (.ref 81) := L_gc hS pl78 rfl
theorem G78_10 {α : Type} {h : AH} {K : Value → Option α} (hS : SH h) : hGet h 78 10 12 K = K (.ref 82) := L_gc hS pl78 rfl
theorem G78_11 {α : Type} {h : AH} {K : Value → Option α} (hS : SH h) : hGet h 78 11 12 K = K (.ref 83) := L_gc hS pl78 rfl
theorem G78_12 {α : Type} {h : AH} {K : Value → Option α} (hS : SH h) : hGet h 78 12 12 K = K (.ref 84) := L_gc hS pl78 rfl
theorem G78_13 {α : Type} {h : AH} {K : Value → Option α} (hS : SH h) : hGet h 78 13 12 K = K (.ref 85) := L_gc hS pl78 rfl
theorem G78_14 {α : Type} {h : AH} {K : Value → Option α} (hS : SH h) : hGet h 78 14 12 K = K (.ref 86) := L_gc hS pl78 rfl
theorem G78_15 {α : Type} {h : AH} {K : Value → Option α} (hS : SH h) : hGet h 78 15 12 K = K (.ref 87) := L_gc hS pl78 rfl
theorem G78_16 {α : Type} {h : AH} {K : Value → Option α} (hS : SH h) : hGet h 78 16 12 K = K (.ref 88) := L_gc hS pl78 rfl
theorem G78_17 {α : Type} {h : AH} {K : Value → Option α} (hS : SH h) : hGet h 78 17 12 K = K (.ref 89) := L_gc hS pl78 rfl
theorem G78_18 {α : Type} {h : AH} {K : Value → Option α} (hS : SH h) : hGet h 78 18 12 K = K (.int (gi h 78 18)) := L_gi hS pl78 rfl
theorem g78_18 {h : AH} {x : Int32} (hS : SH h) : gi (wi h 78 18 x) 78 18 = x := gi_wi hS pl78 rfl
theorem U78_18 {α : Type} {h : AH} {x : Int32} {K : AH → Option α} (hS : SH h) : hPut h 78 18 12 0 (.int x) K = K (wi h 78 18 x) := L_pi hS pl78 rfl rfl
theorem G78_19 {α : Type} {h : AH} {K : Value → Option α} (hS : SH h) : hGet h 78 19 12 K = K (.ref 90) := L_gc hS pl78 rfl
theorem G78_20 {α : Type} {h : AH} {K : Value → Option α} (hS : SH h) : hGet h 78 20 12 K = K (.int (gi h 78 20)) := L_gi hS pl78 rfl
theorem g78_20 {h : AH} {x : Int32} (hS : SH h) : gi (wi h 78 20 x) 78 20 = x := gi_wi hS pl78 rfl
theorem U78_20 {α : Type} {h : AH} {x : Int32} {K : AH → Option α} (hS : SH h) : hPut h 78 20 12 0 (.int x) K = K (wi h 78 20 x) := L_pi hS pl78 rfl rfl
theorem G78_21 {α : Type} {h : AH} {K : Value → Option α} (hS : SH h) : hGet h 78 21 12 K = K (.ref 91) := L_gc hS pl78 rfl
theorem G78_22 {α : Type} {h : AH} {K : Value → Option α} (hS : SH h) : hGet h 78 22 12 K = K (.ref 92) := L_gc hS pl78 rfl
theorem G78_23 {α : Type} {h : AH} {K : Value → Option α} (hS : SH h) : hGet h 78 23 12 K = K (.ref 93) := L_gc hS pl78 rfl
theorem G78_24 {α : Type} {h : AH} {K : Value → Option α} (hS : SH h) : hGet h 78 24 12 K = K (.ref 94) := L_gc hS pl78 rfl
theorem G78_25 {α : Type} {h : AH} {K : Value → Option α} (hS : SH h) : hGet h 78 25 12 K = K (.ref 95) := L_gc hS pl78 rfl
theorem G78_26 {α : Type} {h : AH} {K : Value → Option α} (hS : SH h) : hGet h 78 26 12 K = K (.ref 96) := L_gc hS pl78 rfl
theorem G78_27 {α : Type} {h : AH} {K : Value → Option α} (hS : SH h) : hGet h 78 27 12 K = K (.int (gi h 78 27)) := L_gi hS pl78 rfl
theorem g78_27 {h : AH} {x : Int32} (hS : SH h) : gi (wi h 78 27 x) 78 27 = x := gi_wi hS pl78 rfl
theorem U78_27 {α : Type} {h : AH} {x : Int32} {K : AH → Option α} (hS : SH h) : hPut h 78 27 12 0 (.int x) K = K (wi h 78 27 x) := L_pi hS pl78 rfl rfl
theorem G78_28 {α : Type} {h : AH} {K : Value → Option α} (hS : SH h) : hGet h 78 28 12 K = K (.long (gj h 78 28)) := L_gj hS pl78 rfl
theorem g78_28 {h : AH} {x : Int64} (hS : SH h) : gj (wj h 78 28 x) 78 28 = x := gj_wj hS pl78 rfl
theorem U78_28 {α : Type} {h : AH} {x : Int64} {K : AH → Option α} (hS : SH h) : hPut h 78 28 12 1 (.long x) K = K (wj h 78 28 x) := L_pj hS pl78 rfl
theorem G78_29 {α : Type} {h : AH} {K : Value → Option α} (hS : SH h) : hGet h 78 29 12 K = K (.long (gj h 78 29)) := L_gj hS pl78 rfl
theorem g78_29 {h : AH} {x : Int64} (hS : SH h) : gj (wj h 78 29 x) 78 29 = x := gj_wj hS pl78 rfl
theorem U78_29 {α : Type} {h : AH} {x : Int64} {K : AH → Option α} (hS : SH h) : hPut h 78 29 12 1 (.long x) K = K (wj h 78 29 x) := L_pj hS pl78 rfl
theorem G78_30 {α : Type} {h : AH} {K : Value → Option α} (hS : SH h) : hGet h 78 30 12 K = K (.long (gj h 78 30)) := L_gj hS pl78 rfl
theorem g78_30 {h : AH} {x : Int64} (hS : SH h) : gj (wj h 78 30 x) 78 30 = x := gj_wj hS pl78 rfl
theorem U78_30 {α : Type} {h : AH} {x : Int64} {K : AH → Option α} (hS : SH h) : hPut h 78 30 12 1 (.long x) K = K (wj h 78 30 x) := L_pj hS pl78 rfl
theorem G78_31 {α : Type} {h : AH} {K : Value → Option α} (hS : SH h) : hGet h 78 31 12 K = K (.long (gj h 78 31)) := L_gj hS pl78 rfl
theorem g78_31 {h : AH} {x : Int64} (hS : SH h) : gj (wj h 78 31 x) 78 31 = x := gj_wj hS pl78 rfl
theorem U78_31 {α : Type} {h : AH} {x : Int64} {K : AH → Option α} (hS : SH h) : hPut h 78 31 12 1 (.long x) K = K (wj h 78 31 x) := L_pj hS pl78 rfl
theorem G78_32 {α : Type} {h : AH} {K : Value → Option α} (hS : SH h) : hGet h 78 32 12 K = K (.long (gj h 78 32)) := L_gj hS pl78 rfl
theorem g78_32 {h : AH} {x : Int64} (hS : SH h) : gj (wj h 78 32 x) 78 32 = x := gj_wj hS pl78 rfl
theorem U78_32 {α : Type} {h : AH} {x : Int64} {K : AH → Option α} (hS : SH h) : hPut h 78 32 12 1 (.long x) K = K (wj h 78 32 x) := L_pj hS pl78 rfl
theorem G78_33 {α : Type} {h : AH} {K : Value → Option α} (hS : SH h) : hGet h 78 33 12 K = K (.long (gj h 78 33)) := L_gj hS pl78 rfl
theorem g78_33 {h : AH} {x : Int64} (hS : SH h) : gj (wj h 78 33 x) 78 33 = x := gj_wj hS pl78 rfl
theorem U78_33 {α : Type} {h : AH} {x : Int64} {K : AH → Option α} (hS : SH h) : hPut h 78 33 12 1 (.long x) K = K (wj h 78 33 x) := L_pj hS pl78 rfl
theorem G78_34 {α : Type} {h : AH} {K : Value → Option α} (hS : SH h) : hGet h 78 34 12 K = K (.int (gi h 78 34)) := L_gi hS pl78 rfl
theorem g78_34 {h : AH} {x : Int32} (hS : SH h) : gi (wi h 78 34 x) 78 34 = x := gi_wi hS pl78 rfl
theorem U78_34 {α : Type} {h : AH} {x : Int32} {K : AH → Option α} (hS : SH h) : hPut h 78 34 12 0 (.int x) K = K (wi h 78 34 x) := L_pi hS pl78 rfl rfl
theorem G78_35 {α : Type} {h : AH} {K : Value → Option α} (hS : SH h) : hGet h 78 35 12 K = K (.ref 97) := L_gc hS pl78 rfl
theorem G78_36 {α : Type} {h : AH} {K : Value → Option α} (hS : SH h) : hGet h 78 36 12 K = K (.int (gi h 78 36)) := L_gi hS pl78 rfl
theorem g78_36 {h : AH} {x : Int32} (hS : SH h) : gi (wi h 78 36 x) 78 36 = x := gi_wi hS pl78 rfl
theorem U78_36 {α : Type} {h : AH} {x : Int32} {K : AH → Option α} (hS : SH h) (hx : x = 0 ∨ x = 1) : hPut h 78 36 12 2 (.int x) K = K (wi h 78 36 x) := L_pi hS pl78 rfl (decide_eq_true hx)
theorem G78_37 {α : Type} {h : AH} {K : Value → Option α} (hS : SH h) : hGet h 78 37 12 K = K (.int (gi h 78 37)) := L_gi hS pl78 rfl
theorem g78_37 {h : AH} {x : Int32} (hS : SH h) : gi (wi h 78 37 x) 78 37 = x := gi_wi hS pl78 rfl
theorem U78_37 {α : Type} {h : AH} {x : Int32} {K : AH → Option α} (hS : SH h) : hPut h 78 37 12 0 (.int x) K = K (wi h 78 37 x) := L_pi hS pl78 rfl rfl
theorem G78_38 {α : Type} {h : AH} {K : Value → Option α} (hS : SH h) : hGet h 78 38 12 K = K (.int (gi h 78 38)) := L_gi hS pl78 rfl
theorem g78_38 {h : AH} {x : Int32} (hS : SH h) : gi (wi h 78 38 x) 78 38 = x := gi_wi hS pl78 rfl
theorem U78_38 {α : Type} {h : AH} {x : Int32} {K : AH → Option α} (hS : SH h) : hPut h 78 38 12 0 (.int x) K = K (wi h 78 38 x) := L_pi hS pl78 rfl rfl
theorem G78_39 {α : Type} {h : AH} {K : Value → Option α} (hS : SH h) : hGet h 78 39 12 K = K (.int (gi h 78 39)) := L_gi hS pl78 rfl
theorem g78_39 {h : AH} {x : Int32} (hS : SH h) : gi (wi h 78 39 x) 78 39 = x := gi_wi hS pl78 rfl
theorem U78_39 {α : Type} {h : AH} {x : Int32} {K : AH → Option α} (hS : SH h) : hPut h 78 39 12 0 (.int x) K = K (wi h 78 39 x) := L_pi hS pl78 rfl rfl
theorem G78_40 {α : Type} {h : AH} {K : Value → Option α} (hS : SH h) : hGet h 78 40 12 K = K (.int (gi h 78 40)) := L_gi hS pl78 rfl
theorem g78_40 {h : AH} {x : Int32} (hS : SH h) : gi (wi h 78 40 x) 78 40 = x := gi_wi hS pl78 rfl
theorem U78_40 {α : Type} {h : AH} {x : Int32} {K : AH → Option α} (hS : SH h) : hPut h 78 40 12 0 (.int x) K = K (wi h 78 40 x) := L_pi hS pl78 rfl rfl
theorem G78_41 {α : Type} {h : AH} {K : Value → Option α} (hS : SH h) : hGet h 78 41 12 K = K (.int (gi h 78 41)) := L_gi hS pl78 rfl
theorem g78_41 {h : AH} {x : Int32} (hS : SH h) : gi (wi h 78 41 x) 78 41 = x := gi_wi hS pl78 rfl
theorem U78_41 {α : Type} {h : AH} {x : Int32} {K : AH → Option α} (hS : SH h) : hPut h 78 41 12 0 (.int x) K = K (wi h 78 41 x) := L_pi hS pl78 rfl rfl
theorem G78_42 {α : Type} {h : AH} {K : Value → Option α} (hS : SH h) : hGet h 78 42 12 K = K (.int (gi h 78 42)) := L_gi hS pl78 rfl
theorem g78_42 {h : AH} {x : Int32} (hS : SH h) : gi (wi h 78 42 x) 78 42 = x := gi_wi hS pl78 rfl
theorem U78_42 {α : Type} {h : AH} {x : Int32} {K : AH → Option α} (hS : SH h) : hPut h 78 42 12 0 (.int x) K = K (wi h 78 42 x) := L_pi hS pl78 rfl rfl
theorem G78_43 {α : Type} {h : AH} {K : Value → Option α} (hS : SH h) : hGet h 78 43 12 K = K (.int (gi h 78 43)) := L_gi hS pl78 rfl
theorem g78_43 {h : AH} {x : Int32} (hS : SH h) : gi (wi h 78 43 x) 78 43 = x := gi_wi hS pl78 rfl
theorem U78_43 {α : Type} {h : AH} {x : Int32} {K : AH → Option α} (hS : SH h) : hPut h 78 43 12 0 (.int x) K = K (wi h 78 43 x) := L_pi hS pl78 rfl rfl
theorem G78_44 {α : Type} {h : AH} {K : Value → Option α} (hS : SH h) : hGet h 78 44 12 K = K (.ref 98) := L_gc hS pl78 rfl
theorem G78_45 {α : Type} {h : AH} {K : Value → Option α} (hS : SH h) : hGet h 78 45 12 K = K (.ref 99) := L_gc hS pl78 rfl
theorem G78_46 {α : Type} {h : AH} {K : Value → Option α} (hS : SH h) : hGet h 78 46 12 K = K (.ref 100) := L_gc hS pl78 rfl
theorem G78_47 {α : Type} {h : AH} {K : Value → Option α} (hS : SH h) : hGet h 78 47 12 K = K (.ref 101) := L_gc hS pl78 rfl
theorem G78_48 {α : Type} {h : AH} {K : Value → Option α} (hS : SH h) : hGet h 78 48 12 K = K (.ref 102) := L_gc hS pl78 rfl
theorem G78_49 {α : Type} {h : AH} {K : Value → Option α} (hS : SH h) : hGet h 78 49 12 K = K (.ref 103) := L_gc hS pl78 rfl
theorem G78_50 {α : Type} {h : AH} {K : Value → Option α} (hS : SH h) : hGet h 78 50 12 K = K (.ref 104) := L_gc hS pl78 rfl
theorem G78_51 {α : Type} {h : AH} {K : Value → Option α} (hS : SH h) : hGet h 78 51 12 K = K (.long (gj h 78 51)) := L_gj hS pl78 rfl
theorem g78_51 {h : AH} {x : Int64} (hS : SH h) : gj (wj h 78 51 x) 78 51 = x := gj_wj hS pl78 rfl
theorem U78_51 {α : Type} {h : AH} {x : Int64} {K : AH → Option α} (hS : SH h) : hPut h 78 51 12 1 (.long x) K = K (wj h 78 51 x) := L_pj hS pl78 rfl
theorem G78_52 {α : Type} {h : AH} {K : Value → Option α} (hS : SH h) : hGet h 78 52 12 K = K (.long (gj h 78 52)) := L_gj hS pl78 rfl
theorem g78_52 {h : AH} {x : Int64} (hS : SH h) : gj (wj h 78 52 x) 78 52 = x := gj_wj hS pl78 rfl
theorem U78_52 {α : Type} {h : AH} {x : Int64} {K : AH → Option α} (hS : SH h) : hPut h 78 52 12 1 (.long x) K = K (wj h 78 52 x) := L_pj hS pl78 rfl
theorem G78_53 {α : Type} {h : AH} {K : Value → Option α} (hS : SH h) : hGet h 78 53 12 K = K (.long (gj h 78 53)) := L_gj hS pl78 rfl
theorem g78_53 {h : AH} {x : Int64} (hS : SH h) : gj (wj h 78 53 x) 78 53 = x := gj_wj hS pl78 rfl
theorem U78_53 {α : Type} {h : AH} {x : Int64} {K : AH → Option α} (hS : SH h) : hPut h 78 53 12 1 (.long x) K = K (wj h 78 53 x) := L_pj hS pl78 rfl
theorem G78_54 {α : Type} {h : AH} {K : Value → Option α} (hS : SH h) : hGet h 78 54 12 K = K (.long (gj h 78 54)) := L_gj hS pl78 rfl
theorem g78_54 {h : AH} {x : Int64} (hS : SH h) : gj (wj h 78 54 x) 78 54 = x := gj_wj hS pl78 rfl
theorem U78_54 {α : Type} {h : AH} {x : Int64} {K : AH → Option α} (hS : SH h) : hPut h 78 54 12 1 (.long x) K = K (wj h 78 54 x) := L_pj hS pl78 rfl
theorem G78_55 {α : Type} {h : AH} {K : Value → Option α} (hS : SH h) : hGet h 78 55 12 K = K (.int (gi h 78 55)) := L_gi hS pl78 rfl
theorem g78_55 {h : AH} {x : Int32} (hS : SH h) : gi (wi h 78 55 x) 78 55 = x := gi_wi hS pl78 rfl
theorem U78_55 {α : Type} {h : AH} {x : Int32} {K : AH → Option α} (hS : SH h) (hx : x = 0 ∨ x = 1) : hPut h 78 55 12 2 (.int x) K = K (wi h 78 55 x) := L_pi hS pl78 rfl (decide_eq_true hx)
theorem G78_56 {α : Type} {h : AH} {K : Value → Option α} (hS : SH h) : hGet h 78 56 12 K = K (.ref 105) := L_gc hS pl78 rfl
theorem G78_57 {α : Type} {h : AH} {K : Value → Option α} (hS : SH h) : hGet h 78 57 12 K = K (.int (gi h 78 57)) := L_gi hS pl78 rfl
theorem g78_57 {h : AH} {x : Int32} (hS : SH h) : gi (wi h 78 57 x) 78 57 = x := gi_wi hS pl78 rfl
theorem U78_57 {α : Type} {h : AH} {x : Int32} {K : AH → Option α} (hS : SH h) : hPut h 78 57 12 0 (.int x) K = K (wi h 78 57 x) := L_pi hS pl78 rfl rfl
theorem G78_58 {α : Type} {h : AH} {K : Value → Option α} (hS : SH h) : hGet h 78 58 12 K = K (.int (gi h 78 58)) := L_gi hS pl78 rfl
theorem g78_58 {h : AH} {x : Int32} (hS : SH h) : gi (wi h 78 58 x) 78 58 = x := gi_wi hS pl78 rfl
theorem U78_58 {α : Type} {h : AH} {x : Int32} {K : AH → Option α} (hS : SH h) : hPut h 78 58 12 0 (.int x) K = K (wi h 78 58 x) := L_pi hS pl78 rfl rfl
theorem G78_59 {α : Type} {h : AH} {K : Value → Option α} (hS : SH h) : hGet h 78 59 12 K = K (.int (gi h 78 59)) := L_gi hS pl78 rfl
theorem g78_59 {h : AH} {x : Int32} (hS : SH h) : gi (wi h 78 59 x) 78 59 = x := gi_wi hS pl78 rfl
theorem U78_59 {α : Type} {h : AH} {x : Int32} {K : AH → Option α} (hS : SH h) : hPut h 78 59 12 0 (.int x) K = K (wi h 78 59 x) := L_pi hS pl78 rfl rfl
theorem G78_60 {α : Type} {h : AH} {K : Value → Option α} (hS : SH h) : hGet h 78 60 12 K = K (.int (gi h 78 60)) := L_gi hS pl78 rfl
theorem g78_60 {h : AH} {x : Int32} (hS : SH h) : gi (wi h 78 60 x) 78 60 = x := gi_wi hS pl78 rfl
theorem U78_60 {α : Type} {h : AH} {x : Int32} {K : AH → Option α} (hS : SH h) (hx : x = 0 ∨ x = 1) : hPut h 78 60 12 2 (.int x) K = K (wi h 78 60 x) := L_pi hS pl78 rfl (decide_eq_true hx)
theorem G78_61 {α : Type} {h : AH} {K : Value → Option α} (hS : SH h) : hGet h 78 61 12 K = K (.int (gi h 78 61)) := L_gi hS pl78 rfl
theorem g78_61 {h : AH} {x : Int32} (hS : SH h) : gi (wi h 78 61 x) 78 61 = x := gi_wi hS pl78 rfl
theorem U78_61 {α : Type} {h : AH} {x : Int32} {K : AH → Option α} (hS : SH h) : hPut h 78 61 12 0 (.int x) K = K (wi h 78 61 x) := L_pi hS pl78 rfl rfl
theorem G78_62 {α : Type} {h : AH} {K : Value → Option α} (hS : SH h) : hGet h 78 62 12 K = K (.ref 106) := L_gc hS pl78 rfl
theorem G78_63 {α : Type} {h : AH} {K : Value → Option α} (hS : SH h) : hGet h 78 63 12 K = K (.ref 107) := L_gc hS pl78 rfl
theorem G78_64 {α : Type} {h : AH} {K : Value → Option α} (hS : SH h) : hGet h 78 64 12 K = K (.ref 108) := L_gc hS pl78 rfl
theorem G78_65 {α : Type} {h : AH} {K : Value → Option α} (hS : SH h) : hGet h 78 65 12 K = K (.ref 109) := L_gc hS pl78 rfl
theorem G78_66 {α : Type} {h : AH} {K : Value → Option α} (hS : SH h) : hGet h 78 66 12 K = K (.ref 110) := L_gc hS pl78 rfl
theorem G78_67 {α : Type} {h : AH} {K : Value → Option α} (hS : SH h) : hGet h 78 67 12 K = K (.ref 111) := L_gc hS pl78 rfl
theorem G78_68 {α : Type} {h : AH} {K : Value → Option α} (hS : SH h) : hGet h 78 68 12 K = K (.ref 112) := L_gc hS pl78 rfl
theorem G78_69 {α : Type} {h : AH} {K : Value → Option α} (hS : SH h) : hGet h 78 69 12 K = K (.ref 113) := L_gc hS pl78 rfl
theorem G78_70 {α : Type} {h : AH} {K : Value → Option α} (hS : SH h) : hGet h 78 70 12 K = K (.ref 114) := L_gc hS pl78 rfl
theorem G78_71 {α : Type} {h : AH} {K : Value → Option α} (hS : SH h) : hGet h 78 71 12 K = K (.int (gi h 78 71)) := L_gi hS pl78 rfl
theorem g78_71 {h : AH} {x : Int32} (hS : SH h) : gi (wi h 78 71 x) 78 71 = x := gi_wi hS pl78 rfl
theorem U78_71 {α : Type} {h : AH} {x : Int32} {K : AH → Option α} (hS : SH h) : hPut h 78 71 12 0 (.int x) K = K (wi h 78 71 x) := L_pi hS pl78 rfl rfl
theorem G78_72 {α : Type} {h : AH} {K : Value → Option α} (hS : SH h) : hGet h 78 72 12 K = K (.ref 115) := L_gc hS pl78 rfl
theorem G78_73 {α : Type} {h : AH} {K : Value → Option α} (hS : SH h) : hGet h 78 73 12 K = K (.ref 116) := L_gc hS pl78 rfl
theorem pl79 : PL[79]? = some (cI 100 (fun _ => 0)) := rfl
theorem E79 {α : Type} {h : AH} {K : Nat → Option α} (hS : SH h) : hLen h 79 K = K 100 := L_len hS pl79
theorem a79 {h : AH} {f : Nat → Int32} (hS : SH h) : ai (wAI h 79 f) 79 = f := ai_wAI hS pl79
theorem I79 {α : Type} {h : AH} {i : Int32} {K : Int32 → Option α} (hS : SH h) (hi : vp_in i 100) : hIld h 79 i K = K (ai h 79 (cl i)) := L_hIld hS pl79 hi
theorem W79 {α : Type} {h : AH} {i x : Int32} {K : AH → Option α} (hS : SH h) (hi : vp_in i 100) : hIst h 79 i x K = K (wAI h 79 (upd (ai h 79) (cl i) x)) := L_hIst hS pl79 hi
theorem pl80 : PL[80]? = some (cI 5 (fun _ => 0)) := rfl
theorem E80 {α : Type} {h : AH} {K : Nat → Option α} (hS : SH h) : hLen h 80 K = K 5 := L_len hS pl80
theorem a80 {h : AH} {f : Nat → Int32} (hS : SH h) : ai (wAI h 80 f) 80 = f := ai_wAI hS pl80
theorem I80 {α : Type} {h : AH} {i : Int32} {K : Int32 → Option α} (hS : SH h) (hi : vp_in i 5) : hIld h 80 i K = K (ai h 80 (cl i)) := L_hIld hS pl80 hi
theorem W80 {α : Type} {h : AH} {i x : Int32} {K : AH → Option α} (hS : SH h) (hi : vp_in i 5) : hIst h 80 i x K = K (wAI h 80 (upd (ai h 80) (cl i) x)) := L_hIst hS pl80 hi
theorem pl81 : PL[81]? = some (cI 310 (fun _ => 0)) := rfl
theorem E81 {α : Type} {h : AH} {K : Nat → Option α} (hS : SH h) : hLen h 81 K = K 310 := L_len hS pl81
theorem a81 {h : AH} {f : Nat → Int32} (hS : SH h) : ai (wAI h 81 f) 81 = f := ai_wAI hS pl81
theorem I81 {α : Type} {h : AH} {i : Int32} {K : Int32 → Option α} (hS : SH h) (hi : vp_in i 310) : hIld h 81 i K = K (ai h 81 (cl i)) := L_hIld hS pl81 hi
theorem W81 {α : Type} {h : AH} {i x : Int32} {K : AH → Option α} (hS : SH h) (hi : vp_in i 310) : hIst h 81 i x K = K (wAI h 81 (upd (ai h 81) (cl i) x)) := L_hIst hS pl81 hi
theorem pl82 : PL[82]? = some (cI 310 (fun _ => 0)) := rfl
theorem E82 {α : Type} {h : AH} {K : Nat → Option α} (hS : SH h) : hLen h 82 K = K 310 := L_len hS pl82
theorem a82 {h : AH} {f : Nat → Int32} (hS : SH h) : ai (wAI h 82 f) 82 = f := ai_wAI hS pl82
theorem I82 {α : Type} {h : AH} {i : Int32} {K : Int32 → Option α} (hS : SH h) (hi : vp_in i 310) : hIld h 82 i K = K (ai h 82 (cl i)) := L_hIld hS pl82 hi
theorem W82 {α : Type} {h : AH} {i x : Int32} {K : AH → Option α} (hS : SH h) (hi : vp_in i 310) : hIst h 82 i x K = K (wAI h 82 (upd (ai h 82) (cl i) x)) := L_hIst hS pl82 hi
theorem pl83 : PL[83]? = some (cI 310 (fun _ => 0)) := rfl
theorem E83 {α : Type} {h : AH} {K : Nat → Option α} (hS : SH h) : hLen h 83 K = K 310 := L_len hS pl83
theorem a83 {h : AH} {f : Nat → Int32} (hS : SH h) : ai (wAI h 83 f) 83 = f := ai_wAI hS pl83
theorem I83 {α : Type} {h : AH} {i : Int32} {K : Int32 → Option α} (hS : SH h) (hi : vp_in i 310) : hIld h 83 i K = K (ai h 83 (cl i)) := L_hIld hS pl83 hi
theorem W83 {α : Type} {h : AH} {i x : Int32} {K : AH → Option α} (hS : SH h) (hi : vp_in i 310) : hIst h 83 i x K = K (wAI h 83 (upd (ai h 83) (cl i) x)) := L_hIst hS pl83 hi
theorem pl84 : PL[84]? = some (cI 310 (fun _ => 0)) := rfl
theorem E84 {α : Type} {h : AH} {K : Nat → Option α} (hS : SH h) : hLen h 84 K = K 310 := L_len hS pl84
theorem a84 {h : AH} {f : Nat → Int32} (hS : SH h) : ai (wAI h 84 f) 84 = f := ai_wAI hS pl84
theorem I84 {α : Type} {h : AH} {i : Int32} {K : Int32 → Option α} (hS : SH h) (hi : vp_in i 310) : hIld h 84 i K = K (ai h 84 (cl i)) := L_hIld hS pl84 hi
theorem W84 {α : Type} {h : AH} {i x : Int32} {K : AH → Option α} (hS : SH h) (hi : vp_in i 310) : hIst h 84 i x K = K (wAI h 84 (upd (ai h 84) (cl i) x)) := L_hIst hS pl84 hi
theorem pl85 : PL[85]? = some (cI 310 (fun _ => 0)) := rfl
theorem E85 {α : Type} {h : AH} {K : Nat → Option α} (hS : SH h) : hLen h 85 K = K 310 := L_len hS pl85
theorem a85 {h : AH} {f : Nat → Int32} (hS : SH h) : ai (wAI h 85 f) 85 = f := ai_wAI hS pl85
theorem I85 {α : Type} {h : AH} {i : Int32} {K : Int32 → Option α} (hS : SH h) (hi : vp_in i 310) : hIld h 85 i K = K (ai h 85 (cl i)) := L_hIld hS pl85 hi
theorem W85 {α : Type} {h : AH} {i x : Int32} {K : AH → Option α} (hS : SH h) (hi : vp_in i 310) : hIst h 85 i x K = K (wAI h 85 (upd (ai h 85) (cl i) x)) := L_hIst hS pl85 hi
theorem pl86 : PL[86]? = some (cI 5 (fun _ => 0)) := rfl
theorem E86 {α : Type} {h : AH} {K : Nat → Option α} (hS : SH h) : hLen h 86 K = K 5 := L_len hS pl86
theorem a86 {h : AH} {f : Nat → Int32} (hS : SH h) : ai (wAI h 86 f) 86 = f := ai_wAI hS pl86
theorem I86 {α : Type} {h : AH} {i : Int32} {K : Int32 → Option α} (hS : SH h) (hi : vp_in i 5) : hIld h 86 i K = K (ai h 86 (cl i)) := L_hIld hS pl86 hi
theorem W86 {α : Type} {h : AH} {i x : Int32} {K : AH → Option α} (hS : SH h) (hi : vp_in i 5) : hIst h 86 i x K = K (wAI h 86 (upd (ai h 86) (cl i) x)) := L_hIst hS pl86 hi
theorem pl87 : PL[87]? = some (cI 5 (fun _ => 0)) := rfl
theorem E87 {α : Type} {h : AH} {K : Nat → Option α} (hS : SH h) : hLen h 87 K = K 5 := L_len hS pl87
theorem a87 {h : AH} {f : Nat → Int32} (hS : SH h) : ai (wAI h 87 f) 87 = f := ai_wAI hS pl87
theorem I87 {α : Type} {h : AH} {i : Int32} {K : Int32 → Option α} (hS : SH h) (hi : vp_in i 5) : hIld h 87 i K = K (ai h 87 (cl i)) := L_hIld hS pl87 hi
theorem W87 {α : Type} {h : AH} {i x : Int32} {K : AH → Option α} (hS : SH h) (hi : vp_in i 5) : hIst h 87 i x K = K (wAI h 87 (upd (ai h 87) (cl i) x)) := L_hIst hS pl87 hi
theorem pl88 : PL[88]? = some (cJ 6 (fun _ => 0)) := rfl
theorem E88 {α : Type} {h : AH} {K : Nat → Option α} (hS : SH h) : hLen h 88 K = K 6 := L_len hS pl88
theorem a88 {h : AH} {f : Nat → Int64} (hS : SH h) : aj (wAJ h 88 f) 88 = f := aj_wAJ hS pl88
theorem I88 {α : Type} {h : AH} {i : Int32} {K : Int64 → Option α} (hS : SH h) (hi : vp_in i 6) : hJld h 88 i K = K (aj h 88 (cl i)) := L_hJld hS pl88 hi
theorem W88 {α : Type} {h : AH} {i : Int32} {x : Int64} {K : AH → Option α} (hS : SH h) (hi : vp_in i 6) : hJst h 88 i x K = K (wAJ h 88 (vp_updL (aj h 88) (cl i) x)) := L_hJst hS pl88 hi
theorem pl89 : PL[89]? = some (cJ 6 (fun _ => 0)) := rfl
theorem E89 {α : Type} {h : AH} {K : Nat → Option α} (hS : SH h) : hLen h 89 K = K 6 := L_len hS pl89
theorem a89 {h : AH} {f : Nat → Int64} (hS : SH h) : aj (wAJ h 89 f) 89 = f := aj_wAJ hS pl89
theorem I89 {α : Type} {h : AH} {i : Int32} {K : Int64 → Option α} (hS : SH h) (hi : vp_in i 6) : hJld h 89 i K = K (aj h 89 (cl i)) := L_hJld hS pl89 hi
theorem W89 {α : Type} {h : AH} {i : Int32} {x : Int64} {K : AH → Option α} (hS : SH h) (hi : vp_in i 6) : hJst h 89 i x K = K (wAJ h 89 (vp_updL (aj h 89) (cl i) x)) := L_hJst hS pl89 hi
theorem pl90 : PL[90]? = some (cI 4 (fun _ => 0)) := rfl
theorem E90 {α : Type} {h : AH} {K : Nat → Option α} (hS : SH h) : hLen h 90 K = K 4 := L_len hS pl90
theorem a90 {h : AH} {f : Nat → Int32} (hS : SH h) : ai (wAI h 90 f) 90 = f := ai_wAI hS pl90
theorem I90 {α : Type} {h : AH} {i : Int32} {K : Int32 → Option α} (hS : SH h) (hi : vp_in i 4) : hIld h 90 i K = K (ai h 90 (cl i)) := L_hIld hS pl90 hi
theorem W90 {α : Type} {h : AH} {i x : Int32} {K : AH → Option α} (hS : SH h) (hi : vp_in i 4) : hIst h 90 i x K = K (wAI h 90 (upd (ai h 90) (cl i) x)) := L_hIst hS pl90 hi
theorem pl91 : PL[91]? = some (cI 20 (fun _ => 0)) := rfl
theorem E91 {α : Type} {h : AH} {K : Nat → Option α} (hS : SH h) : hLen h 91 K = K 20 := L_len hS pl91
theorem a91 {h : AH} {f : Nat → Int32} (hS : SH h) : ai (wAI h 91 f) 91 = f := ai_wAI hS pl91
theorem I91 {α : Type} {h : AH} {i : Int32} {K : Int32 → Option α} (hS : SH h) (hi : vp_in i 20) : hIld h 91 i K = K (ai h 91 (cl i)) := L_hIld hS pl91 hi
theorem W91 {α : Type} {h : AH} {i x : Int32} {K : AH → Option α} (hS : SH h) (hi : vp_in i 20) : hIst h 91 i x K = K (wAI h 91 (upd (ai h 91) (cl i) x)) := L_hIst hS pl91 hi
theorem pl92 : PL[92]? = some (cJ 310 (fun _ => 0)) := rfl
theorem E92 {α : Type} {h : AH} {K : Nat → Option α} (hS : SH h) : hLen h 92 K = K 310 := L_len hS pl92
theorem a92 {h : AH} {f : Nat → Int64} (hS : SH h) : aj (wAJ h 92 f) 92 = f := aj_wAJ hS pl92
theorem I92 {α : Type} {h : AH} {i : Int32} {K : Int64 → Option α} (hS : SH h) (hi : vp_in i 310) : hJld h 92 i K = K (aj h 92 (cl i)) := L_hJld hS pl92 hi
theorem W92 {α : Type} {h : AH} {i : Int32} {x : Int64} {K : AH → Option α} (hS : SH h) (hi : vp_in i 310) : hJst h 92 i x K = K (wAJ h 92 (vp_updL (aj h 92) (cl i) x)) := L_hJst hS pl92 hi
theorem pl93 : PL[93]? = some (cJ 310 (fun _ => 0)) := rfl
theorem E93 {α : Type} {h : AH} {K : Nat → Option α} (hS : SH h) : hLen h 93 K = K 310 := L_len hS pl93
theorem a93 {h : AH} {f : Nat → Int64} (hS : SH h) : aj (wAJ h 93 f) 93 = f := aj_wAJ hS pl93
theorem I93 {α : Type} {h : AH} {i : Int32} {K : Int64 → Option α} (hS : SH h) (hi : vp_in i 310) : hJld h 93 i K = K (aj h 93 (cl i)) := L_hJld hS pl93 hi
theorem W93 {α : Type} {h : AH} {i : Int32} {x : Int64} {K : AH → Option α} (hS : SH h) (hi : vp_in i 310) : hJst h 93 i x K = K (wAJ h 93 (vp_updL (aj h 93) (cl i) x)) := L_hJst hS pl93 hi
theorem pl94 : PL[94]? = some (cJ 310 (fun _ => 0)) := rfl
theorem E94 {α : Type} {h : AH} {K : Nat → Option α} (hS : SH h) : hLen h 94 K = K 310 := L_len hS pl94
theorem a94 {h : AH} {f : Nat → Int64} (hS : SH h) : aj (wAJ h 94 f) 94 = f := aj_wAJ hS pl94
theorem I94 {α : Type} {h : AH} {i : Int32} {K : Int64 → Option α} (hS : SH h) (hi : vp_in i 310) : hJld h 94 i K = K (aj h 94 (cl i)) := L_hJld hS pl94 hi
theorem W94 {α : Type} {h : AH} {i : Int32} {x : Int64} {K : AH → Option α} (hS : SH h) (hi : vp_in i 310) : hJst h 94 i x K = K (wAJ h 94 (vp_updL (aj h 94) (cl i) x)) := L_hJst hS pl94 hi
theorem pl95 : PL[95]? = some (cJ 310 (fun _ => 0)) := rfl
theorem E95 {α : Type} {h : AH} {K : Nat → Option α} (hS : SH h) : hLen h 95 K = K 310 := L_len hS pl95
theorem a95 {h : AH} {f : Nat → Int64} (hS : SH h) : aj (wAJ h 95 f) 95 = f := aj_wAJ hS pl95
theorem I95 {α : Type} {h : AH} {i : Int32} {K : Int64 → Option α} (hS : SH h) (hi : vp_in i 310) : hJld h 95 i K = K (aj h 95 (cl i)) := L_hJld hS pl95 hi
theorem W95 {α : Type} {h : AH} {i : Int32} {x : Int64} {K : AH → Option α} (hS : SH h) (hi : vp_in i 310) : hJst h 95 i x K = K (wAJ h 95 (vp_updL (aj h 95) (cl i) x)) := L_hJst hS pl95 hi
theorem pl96 : PL[96]? = some (cZ 310 (fun _ => 0)) := rfl
theorem E96 {α : Type} {h : AH} {K : Nat → Option α} (hS : SH h) : hLen h 96 K = K 310 := L_len hS pl96
theorem a96 {h : AH} {f : Nat → Int32} (hS : SH h) : ai (wAI h 96 f) 96 = f := ai_wAI hS pl96
theorem I96 {α : Type} {h : AH} {i : Int32} {K : Int32 → Option α} (hS : SH h) (hi : vp_in i 310) : hBld h 96 i K = K (ai h 96 (cl i)) := L_hBld hS pl96 hi
theorem W96 {α : Type} {h : AH} {i x : Int32} {K : AH → Option α} (hS : SH h) (hi : vp_in i 310) : hBst h 96 i x K = K (wAI h 96 (upd (ai h 96) (cl i) (vp_nar .boolean x))) := L_hBst hS pl96 hi
theorem pl97 : PL[97]? = some (cI 128 (fun _ => 0)) := rfl
theorem E97 {α : Type} {h : AH} {K : Nat → Option α} (hS : SH h) : hLen h 97 K = K 128 := L_len hS pl97
theorem a97 {h : AH} {f : Nat → Int32} (hS : SH h) : ai (wAI h 97 f) 97 = f := ai_wAI hS pl97
theorem I97 {α : Type} {h : AH} {i : Int32} {K : Int32 → Option α} (hS : SH h) (hi : vp_in i 128) : hIld h 97 i K = K (ai h 97 (cl i)) := L_hIld hS pl97 hi
theorem W97 {α : Type} {h : AH} {i x : Int32} {K : AH → Option α} (hS : SH h) (hi : vp_in i 128) : hIst h 97 i x K = K (wAI h 97 (upd (ai h 97) (cl i) x)) := L_hIst hS pl97 hi
theorem pl98 : PL[98]? = some (cZ 16384 (fun _ => 0)) := rfl
theorem E98 {α : Type} {h : AH} {K : Nat → Option α} (hS : SH h) : hLen h 98 K = K 16384 := L_len hS pl98
theorem a98 {h : AH} {f : Nat → Int32} (hS : SH h) : ai (wAI h 98 f) 98 = f := ai_wAI hS pl98
theorem I98 {α : Type} {h : AH} {i : Int32} {K : Int32 → Option α} (hS : SH h) (hi : vp_in i 16384) : hBld h 98 i K = K (ai h 98 (cl i)) := L_hBld hS pl98 hi
theorem W98 {α : Type} {h : AH} {i x : Int32} {K : AH → Option α} (hS : SH h) (hi : vp_in i 16384) : hBst h 98 i x K = K (wAI h 98 (upd (ai h 98) (cl i) (vp_nar .boolean x))) := L_hBst hS pl98 hi
theorem pl99 : PL[99]? = some (cZ 128 (fun _ => 0)) := rfl
theorem E99 {α : Type} {h : AH} {K : Nat → Option α} (hS : SH h) : hLen h 99 K = K 128 := L_len hS pl99
theorem a99 {h : AH} {f : Nat → Int32} (hS : SH h) : ai (wAI h 99 f) 99 = f := ai_wAI hS pl99
theorem I99 {α : Type} {h : AH} {i : Int32} {K : Int32 → Option α} (hS : SH h) (hi : vp_in i 128) : hBld h 99 i K = K (ai h 99 (cl i)) := L_hBld hS pl99 hi
theorem W99 {α : Type} {h : AH} {i x : Int32} {K : AH → Option α} (hS : SH h) (hi : vp_in i 128) : hBst h 99 i x K = K (wAI h 99 (upd (ai h 99) (cl i) (vp_nar .boolean x))) := L_hBst hS pl99 hi
theorem pl100 : PL[100]? = some (cZ 16384 (fun _ => 0)) := rfl
theorem E100 {α : Type} {h : AH} {K : Nat → Option α} (hS : SH h) : hLen h 100 K = K 16384 := L_len hS pl100
theorem a100 {h : AH} {f : Nat → Int32} (hS : SH h) : ai (wAI h 100 f) 100 = f := ai_wAI hS pl100
theorem I100 {α : Type} {h : AH} {i : Int32} {K : Int32 → Option α} (hS : SH h) (hi : vp_in i 16384) : hBld h 100 i K = K (ai h 100 (cl i)) := L_hBld hS pl100 hi
theorem W100 {α : Type} {h : AH} {i x : Int32} {K : AH → Option α} (hS : SH h) (hi : vp_in i 16384) : hBst h 100 i x K = K (wAI h 100 (upd (ai h 100) (cl i) (vp_nar .boolean x))) := L_hBst hS pl100 hi
theorem pl101 : PL[101]? = some (cZ 512 (fun _ => 0)) := rfl
theorem E101 {α : Type} {h : AH} {K : Nat → Option α} (hS : SH h) : hLen h 101 K = K 512 := L_len hS pl101
theorem a101 {h : AH} {f : Nat → Int32} (hS : SH h) : ai (wAI h 101 f) 101 = f := ai_wAI hS pl101
theorem I101 {α : Type} {h : AH} {i : Int32} {K : Int32 → Option α} (hS : SH h) (hi : vp_in i 512) : hBld h 101 i K = K (ai h 101 (cl i)) := L_hBld hS pl101 hi
theorem W101 {α : Type} {h : AH} {i x : Int32} {K : AH → Option α} (hS : SH h) (hi : vp_in i 512) : hBst h 101 i x K = K (wAI h 101 (upd (ai h 101) (cl i) (vp_nar .boolean x))) := L_hBst hS pl101 hi
theorem pl102 : PL[102]? = some (cZ 128 (fun _ => 0)) := rfl
theorem E102 {α : Type} {h : AH} {K : Nat → Option α} (hS : SH h) : hLen h 102 K = K 128 := L_len hS pl102
theorem a102 {h : AH} {f : Nat → Int32} (hS : SH h) : ai (wAI h 102 f) 102 = f := ai_wAI hS pl102
theorem I102 {α : Type} {h : AH} {i : Int32} {K : Int32 → Option α} (hS : SH h) (hi : vp_in i 128) : hBld h 102 i K = K (ai h 102 (cl i)) := L_hBld hS pl102 hi
theorem W102 {α : Type} {h : AH} {i x : Int32} {K : AH → Option α} (hS : SH h) (hi : vp_in i 128) : hBst h 102 i x K = K (wAI h 102 (upd (ai h 102) (cl i) (vp_nar .boolean x))) := L_hBst hS pl102 hi
theorem pl103 : PL[103]? = some (cI 128 (fun _ => 0)) := rfl
theorem E103 {α : Type} {h : AH} {K : Nat → Option α} (hS : SH h) : hLen h 103 K = K 128 := L_len hS pl103
theorem a103 {h : AH} {f : Nat → Int32} (hS : SH h) : ai (wAI h 103 f) 103 = f := ai_wAI hS pl103
theorem I103 {α : Type} {h : AH} {i : Int32} {K : Int32 → Option α} (hS : SH h) (hi : vp_in i 128) : hIld h 103 i K = K (ai h 103 (cl i)) := L_hIld hS pl103 hi
theorem W103 {α : Type} {h : AH} {i x : Int32} {K : AH → Option α} (hS : SH h) (hi : vp_in i 128) : hIst h 103 i x K = K (wAI h 103 (upd (ai h 103) (cl i) x)) := L_hIst hS pl103 hi
theorem pl104 : PL[104]? = some (cI 128 (fun _ => 0)) := rfl
theorem E104 {α : Type} {h : AH} {K : Nat → Option α} (hS : SH h) : hLen h 104 K = K 128 := L_len hS pl104
theorem a104 {h : AH} {f : Nat → Int32} (hS : SH h) : ai (wAI h 104 f) 104 = f := ai_wAI hS pl104
theorem I104 {α : Type} {h : AH} {i : Int32} {K : Int32 → Option α} (hS : SH h) (hi : vp_in i 128) : hIld h 104 i K = K (ai h 104 (cl i)) := L_hIld hS pl104 hi
theorem W104 {α : Type} {h : AH} {i x : Int32} {K : AH → Option α} (hS : SH h) (hi : vp_in i 128) : hIst h 104 i x K = K (wAI h 104 (upd (ai h 104) (cl i) x)) := L_hIst hS pl104 hi
theorem pl105 : PL[105]? = some (cZ 128 (fun _ => 0)) := rfl
theorem E105 {α : Type} {h : AH} {K : Nat → Option α} (hS : SH h) : hLen h 105 K = K 128 := L_len hS pl105
theorem a105 {h : AH} {f : Nat → Int32} (hS : SH h) : ai (wAI h 105 f) 105 = f := ai_wAI hS pl105
theorem I105 {α : Type} {h : AH} {i : Int32} {K : Int32 → Option α} (hS : SH h) (hi : vp_in i 128) : hBld h 105 i K = K (ai h 105 (cl i)) := L_hBld hS pl105 hi
theorem W105 {α : Type} {h : AH} {i x : Int32} {K : AH → Option α} (hS : SH h) (hi : vp_in i 128) : hBst h 105 i x K = K (wAI h 105 (upd (ai h 105) (cl i) (vp_nar .boolean x))) := L_hBst hS pl105 hi
theorem pl106 : PL[106]? = some (cI 6 (fun _ => 0)) := rfl
theorem E106 {α : Type} {h : AH} {K : Nat → Option α} (hS : SH h) : hLen h 106 K = K 6 := L_len hS pl106
theorem a106 {h : AH} {f : Nat → Int32} (hS : SH h) : ai (wAI h 106 f) 106 = f := ai_wAI hS pl106
theorem I106 {α : Type} {h : AH} {i : Int32} {K : Int32 → Option α} (hS : SH h) (hi : vp_in i 6) : hIld h 106 i K = K (ai h 106 (cl i)) := L_hIld hS pl106 hi
theorem W106 {α : Type} {h : AH} {i x : Int32} {K : AH → Option α} (hS : SH h) (hi : vp_in i 6) : hIst h 106 i x K = K (wAI h 106 (upd (ai h 106) (cl i) x)) := L_hIst hS pl106 hi
theorem pl107 : PL[107]? = some (cI 6 (fun _ => 0)) := rfl
theorem E107 {α : Type} {h : AH} {K : Nat → Option α} (hS : SH h) : hLen h 107 K = K 6 := L_len hS pl107
theorem a107 {h : AH} {f : Nat → Int32} (hS : SH h) : ai (wAI h 107 f) 107 = f := ai_wAI hS pl107
theorem I107 {α : Type} {h : AH} {i : Int32} {K : Int32 → Option α} (hS : SH h) (hi : vp_in i 6) : hIld h 107 i K = K (ai h 107 (cl i)) := L_hIld hS pl107 hi
theorem W107 {α : Type} {h : AH} {i x : Int32} {K : AH → Option α} (hS : SH h) (hi : vp_in i 6) : hIst h 107 i x K = K (wAI h 107 (upd (ai h 107) (cl i) x)) := L_hIst hS pl107 hi
theorem pl108 : PL[108]? = some (cZ 36 (fun _ => 0)) := rfl
theorem E108 {α : Type} {h : AH} {K : Nat → Option α} (hS : SH h) : hLen h 108 K = K 36 := L_len hS pl108
theorem a108 {h : AH} {f : Nat → Int32} (hS : SH h) : ai (wAI h 108 f) 108 = f := ai_wAI hS pl108
theorem I108 {α : Type} {h : AH} {i : Int32} {K : Int32 → Option α} (hS : SH h) (hi : vp_in i 36) : hBld h 108 i K = K (ai h 108 (cl i)) := L_hBld hS pl108 hi
theorem W108 {α : Type} {h : AH} {i x : Int32} {K : AH → Option α} (hS : SH h) (hi : vp_in i 36) : hBst h 108 i x K = K (wAI h 108 (upd (ai h 108) (cl i) (vp_nar .boolean x))) := L_hBst hS pl108 hi
theorem pl109 : PL[109]? = some (cJ 6 (fun _ => 0)) := rfl
theorem E109 {α : Type} {h : AH} {K : Nat → Option α} (hS : SH h) : hLen h 109 K = K 6 := L_len hS pl109
theorem a109 {h : AH} {f : Nat → Int64} (hS : SH h) : aj (wAJ h 109 f) 109 = f := aj_wAJ hS pl109
theorem I109 {α : Type} {h : AH} {i : Int32} {K : Int64 → Option α} (hS : SH h) (hi : vp_in i 6) : hJld h 109 i K = K (aj h 109 (cl i)) := L_hJld hS pl109 hi
theorem W109 {α : Type} {h : AH} {i : Int32} {x : Int64} {K : AH → Option α} (hS : SH h) (hi : vp_in i 6) : hJst h 109 i x K = K (wAJ h 109 (vp_updL (aj h 109) (cl i) x)) := L_hJst hS pl109 hi
theorem pl110 : PL[110]? = some (cJ 6 (fun _ => 0)) := rfl
theorem E110 {α : Type} {h : AH} {K : Nat → Option α} (hS : SH h) : hLen h 110 K = K 6 := L_len hS pl110
theorem a110 {h : AH} {f : Nat → Int64} (hS : SH h) : aj (wAJ h 110 f) 110 = f := aj_wAJ hS pl110
theorem I110 {α : Type} {h : AH} {i : Int32} {K : Int64 → Option α} (hS : SH h) (hi : vp_in i 6) : hJld h 110 i K = K (aj h 110 (cl i)) := L_hJld hS pl110 hi
theorem W110 {α : Type} {h : AH} {i : Int32} {x : Int64} {K : AH → Option α} (hS : SH h) (hi : vp_in i 6) : hJst h 110 i x K = K (wAJ h 110 (vp_updL (aj h 110) (cl i) x)) := L_hJst hS pl110 hi
theorem pl111 : PL[111]? = some (cI 128 (fun _ => 0)) := rfl
theorem E111 {α : Type} {h : AH} {K : Nat → Option α} (hS : SH h) : hLen h 111 K = K 128 := L_len hS pl111
theorem a111 {h : AH} {f : Nat → Int32} (hS : SH h) : ai (wAI h 111 f) 111 = f := ai_wAI hS pl111
theorem I111 {α : Type} {h : AH} {i : Int32} {K : Int32 → Option α} (hS : SH h) (hi : vp_in i 128) : hIld h 111 i K = K (ai h 111 (cl i)) := L_hIld hS pl111 hi
theorem W111 {α : Type} {h : AH} {i x : Int32} {K : AH → Option α} (hS : SH h) (hi : vp_in i 128) : hIst h 111 i x K = K (wAI h 111 (upd (ai h 111) (cl i) x)) := L_hIst hS pl111 hi
theorem pl112 : PL[112]? = some (cI 128 (fun _ => 0)) := rfl
theorem E112 {α : Type} {h : AH} {K : Nat → Option α} (hS : SH h) : hLen h 112 K = K 128 := L_len hS pl112
theorem a112 {h : AH} {f : Nat → Int32} (hS : SH h) : ai (wAI h 112 f) 112 = f := ai_wAI hS pl112
theorem I112 {α : Type} {h : AH} {i : Int32} {K : Int32 → Option α} (hS : SH h) (hi : vp_in i 128) : hIld h 112 i K = K (ai h 112 (cl i)) := L_hIld hS pl112 hi
theorem W112 {α : Type} {h : AH} {i x : Int32} {K : AH → Option α} (hS : SH h) (hi : vp_in i 128) : hIst h 112 i x K = K (wAI h 112 (upd (ai h 112) (cl i) x)) := L_hIst hS pl112 hi
theorem pl113 : PL[113]? = some (cZ 128 (fun _ => 0)) := rfl
theorem E113 {α : Type} {h : AH} {K : Nat → Option α} (hS : SH h) : hLen h 113 K = K 128 := L_len hS pl113
theorem a113 {h : AH} {f : Nat → Int32} (hS : SH h) : ai (wAI h 113 f) 113 = f := ai_wAI hS pl113
theorem I113 {α : Type} {h : AH} {i : Int32} {K : Int32 → Option α} (hS : SH h) (hi : vp_in i 128) : hBld h 113 i K = K (ai h 113 (cl i)) := L_hBld hS pl113 hi
theorem W113 {α : Type} {h : AH} {i x : Int32} {K : AH → Option α} (hS : SH h) (hi : vp_in i 128) : hBst h 113 i x K = K (wAI h 113 (upd (ai h 113) (cl i) (vp_nar .boolean x))) := L_hBst hS pl113 hi
theorem pl114 : PL[114]? = some (cI 128 (fun _ => 0)) := rfl
theorem E114 {α : Type} {h : AH} {K : Nat → Option α} (hS : SH h) : hLen h 114 K = K 128 := L_len hS pl114
theorem a114 {h : AH} {f : Nat → Int32} (hS : SH h) : ai (wAI h 114 f) 114 = f := ai_wAI hS pl114
theorem I114 {α : Type} {h : AH} {i : Int32} {K : Int32 → Option α} (hS : SH h) (hi : vp_in i 128) : hIld h 114 i K = K (ai h 114 (cl i)) := L_hIld hS pl114 hi
theorem W114 {α : Type} {h : AH} {i x : Int32} {K : AH → Option α} (hS : SH h) (hi : vp_in i 128) : hIst h 114 i x K = K (wAI h 114 (upd (ai h 114) (cl i) x)) := L_hIst hS pl114 hi
theorem pl115 : PL[115]? = some (cI 12 (fun _ => 0)) := rfl
theorem E115 {α : Type} {h : AH} {K : Nat → Option α} (hS : SH h) : hLen h 115 K = K 12 := L_len hS pl115
theorem a115 {h : AH} {f : Nat → Int32} (hS : SH h) : ai (wAI h 115 f) 115 = f := ai_wAI hS pl115
theorem I115 {α : Type} {h : AH} {i : Int32} {K : Int32 → Option α} (hS : SH h) (hi : vp_in i 12) : hIld h 115 i K = K (ai h 115 (cl i)) := L_hIld hS pl115 hi
theorem W115 {α : Type} {h : AH} {i x : Int32} {K : AH → Option α} (hS : SH h) (hi : vp_in i 12) : hIst h 115 i x K = K (wAI h 115 (upd (ai h 115) (cl i) x)) := L_hIst hS pl115 hi
theorem pl116 : PL[116]? = some (cI 128 (fun _ => 0)) := rfl
theorem E116 {α : Type} {h : AH} {K : Nat → Option α} (hS : SH h) : hLen h 116 K = K 128 := L_len hS pl116
theorem a116 {h : AH} {f : Nat → Int32} (hS : SH h) : ai (wAI h 116 f) 116 = f := ai_wAI hS pl116
theorem I116 {α : Type} {h : AH} {i : Int32} {K : Int32 → Option α} (hS : SH h) (hi : vp_in i 128) : hIld h 116 i K = K (ai h 116 (cl i)) := L_hIld hS pl116 hi
theorem W116 {α : Type} {h : AH} {i x : Int32} {K : AH → Option α} (hS : SH h) (hi : vp_in i 128) : hIst h 116 i x K = K (wAI h 116 (upd (ai h 116) (cl i) x)) := L_hIst hS pl116 hi
theorem pl117 : PL[117]? = some (cJ 1 (fun _ => 0)) := rfl
theorem E117 {α : Type} {h : AH} {K : Nat → Option α} (hS : SH h) : hLen h 117 K = K 1 := L_len hS pl117
theorem a117 {h : AH} {f : Nat → Int64} (hS : SH h) : aj (wAJ h 117 f) 117 = f := aj_wAJ hS pl117
theorem I117 {α : Type} {h : AH} {i : Int32} {K : Int64 → Option α} (hS : SH h) (hi : vp_in i 1) : hJld h 117 i K = K (aj h 117 (cl i)) := L_hJld hS pl117 hi
theorem W117 {α : Type} {h : AH} {i : Int32} {x : Int64} {K : AH → Option α} (hS : SH h) (hi : vp_in i 1) : hJst h 117 i x K = K (wAJ h 117 (vp_updL (aj h 117) (cl i) x)) := L_hJst hS pl117 hi
theorem pS {i : Nat} (hi : i < 4) : PL[74 + i]? = some (cO 2 [.long 0, .long 0]) := by rcases i with _ | _ | _ | _ | i <;> first | rfl | omega
theorem pN {i : Nat} (hi : i < 4) : PL[58 + 4 * i]? = some (cO 5 [.ref (59 + 4 * i), .ref (60 + 4 * i), .ref (61 + 4 * i), .int 0]) := by rcases i with _ | _ | _ | _ | i <;> first | rfl | omega
theorem aSt {h : AH} {i : Nat} (hS : SH h) (hi : i < 4) : ar h 42 i = some (74 + i) := by rw [a42 hS hi]; rcases i with _ | _ | _ | _ | i <;> first | rfl | omega
theorem aNt {h : AH} {i : Nat} (hS : SH h) (hi : i < 4) : ar h 22 i = some (58 + 4 * i) := by rw [a22 hS hi]; rcases i with _ | _ | _ | _ | i <;> first | rfl | omega
