/-! one list of words for every method: those of the tables that stay true where the tables get warmer -/
def wk2 : Cond → Bool
  | .fieldLinkNest .. => true
  | .methodLinkNest .. => true
  | .stringRef .. => true
  | _ => false
def wk (w : Cond) : Bool := goodWord w || wk2 w
def GG : List Cond := lw_tbl.filter wk
theorem GG_t {w : Cond} (i : Nat) (h : tables_1[i]? = some w) (hk : wk w = true) : w ∈ GG := List.mem_filter.mpr ⟨List.mem_append_right _ (List.mem_of_getElem? h), hk⟩
theorem GG_s {w : Cond} (i : Nat) (h : (k2_sels lw_privs)[i]? = some w) (hk : wk w = true) : w ∈ GG := List.mem_filter.mpr ⟨List.mem_append_left _ (List.mem_of_getElem? h), hk⟩
theorem GG_wk {w : Cond} (h : w ∈ GG) : wk w = true := (List.mem_filter.mp h).2
theorem wk_warm {w : Cond} (hk : wk w = true) {args a' : Array Value} {s U : State} (hW : s.WarmedH U.vm) (h : w.before args s = true) : w.before a' U = true := by
  by_cases hg : goodWord w = true
  · exact word_at hW (good_of_word hg) h
  · have h2 : wk2 w = true := by
      simp only [wk, Bool.or_eq_true] at hk
      exact hk.resolve_left hg
    cases w with
    | fieldLinkNest a i b n d hh => exact va_tabs rfl (rfl : (s.setVm U.vm).vm = U.vm) (Cond.fieldLinkNest_warmed (args := args) hW h)
    | methodLinkNest a i x hh => exact va_tabs rfl (rfl : (s.setVm U.vm).vm = U.vm) (Cond.methodLinkNest_warmed (args := args) hW h)
    | stringRef o k tx =>
      have h1 := Cond.stringRef_warmed hW h
      simp only [Cond.before, Cond.holds, Cond.value, State.names, State.poolOf?, State.resolvedAt?] at h1 ⊢
      exact h1
    | _ => cases h2
theorem GG_warm {w : Cond} (hw : w ∈ GG) {args a' : Array Value} {s U : State} (hW : s.WarmedH U.vm) (h : w.before args s = true) : w.before a' U = true := wk_warm (GG_wk hw) hW h
/-- the room of a method that nests at most d calls and makes nothing -/
abbrev rmd (d : Nat) : Room := { frames := d, cells := 0, slots := 0, locals := 60 * d }
