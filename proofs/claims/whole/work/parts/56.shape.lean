/-! ===== where the solver's objects lie, counted from its own address; printed by wip/whole/genshape.py ===== -/
def cSh (σ : tz_S) (o N : Nat) : Prop :=
  tz_sh σ o = some (.inl (11, [some (some (o + 1)), some (some (o + 19)), some (some (o + 30)), some (some (o + 32)), some (some (o + 312)), some (some (o + 322)), some (some (o + 328)), some (some (o + 341)), some (some (o + 342)), none])) ∧
  tz_sh σ (o + 1) = some (.inl (6, [some (some (o + 2)), some (some (o + 15)), some (some (o + 16)), some (some (o + 17)), some (some (o + 18)), none, none])) ∧
  tz_sh σ (o + 2) = some (.inr (6, 12)) ∧
  (∀ r, r < 12 → tz_sh σ (o + 3 + r) = some (.inr (0, 10)) ∧ tz_R σ (o + 2) r = some (o + 3 + r)) ∧
  tz_sh σ (o + 15) = some (.inr (0, 12)) ∧
  tz_sh σ (o + 16) = some (.inr (0, 12)) ∧
  tz_sh σ (o + 17) = some (.inr (1, 10)) ∧
  tz_sh σ (o + 18) = some (.inr (0, 10)) ∧
  dSh σ (o + 19) N ∧
  sSh σ (o + 30) (o + 30 + 1) N ∧
  tz_sh σ (o + 32) = some (.inl (9, [some (some (o + 30)), some (some (o + 19)), some (some (o + 33)), some (some (o + 34)), some (some (o + 35)), some (some (o + 36)), some (some (o + 37)), some (some (o + 38)), some (some (o + 39)), some (some (o + 40)), some (some (o + 42)), some (some (o + 44)), some (some (o + 46)), none, none])) ∧
  tz_sh σ (o + 33) = some (.inr (3, 120)) ∧
  tz_sh σ (o + 34) = some (.inr (3, 12)) ∧
  tz_sh σ (o + 35) = some (.inr (2, 10)) ∧
  tz_sh σ (o + 36) = some (.inr (0, 12)) ∧
  tz_sh σ (o + 37) = some (.inr (0, 10)) ∧
  tz_sh σ (o + 38) = some (.inr (0, 22)) ∧
  tz_sh σ (o + 39) = some (.inr (1, 22)) ∧
  bSh σ (o + 40) (o + 40 + 1) 8 ∧
  bSh σ (o + 42) (o + 42 + 1) 12 ∧
  bSh σ (o + 44) (o + 44 + 1) 8 ∧
  bSh σ (o + 46) (o + 46 + 1) N ∧
  (∀ k, k < 120 → bSh σ (o + 48 + 2 * k) (o + 48 + 2 * k + 1) 8 ∧ tz_R σ (o + 33) k = some (o + 48 + 2 * k)) ∧
  (∀ r, r < 12 → bSh σ (o + 288 + 2 * r) (o + 288 + 2 * r + 1) 12 ∧ tz_R σ (o + 34) r = some (o + 288 + 2 * r)) ∧
  tz_sh σ (o + 312) = some (.inl (10, [some (some (o + 313)), some (some (o + 314)), some (some (o + 315)), some (some (o + 316)), some (some (o + 317)), some (some (o + 318)), some (some (o + 319)), some (some (o + 320)), some (some (o + 321)), none, none, none])) ∧
  tz_sh σ (o + 313) = some (.inr (0, 301)) ∧
  tz_sh σ (o + 314) = some (.inr (0, 301)) ∧
  tz_sh σ (o + 315) = some (.inr (0, 301)) ∧
  tz_sh σ (o + 316) = some (.inr (0, 301)) ∧
  tz_sh σ (o + 317) = some (.inr (2, 301)) ∧
  tz_sh σ (o + 318) = some (.inr (2, 301)) ∧
  tz_sh σ (o + 319) = some (.inr (1, 301)) ∧
  tz_sh σ (o + 320) = some (.inr (0, 301)) ∧
  tz_sh σ (o + 321) = some (.inr (5, 151)) ∧
  tz_sh σ (o + 322) = some (.inl (7, [some (some (o + 1)), some (some (o + 32)), some (some (o + 312)), some (some (o + 323)), none, none, none, none, none])) ∧
  tz_sh σ (o + 323) = some (.inl (1, [some (some (o + 324)), some (some (o + 325)), some (some (o + 326)), some (some (o + 327))])) ∧
  tz_sh σ (o + 324) = some (.inr (1, 22)) ∧
  tz_sh σ (o + 325) = some (.inr (1, 22)) ∧
  tz_sh σ (o + 326) = some (.inr (2, 22)) ∧
  tz_sh σ (o + 327) = some (.inr (2, 22)) ∧
  tz_sh σ (o + 328) = some (.inl (4, [some (some (o + 1)), some (some (o + 312)), some (some (o + 30)), some (some (o + 19)), some (some (o + 329)), some (some (o + 331)), some (some (o + 336)), some (some (o + 337)), some (some (o + 339))])) ∧
  sSh σ (o + 329) (o + 329 + 1) N ∧
  tz_sh σ (o + 331) = some (.inl (1, [some (some (o + 332)), some (some (o + 333)), some (some (o + 334)), some (some (o + 335))])) ∧
  tz_sh σ (o + 332) = some (.inr (1, 22)) ∧
  tz_sh σ (o + 333) = some (.inr (1, 22)) ∧
  tz_sh σ (o + 334) = some (.inr (2, 22)) ∧
  tz_sh σ (o + 335) = some (.inr (2, 22)) ∧
  tz_sh σ (o + 336) = some (.inr (2, 32)) ∧
  bSh σ (o + 337) (o + 337 + 1) N ∧
  bSh σ (o + 339) (o + 339 + 1) N ∧
  tz_sh σ (o + 341) = some (.inr (4, 10)) ∧
  fSh σ (o + 342) 12 ∧
  (∀ x, x < 10 → fSh σ (o + 347 + 5 * x) 12 ∧ tz_R σ (o + 341) x = some (o + 347 + 5 * x))
theorem cs_me {σ : tz_S} {o N : Nat} (h : cSh σ o N) : tz_sh σ o = some (.inl (11, [some (some (o + 1)), some (some (o + 19)), some (some (o + 30)), some (some (o + 32)), some (some (o + 312)), some (some (o + 322)), some (some (o + 328)), some (some (o + 341)), some (some (o + 342)), none])) := h.1
theorem cs_rows {σ : tz_S} {o N : Nat} (h : cSh σ o N) : tz_sh σ (o + 1) = some (.inl (6, [some (some (o + 2)), some (some (o + 15)), some (some (o + 16)), some (some (o + 17)), some (some (o + 18)), none, none])) := h.2.1
theorem cs_grid {σ : tz_S} {o N : Nat} (h : cSh σ o N) : tz_sh σ (o + 2) = some (.inr (6, 12)) := h.2.2.1
theorem cs_line {σ : tz_S} {o N : Nat} (h : cSh σ o N) : ∀ r, r < 12 → tz_sh σ (o + 3 + r) = some (.inr (0, 10)) ∧ tz_R σ (o + 2) r = some (o + 3 + r) := h.2.2.2.1
theorem cs_kinds {σ : tz_S} {o N : Nat} (h : cSh σ o N) : tz_sh σ (o + 15) = some (.inr (0, 12)) := h.2.2.2.2.1
theorem cs_nums {σ : tz_S} {o N : Nat} (h : cSh σ o N) : tz_sh σ (o + 16) = some (.inr (0, 12)) := h.2.2.2.2.2.1
theorem cs_iswh {σ : tz_S} {o N : Nat} (h : cSh σ o N) : tz_sh σ (o + 17) = some (.inr (1, 10)) := h.2.2.2.2.2.2.1
theorem cs_draft {σ : tz_S} {o N : Nat} (h : cSh σ o N) : tz_sh σ (o + 18) = some (.inr (0, 10)) := h.2.2.2.2.2.2.2.1
theorem cs_div {σ : tz_S} {o N : Nat} (h : cSh σ o N) : dSh σ (o + 19) N := h.2.2.2.2.2.2.2.2.1
theorem cs_sum {σ : tz_S} {o N : Nat} (h : cSh σ o N) : sSh σ (o + 30) (o + 30 + 1) N := h.2.2.2.2.2.2.2.2.2.1
theorem cs_tab {σ : tz_S} {o N : Nat} (h : cSh σ o N) : tz_sh σ (o + 32) = some (.inl (9, [some (some (o + 30)), some (some (o + 19)), some (some (o + 33)), some (some (o + 34)), some (some (o + 35)), some (some (o + 36)), some (some (o + 37)), some (some (o + 38)), some (some (o + 39)), some (some (o + 40)), some (some (o + 42)), some (some (o + 44)), some (some (o + 46)), none, none])) := h.2.2.2.2.2.2.2.2.2.2.1
theorem cs_cells {σ : tz_S} {o N : Nat} (h : cSh σ o N) : tz_sh σ (o + 33) = some (.inr (3, 120)) := h.2.2.2.2.2.2.2.2.2.2.2.1
theorem cs_ams {σ : tz_S} {o N : Nat} (h : cSh σ o N) : tz_sh σ (o + 34) = some (.inr (3, 12)) := h.2.2.2.2.2.2.2.2.2.2.2.2.1
theorem cs_rest {σ : tz_S} {o N : Nat} (h : cSh σ o N) : tz_sh σ (o + 35) = some (.inr (2, 10)) := h.2.2.2.2.2.2.2.2.2.2.2.2.2.1
theorem cs_rpl {σ : tz_S} {o N : Nat} (h : cSh σ o N) : tz_sh σ (o + 36) = some (.inr (0, 12)) := h.2.2.2.2.2.2.2.2.2.2.2.2.2.2.1
theorem cs_cpl {σ : tz_S} {o N : Nat} (h : cSh σ o N) : tz_sh σ (o + 37) = some (.inr (0, 10)) := h.2.2.2.2.2.2.2.2.2.2.2.2.2.2.2.1
theorem cs_lines {σ : tz_S} {o N : Nat} (h : cSh σ o N) : tz_sh σ (o + 38) = some (.inr (0, 22)) := h.2.2.2.2.2.2.2.2.2.2.2.2.2.2.2.2.1
theorem cs_isb {σ : tz_S} {o N : Nat} (h : cSh σ o N) : tz_sh σ (o + 39) = some (.inr (1, 22)) := h.2.2.2.2.2.2.2.2.2.2.2.2.2.2.2.2.2.1
theorem cs_common {σ : tz_S} {o N : Nat} (h : cSh σ o N) : bSh σ (o + 40) (o + 40 + 1) 8 := h.2.2.2.2.2.2.2.2.2.2.2.2.2.2.2.2.2.2.1
theorem cs_miss {σ : tz_S} {o N : Nat} (h : cSh σ o N) : bSh σ (o + 42) (o + 42 + 1) 12 := h.2.2.2.2.2.2.2.2.2.2.2.2.2.2.2.2.2.2.2.1
theorem cs_kept {σ : tz_S} {o N : Nat} (h : cSh σ o N) : bSh σ (o + 44) (o + 44 + 1) 8 := h.2.2.2.2.2.2.2.2.2.2.2.2.2.2.2.2.2.2.2.2.1
theorem cs_wide {σ : tz_S} {o N : Nat} (h : cSh σ o N) : bSh σ (o + 46) (o + 46 + 1) N := h.2.2.2.2.2.2.2.2.2.2.2.2.2.2.2.2.2.2.2.2.2.1
theorem cs_cell {σ : tz_S} {o N : Nat} (h : cSh σ o N) : ∀ k, k < 120 → bSh σ (o + 48 + 2 * k) (o + 48 + 2 * k + 1) 8 ∧ tz_R σ (o + 33) k = some (o + 48 + 2 * k) := h.2.2.2.2.2.2.2.2.2.2.2.2.2.2.2.2.2.2.2.2.2.2.1
theorem cs_am {σ : tz_S} {o N : Nat} (h : cSh σ o N) : ∀ r, r < 12 → bSh σ (o + 288 + 2 * r) (o + 288 + 2 * r + 1) 12 ∧ tz_R σ (o + 34) r = some (o + 288 + 2 * r) := h.2.2.2.2.2.2.2.2.2.2.2.2.2.2.2.2.2.2.2.2.2.2.2.1
theorem cs_tree {σ : tz_S} {o N : Nat} (h : cSh σ o N) : tz_sh σ (o + 312) = some (.inl (10, [some (some (o + 313)), some (some (o + 314)), some (some (o + 315)), some (some (o + 316)), some (some (o + 317)), some (some (o + 318)), some (some (o + 319)), some (some (o + 320)), some (some (o + 321)), none, none, none])) := h.2.2.2.2.2.2.2.2.2.2.2.2.2.2.2.2.2.2.2.2.2.2.2.2.1
theorem cs_above {σ : tz_S} {o N : Nat} (h : cSh σ o N) : tz_sh σ (o + 313) = some (.inr (0, 301)) := h.2.2.2.2.2.2.2.2.2.2.2.2.2.2.2.2.2.2.2.2.2.2.2.2.2.1
theorem cs_first {σ : tz_S} {o N : Nat} (h : cSh σ o N) : tz_sh σ (o + 314) = some (.inr (0, 301)) := h.2.2.2.2.2.2.2.2.2.2.2.2.2.2.2.2.2.2.2.2.2.2.2.2.2.2.1
theorem cs_second {σ : tz_S} {o N : Nat} (h : cSh σ o N) : tz_sh σ (o + 315) = some (.inr (0, 301)) := h.2.2.2.2.2.2.2.2.2.2.2.2.2.2.2.2.2.2.2.2.2.2.2.2.2.2.2.1
theorem cs_variable {σ : tz_S} {o N : Nat} (h : cSh σ o N) : tz_sh σ (o + 316) = some (.inr (0, 301)) := h.2.2.2.2.2.2.2.2.2.2.2.2.2.2.2.2.2.2.2.2.2.2.2.2.2.2.2.2.1
theorem cs_found {σ : tz_S} {o N : Nat} (h : cSh σ o N) : tz_sh σ (o + 317) = some (.inr (2, 301)) := h.2.2.2.2.2.2.2.2.2.2.2.2.2.2.2.2.2.2.2.2.2.2.2.2.2.2.2.2.2.1
theorem cs_told {σ : tz_S} {o N : Nat} (h : cSh σ o N) : tz_sh σ (o + 318) = some (.inr (2, 301)) := h.2.2.2.2.2.2.2.2.2.2.2.2.2.2.2.2.2.2.2.2.2.2.2.2.2.2.2.2.2.2.1
theorem cs_closed {σ : tz_S} {o N : Nat} (h : cSh σ o N) : tz_sh σ (o + 319) = some (.inr (1, 301)) := h.2.2.2.2.2.2.2.2.2.2.2.2.2.2.2.2.2.2.2.2.2.2.2.2.2.2.2.2.2.2.2.1
theorem cs_lnum {σ : tz_S} {o N : Nat} (h : cSh σ o N) : tz_sh σ (o + 320) = some (.inr (0, 301)) := h.2.2.2.2.2.2.2.2.2.2.2.2.2.2.2.2.2.2.2.2.2.2.2.2.2.2.2.2.2.2.2.2.1
theorem cs_leaves {σ : tz_S} {o N : Nat} (h : cSh σ o N) : tz_sh σ (o + 321) = some (.inr (5, 151)) := h.2.2.2.2.2.2.2.2.2.2.2.2.2.2.2.2.2.2.2.2.2.2.2.2.2.2.2.2.2.2.2.2.2.1
theorem cs_solv {σ : tz_S} {o N : Nat} (h : cSh σ o N) : tz_sh σ (o + 322) = some (.inl (7, [some (some (o + 1)), some (some (o + 32)), some (some (o + 312)), some (some (o + 323)), none, none, none, none, none])) := h.2.2.2.2.2.2.2.2.2.2.2.2.2.2.2.2.2.2.2.2.2.2.2.2.2.2.2.2.2.2.2.2.2.2.1
theorem cs_bnd {σ : tz_S} {o N : Nat} (h : cSh σ o N) : tz_sh σ (o + 323) = some (.inl (1, [some (some (o + 324)), some (some (o + 325)), some (some (o + 326)), some (some (o + 327))])) := h.2.2.2.2.2.2.2.2.2.2.2.2.2.2.2.2.2.2.2.2.2.2.2.2.2.2.2.2.2.2.2.2.2.2.2.1
theorem cs_hup {σ : tz_S} {o N : Nat} (h : cSh σ o N) : tz_sh σ (o + 324) = some (.inr (1, 22)) := h.2.2.2.2.2.2.2.2.2.2.2.2.2.2.2.2.2.2.2.2.2.2.2.2.2.2.2.2.2.2.2.2.2.2.2.2.1
theorem cs_hlo {σ : tz_S} {o N : Nat} (h : cSh σ o N) : tz_sh σ (o + 325) = some (.inr (1, 22)) := h.2.2.2.2.2.2.2.2.2.2.2.2.2.2.2.2.2.2.2.2.2.2.2.2.2.2.2.2.2.2.2.2.2.2.2.2.2.1
theorem cs_up {σ : tz_S} {o N : Nat} (h : cSh σ o N) : tz_sh σ (o + 326) = some (.inr (2, 22)) := h.2.2.2.2.2.2.2.2.2.2.2.2.2.2.2.2.2.2.2.2.2.2.2.2.2.2.2.2.2.2.2.2.2.2.2.2.2.2.1
theorem cs_lo {σ : tz_S} {o N : Nat} (h : cSh σ o N) : tz_sh σ (o + 327) = some (.inr (2, 22)) := h.2.2.2.2.2.2.2.2.2.2.2.2.2.2.2.2.2.2.2.2.2.2.2.2.2.2.2.2.2.2.2.2.2.2.2.2.2.2.2.1
theorem cs_judge {σ : tz_S} {o N : Nat} (h : cSh σ o N) : tz_sh σ (o + 328) = some (.inl (4, [some (some (o + 1)), some (some (o + 312)), some (some (o + 30)), some (some (o + 19)), some (some (o + 329)), some (some (o + 331)), some (some (o + 336)), some (some (o + 337)), some (some (o + 339))])) := h.2.2.2.2.2.2.2.2.2.2.2.2.2.2.2.2.2.2.2.2.2.2.2.2.2.2.2.2.2.2.2.2.2.2.2.2.2.2.2.2.1
theorem cs_other {σ : tz_S} {o N : Nat} (h : cSh σ o N) : sSh σ (o + 329) (o + 329 + 1) N := h.2.2.2.2.2.2.2.2.2.2.2.2.2.2.2.2.2.2.2.2.2.2.2.2.2.2.2.2.2.2.2.2.2.2.2.2.2.2.2.2.2.1
theorem cs_jbnd {σ : tz_S} {o N : Nat} (h : cSh σ o N) : tz_sh σ (o + 331) = some (.inl (1, [some (some (o + 332)), some (some (o + 333)), some (some (o + 334)), some (some (o + 335))])) := h.2.2.2.2.2.2.2.2.2.2.2.2.2.2.2.2.2.2.2.2.2.2.2.2.2.2.2.2.2.2.2.2.2.2.2.2.2.2.2.2.2.2.1
theorem cs_jhup {σ : tz_S} {o N : Nat} (h : cSh σ o N) : tz_sh σ (o + 332) = some (.inr (1, 22)) := h.2.2.2.2.2.2.2.2.2.2.2.2.2.2.2.2.2.2.2.2.2.2.2.2.2.2.2.2.2.2.2.2.2.2.2.2.2.2.2.2.2.2.2.1
theorem cs_jhlo {σ : tz_S} {o N : Nat} (h : cSh σ o N) : tz_sh σ (o + 333) = some (.inr (1, 22)) := h.2.2.2.2.2.2.2.2.2.2.2.2.2.2.2.2.2.2.2.2.2.2.2.2.2.2.2.2.2.2.2.2.2.2.2.2.2.2.2.2.2.2.2.2.1
theorem cs_jup {σ : tz_S} {o N : Nat} (h : cSh σ o N) : tz_sh σ (o + 334) = some (.inr (2, 22)) := h.2.2.2.2.2.2.2.2.2.2.2.2.2.2.2.2.2.2.2.2.2.2.2.2.2.2.2.2.2.2.2.2.2.2.2.2.2.2.2.2.2.2.2.2.2.1
theorem cs_jlo {σ : tz_S} {o N : Nat} (h : cSh σ o N) : tz_sh σ (o + 335) = some (.inr (2, 22)) := h.2.2.2.2.2.2.2.2.2.2.2.2.2.2.2.2.2.2.2.2.2.2.2.2.2.2.2.2.2.2.2.2.2.2.2.2.2.2.2.2.2.2.2.2.2.2.1
theorem cs_weights {σ : tz_S} {o N : Nat} (h : cSh σ o N) : tz_sh σ (o + 336) = some (.inr (2, 32)) := h.2.2.2.2.2.2.2.2.2.2.2.2.2.2.2.2.2.2.2.2.2.2.2.2.2.2.2.2.2.2.2.2.2.2.2.2.2.2.2.2.2.2.2.2.2.2.2.1
theorem cs_jcommon {σ : tz_S} {o N : Nat} (h : cSh σ o N) : bSh σ (o + 337) (o + 337 + 1) N := h.2.2.2.2.2.2.2.2.2.2.2.2.2.2.2.2.2.2.2.2.2.2.2.2.2.2.2.2.2.2.2.2.2.2.2.2.2.2.2.2.2.2.2.2.2.2.2.2.1
theorem cs_jwide {σ : tz_S} {o N : Nat} (h : cSh σ o N) : bSh σ (o + 339) (o + 339 + 1) N := h.2.2.2.2.2.2.2.2.2.2.2.2.2.2.2.2.2.2.2.2.2.2.2.2.2.2.2.2.2.2.2.2.2.2.2.2.2.2.2.2.2.2.2.2.2.2.2.2.2.1
theorem cs_wits {σ : tz_S} {o N : Nat} (h : cSh σ o N) : tz_sh σ (o + 341) = some (.inr (4, 10)) := h.2.2.2.2.2.2.2.2.2.2.2.2.2.2.2.2.2.2.2.2.2.2.2.2.2.2.2.2.2.2.2.2.2.2.2.2.2.2.2.2.2.2.2.2.2.2.2.2.2.2.1
theorem cs_hand {σ : tz_S} {o N : Nat} (h : cSh σ o N) : fSh σ (o + 342) 12 := h.2.2.2.2.2.2.2.2.2.2.2.2.2.2.2.2.2.2.2.2.2.2.2.2.2.2.2.2.2.2.2.2.2.2.2.2.2.2.2.2.2.2.2.2.2.2.2.2.2.2.2.1
theorem cs_wit {σ : tz_S} {o N : Nat} (h : cSh σ o N) : ∀ x, x < 10 → fSh σ (o + 347 + 5 * x) 12 ∧ tz_R σ (o + 341) x = some (o + 347 + 5 * x) := h.2.2.2.2.2.2.2.2.2.2.2.2.2.2.2.2.2.2.2.2.2.2.2.2.2.2.2.2.2.2.2.2.2.2.2.2.2.2.2.2.2.2.2.2.2.2.2.2.2.2.2.2
theorem cs_fr {P : Nat → Prop} {σ σ1 : tz_S} {o N : Nat} (h : cSh σ o N) (hf : Fr P σ σ1) : cSh σ1 o N := by
  unfold cSh dSh sSh fSh bSh at *
  rw [Fr_sh hf, Fr_R hf]
  exact h
theorem cs_N {σ : tz_S} {o N : Nat} (h : cSh σ o N) : N = 128 := (cs_sum h).2.2
theorem bSh_gr {σ σ1 : tz_S} {a b n : Nat} (h : bSh σ a b n) (h1 : tz_sh σ1 a = tz_sh σ a) (h2 : tz_sh σ1 b = tz_sh σ b) : bSh σ1 a b n := ⟨h1.trans h.1, h2.trans h.2.1, h.2.2⟩
theorem fSh_gr {σ σ1 : tz_S} {f n : Nat} (h : fSh σ f n) (H : ∀ x, x < f + 5 → tz_sh σ1 x = tz_sh σ x) : fSh σ1 f n := ⟨(H _ (by omega)).trans h.1, bSh_gr h.2.1 (H _ (by omega)) (H _ (by omega)), bSh_gr h.2.2 (H _ (by omega)) (H _ (by omega))⟩
theorem dSh_gr {σ σ1 : tz_S} {d N : Nat} (h : dSh σ d N) (H : ∀ x, x < d + 11 → tz_sh σ1 x = tz_sh σ x) : dSh σ1 d N := by
  obtain ⟨d1, d2, d3, d4, d5, d6, d7, d8⟩ := h
  exact ⟨(H _ (by omega)).trans d1, bSh_gr d2 (H _ (by omega)) (H _ (by omega)), bSh_gr d3 (H _ (by omega)) (H _ (by omega)), bSh_gr d4 (H _ (by omega)) (H _ (by omega)), bSh_gr d5 (H _ (by omega)) (H _ (by omega)), (H _ (by omega)).trans d6, (H _ (by omega)).trans d7, d8⟩
theorem sSh_gr {σ σ1 : tz_S} {s l N : Nat} (h : sSh σ s l N) (h1 : tz_sh σ1 s = tz_sh σ s) (h2 : tz_sh σ1 l = tz_sh σ l) : sSh σ1 s l N := ⟨h1.trans h.1, h2.trans h.2.1, h.2.2⟩
theorem cs_gr {σ σ1 : tz_S} {o N : Nat} (h : cSh σ o N) (H : ∀ x, x < o + 397 → tz_sh σ1 x = tz_sh σ x) (HR : ∀ x, x < o + 397 → x ≠ o + 321 → tz_R σ1 x = tz_R σ x) : cSh σ1 o N :=
  ⟨(H _ (by omega)).trans (cs_me h),
   (H _ (by omega)).trans (cs_rows h),
   (H _ (by omega)).trans (cs_grid h),
   fun r hr => ⟨(H _ (by omega)).trans (cs_line h r hr).1, by rw [HR (o + 2) (by omega) (by omega)]; exact (cs_line h r hr).2⟩,
   (H _ (by omega)).trans (cs_kinds h),
   (H _ (by omega)).trans (cs_nums h),
   (H _ (by omega)).trans (cs_iswh h),
   (H _ (by omega)).trans (cs_draft h),
   dSh_gr (cs_div h) (fun x hx => H x (by omega)),
   sSh_gr (cs_sum h) (H _ (by omega)) (H _ (by omega)),
   (H _ (by omega)).trans (cs_tab h),
   (H _ (by omega)).trans (cs_cells h),
   (H _ (by omega)).trans (cs_ams h),
   (H _ (by omega)).trans (cs_rest h),
   (H _ (by omega)).trans (cs_rpl h),
   (H _ (by omega)).trans (cs_cpl h),
   (H _ (by omega)).trans (cs_lines h),
   (H _ (by omega)).trans (cs_isb h),
   bSh_gr (cs_common h) (H _ (by omega)) (H _ (by omega)),
   bSh_gr (cs_miss h) (H _ (by omega)) (H _ (by omega)),
   bSh_gr (cs_kept h) (H _ (by omega)) (H _ (by omega)),
   bSh_gr (cs_wide h) (H _ (by omega)) (H _ (by omega)),
   fun r hr => ⟨bSh_gr (cs_cell h r hr).1 (H _ (by omega)) (H _ (by omega)), by rw [HR _ (by omega) (by omega)]; exact (cs_cell h r hr).2⟩,
   fun r hr => ⟨bSh_gr (cs_am h r hr).1 (H _ (by omega)) (H _ (by omega)), by rw [HR _ (by omega) (by omega)]; exact (cs_am h r hr).2⟩,
   (H _ (by omega)).trans (cs_tree h),
   (H _ (by omega)).trans (cs_above h),
   (H _ (by omega)).trans (cs_first h),
   (H _ (by omega)).trans (cs_second h),
   (H _ (by omega)).trans (cs_variable h),
   (H _ (by omega)).trans (cs_found h),
   (H _ (by omega)).trans (cs_told h),
   (H _ (by omega)).trans (cs_closed h),
   (H _ (by omega)).trans (cs_lnum h),
   (H _ (by omega)).trans (cs_leaves h),
   (H _ (by omega)).trans (cs_solv h),
   (H _ (by omega)).trans (cs_bnd h),
   (H _ (by omega)).trans (cs_hup h),
   (H _ (by omega)).trans (cs_hlo h),
   (H _ (by omega)).trans (cs_up h),
   (H _ (by omega)).trans (cs_lo h),
   (H _ (by omega)).trans (cs_judge h),
   sSh_gr (cs_other h) (H _ (by omega)) (H _ (by omega)),
   (H _ (by omega)).trans (cs_jbnd h),
   (H _ (by omega)).trans (cs_jhup h),
   (H _ (by omega)).trans (cs_jhlo h),
   (H _ (by omega)).trans (cs_jup h),
   (H _ (by omega)).trans (cs_jlo h),
   (H _ (by omega)).trans (cs_weights h),
   bSh_gr (cs_jcommon h) (H _ (by omega)) (H _ (by omega)),
   bSh_gr (cs_jwide h) (H _ (by omega)) (H _ (by omega)),
   (H _ (by omega)).trans (cs_wits h),
   fSh_gr (cs_hand h) (fun x hx => H x (by omega)),
   fun r hr => ⟨fSh_gr (cs_wit h r hr).1 (fun x hx => H x (by omega)), by rw [HR _ (by omega) (by omega)]; exact (cs_wit h r hr).2⟩⟩
