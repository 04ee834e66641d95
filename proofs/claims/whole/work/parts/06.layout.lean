-- LAYOUT: what stands at which address beside an object's own
def nc_LGrid (G : nc_G) (K : nc_K) (q n k : Nat) : Prop := nc_Is G K q (13, n) ∧ ∀ j, j < n → K.2.2 q j = q + 1 + j ∧ nc_Is G K (q + 1 + j) (9, k)
def nc_LPerson (G : nc_G) (K : nc_K) (b : Nat) : Prop := (nc_Is G K b (3, 7))
theorem lPerson_is {G : nc_G} {K : nc_K} {b : Nat} (h : nc_LPerson G K b) : nc_Is G K b (3, 7) := h
def nc_LThing (G : nc_G) (K : nc_K) (b : Nat) : Prop := (nc_Is G K b (4, 10))
theorem lThing_is {G : nc_G} {K : nc_K} {b : Nat} (h : nc_LThing G K b) : nc_Is G K b (4, 10) := h
def nc_LLetters (G : nc_G) (K : nc_K) (b : Nat) : Prop := (nc_Is G K b (1, 4)) ∧ (K.2.2 (b) 0 = b + 1) ∧ (nc_Is G K (b + 1) (9, 64)) ∧ (K.2.2 (b) 1 = b + 2) ∧ (nc_Is G K (b + 2) (9, 7))
theorem lLetters_is {G : nc_G} {K : nc_K} {b : Nat} (h : nc_LLetters G K b) : nc_Is G K b (1, 4) := h.1
theorem lLetters_sign {G : nc_G} {K : nc_K} {b : Nat} (h : nc_LLetters G K b) : K.2.2 (b) 0 = b + 1 := h.2.1
theorem lLetters_sign_L {G : nc_G} {K : nc_K} {b : Nat} (h : nc_LLetters G K b) : nc_Is G K (b + 1) (9, 64) := h.2.2.1
theorem lLetters_number {G : nc_G} {K : nc_K} {b : Nat} (h : nc_LLetters G K b) : K.2.2 (b) 1 = b + 2 := h.2.2.2.1
theorem lLetters_number_L {G : nc_G} {K : nc_K} {b : Nat} (h : nc_LLetters G K b) : nc_Is G K (b + 2) (9, 7) := h.2.2.2.2
def nc_LWay (G : nc_G) (K : nc_K) (b : Nat) : Prop := (nc_Is G K b (6, 3)) ∧ (K.2.2 (b) 0 = b + 1) ∧ (nc_Is G K (b + 1) (9, 7)) ∧ (K.2.2 (b) 1 = b + 2) ∧ (nc_Is G K (b + 2) (9, 7))
theorem lWay_is {G : nc_G} {K : nc_K} {b : Nat} (h : nc_LWay G K b) : nc_Is G K b (6, 3) := h.1
theorem lWay_place {G : nc_G} {K : nc_K} {b : Nat} (h : nc_LWay G K b) : K.2.2 (b) 0 = b + 1 := h.2.1
theorem lWay_place_L {G : nc_G} {K : nc_K} {b : Nat} (h : nc_LWay G K b) : nc_Is G K (b + 1) (9, 7) := h.2.2.1
theorem lWay_minute {G : nc_G} {K : nc_K} {b : Nat} (h : nc_LWay G K b) : K.2.2 (b) 1 = b + 2 := h.2.2.2.1
theorem lWay_minute_L {G : nc_G} {K : nc_K} {b : Nat} (h : nc_LWay G K b) : nc_Is G K (b + 2) (9, 7) := h.2.2.2.2
def nc_LDeal (G : nc_G) (K : nc_K) (b : Nat) : Prop := (nc_Is G K b (0, 2)) ∧ (K.2.2 (b) 0 = b + 1) ∧ (nc_Is G K (b + 1) (9, 36)) ∧ (K.2.2 (b) 1 = b + 2) ∧ (nc_Is G K (b + 2) (9, 448))
theorem lDeal_is {G : nc_G} {K : nc_K} {b : Nat} (h : nc_LDeal G K b) : nc_Is G K b (0, 2) := h.1
theorem lDeal_gain {G : nc_G} {K : nc_K} {b : Nat} (h : nc_LDeal G K b) : K.2.2 (b) 0 = b + 1 := h.2.1
theorem lDeal_gain_L {G : nc_G} {K : nc_K} {b : Nat} (h : nc_LDeal G K b) : nc_Is G K (b + 1) (9, 36) := h.2.2.1
theorem lDeal_best {G : nc_G} {K : nc_K} {b : Nat} (h : nc_LDeal G K b) : K.2.2 (b) 1 = b + 2 := h.2.2.2.1
theorem lDeal_best_L {G : nc_G} {K : nc_K} {b : Nat} (h : nc_LDeal G K b) : nc_Is G K (b + 2) (9, 448) := h.2.2.2.2
def nc_LTown (G : nc_G) (K : nc_K) (b : Nat) : Prop := (nc_Is G K b (5, 8)) ∧ (K.2.2 (b) 0 = b + 1) ∧ (nc_Is G K (b + 1) (10, 6)) ∧ (∀ j, j < 6 → K.2.2 (b + 1) j = b + 5 + j ∧ nc_LPerson G K (b + 5 + j)) ∧ (K.2.2 (b) 1 = b + 2) ∧ (nc_Is G K (b + 2) (11, 6)) ∧ (∀ j, j < 6 → K.2.2 (b + 2) j = b + 11 + j ∧ nc_LThing G K (b + 11 + j)) ∧ (K.2.2 (b) 2 = b + 3) ∧ (nc_Is G K (b + 3) (9, 49)) ∧ (K.2.2 (b) 3 = b + 4) ∧ (nc_Is G K (b + 4) (9, 49))
theorem lTown_is {G : nc_G} {K : nc_K} {b : Nat} (h : nc_LTown G K b) : nc_Is G K b (5, 8) := h.1
theorem lTown_people {G : nc_G} {K : nc_K} {b : Nat} (h : nc_LTown G K b) : K.2.2 (b) 0 = b + 1 := h.2.1
theorem lTown_people_L {G : nc_G} {K : nc_K} {b : Nat} (h : nc_LTown G K b) : nc_Is G K (b + 1) (10, 6) := h.2.2.1
theorem lTown_people_E {G : nc_G} {K : nc_K} {b : Nat} (h : nc_LTown G K b) : ∀ j, j < 6 → K.2.2 (b + 1) j = b + 5 + j ∧ nc_LPerson G K (b + 5 + j) := h.2.2.2.1
theorem lTown_goods {G : nc_G} {K : nc_K} {b : Nat} (h : nc_LTown G K b) : K.2.2 (b) 1 = b + 2 := h.2.2.2.2.1
theorem lTown_goods_L {G : nc_G} {K : nc_K} {b : Nat} (h : nc_LTown G K b) : nc_Is G K (b + 2) (11, 6) := h.2.2.2.2.2.1
theorem lTown_goods_E {G : nc_G} {K : nc_K} {b : Nat} (h : nc_LTown G K b) : ∀ j, j < 6 → K.2.2 (b + 2) j = b + 11 + j ∧ nc_LThing G K (b + 11 + j) := h.2.2.2.2.2.2.1
theorem lTown_way {G : nc_G} {K : nc_K} {b : Nat} (h : nc_LTown G K b) : K.2.2 (b) 2 = b + 3 := h.2.2.2.2.2.2.2.1
theorem lTown_way_L {G : nc_G} {K : nc_K} {b : Nat} (h : nc_LTown G K b) : nc_Is G K (b + 3) (9, 49) := h.2.2.2.2.2.2.2.2.1
theorem lTown_least {G : nc_G} {K : nc_K} {b : Nat} (h : nc_LTown G K b) : K.2.2 (b) 3 = b + 4 := h.2.2.2.2.2.2.2.2.2.1
theorem lTown_least_L {G : nc_G} {K : nc_K} {b : Nat} (h : nc_LTown G K b) : nc_Is G K (b + 4) (9, 49) := h.2.2.2.2.2.2.2.2.2.2
def nc_LNC (G : nc_G) (K : nc_K) (b : Nat) : Prop := (nc_Is G K b (7, 10)) ∧ (K.2.2 (b) 0 = b + 1) ∧ (nc_LTown G K (b + 1)) ∧ (K.2.2 (b) 1 = b + 18) ∧ (nc_LTown G K (b + 18)) ∧ (K.2.2 (b) 2 = b + 35) ∧ (nc_LTown G K (b + 35)) ∧ (K.2.2 (b) 3 = b + 52) ∧ (nc_LLetters G K (b + 52)) ∧ (K.2.2 (b) 4 = b + 55) ∧ (nc_Is G K (b + 55) (2, 8)) ∧ (K.2.2 (b + 55) 0 = b + 1) ∧ (K.2.2 (b + 55) 1 = b + 56) ∧ (nc_Is G K (b + 56) (12, 6)) ∧ (∀ j, j < 6 → K.2.2 (b + 56) j = b + 59 + 3 * j ∧ nc_LWay G K (b + 59 + 3 * j)) ∧ (K.2.2 (b + 55) 2 = b + 57) ∧ (nc_Is G K (b + 57) (9, 7)) ∧ (K.2.2 (b + 55) 3 = b + 58) ∧ (nc_Is G K (b + 58) (9, 7)) ∧ (K.2.2 (b) 5 = b + 77) ∧ (nc_LDeal G K (b + 77)) ∧ (K.2.2 (b) 6 = b + 80) ∧ (nc_Is G K (b + 80) (9, 6)) ∧ (K.2.2 (b) 7 = b + 81) ∧ (nc_Is G K (b + 81) (9, 7))
theorem lNC_is {G : nc_G} {K : nc_K} {b : Nat} (h : nc_LNC G K b) : nc_Is G K b (7, 10) := h.1
theorem lNC_now {G : nc_G} {K : nc_K} {b : Nat} (h : nc_LNC G K b) : K.2.2 (b) 0 = b + 1 := h.2.1
theorem lNC_now_L {G : nc_G} {K : nc_K} {b : Nat} (h : nc_LNC G K b) : nc_LTown G K (b + 1) := h.2.2.1
theorem lNC_trial {G : nc_G} {K : nc_K} {b : Nat} (h : nc_LNC G K b) : K.2.2 (b) 1 = b + 18 := h.2.2.2.1
theorem lNC_trial_L {G : nc_G} {K : nc_K} {b : Nat} (h : nc_LNC G K b) : nc_LTown G K (b + 18) := h.2.2.2.2.1
theorem lNC_kept {G : nc_G} {K : nc_K} {b : Nat} (h : nc_LNC G K b) : K.2.2 (b) 2 = b + 35 := h.2.2.2.2.2.1
theorem lNC_kept_L {G : nc_G} {K : nc_K} {b : Nat} (h : nc_LNC G K b) : nc_LTown G K (b + 35) := h.2.2.2.2.2.2.1
theorem lNC_letters {G : nc_G} {K : nc_K} {b : Nat} (h : nc_LNC G K b) : K.2.2 (b) 3 = b + 52 := h.2.2.2.2.2.2.2.1
theorem lNC_letters_L {G : nc_G} {K : nc_K} {b : Nat} (h : nc_LNC G K b) : nc_LLetters G K (b + 52) := h.2.2.2.2.2.2.2.2.1
theorem lNC_mind {G : nc_G} {K : nc_K} {b : Nat} (h : nc_LNC G K b) : K.2.2 (b) 4 = b + 55 := h.2.2.2.2.2.2.2.2.2.1
theorem lNC_mind_L {G : nc_G} {K : nc_K} {b : Nat} (h : nc_LNC G K b) : nc_Is G K (b + 55) (2, 8) := h.2.2.2.2.2.2.2.2.2.2.1
theorem lNC_m_town {G : nc_G} {K : nc_K} {b : Nat} (h : nc_LNC G K b) : K.2.2 (b + 55) 0 = b + 1 := h.2.2.2.2.2.2.2.2.2.2.2.1
theorem lNC_m_ways {G : nc_G} {K : nc_K} {b : Nat} (h : nc_LNC G K b) : K.2.2 (b + 55) 1 = b + 56 := h.2.2.2.2.2.2.2.2.2.2.2.2.1
theorem lNC_m_ways_L {G : nc_G} {K : nc_K} {b : Nat} (h : nc_LNC G K b) : nc_Is G K (b + 56) (12, 6) := h.2.2.2.2.2.2.2.2.2.2.2.2.2.1
theorem lNC_m_ways_E {G : nc_G} {K : nc_K} {b : Nat} (h : nc_LNC G K b) : ∀ j, j < 6 → K.2.2 (b + 56) j = b + 59 + 3 * j ∧ nc_LWay G K (b + 59 + 3 * j) := h.2.2.2.2.2.2.2.2.2.2.2.2.2.2.1
theorem lNC_m_soonestAt {G : nc_G} {K : nc_K} {b : Nat} (h : nc_LNC G K b) : K.2.2 (b + 55) 2 = b + 57 := h.2.2.2.2.2.2.2.2.2.2.2.2.2.2.2.1
theorem lNC_m_soonestAt_L {G : nc_G} {K : nc_K} {b : Nat} (h : nc_LNC G K b) : nc_Is G K (b + 57) (9, 7) := h.2.2.2.2.2.2.2.2.2.2.2.2.2.2.2.2.1
theorem lNC_m_carrier {G : nc_G} {K : nc_K} {b : Nat} (h : nc_LNC G K b) : K.2.2 (b + 55) 3 = b + 58 := h.2.2.2.2.2.2.2.2.2.2.2.2.2.2.2.2.2.1
theorem lNC_m_carrier_L {G : nc_G} {K : nc_K} {b : Nat} (h : nc_LNC G K b) : nc_Is G K (b + 58) (9, 7) := h.2.2.2.2.2.2.2.2.2.2.2.2.2.2.2.2.2.2.1
theorem lNC_deal {G : nc_G} {K : nc_K} {b : Nat} (h : nc_LNC G K b) : K.2.2 (b) 5 = b + 77 := h.2.2.2.2.2.2.2.2.2.2.2.2.2.2.2.2.2.2.2.1
theorem lNC_deal_L {G : nc_G} {K : nc_K} {b : Nat} (h : nc_LNC G K b) : nc_LDeal G K (b + 77) := h.2.2.2.2.2.2.2.2.2.2.2.2.2.2.2.2.2.2.2.2.1
theorem lNC_line {G : nc_G} {K : nc_K} {b : Nat} (h : nc_LNC G K b) : K.2.2 (b) 6 = b + 80 := h.2.2.2.2.2.2.2.2.2.2.2.2.2.2.2.2.2.2.2.2.2.1
theorem lNC_line_L {G : nc_G} {K : nc_K} {b : Nat} (h : nc_LNC G K b) : nc_Is G K (b + 80) (9, 6) := h.2.2.2.2.2.2.2.2.2.2.2.2.2.2.2.2.2.2.2.2.2.2.1
theorem lNC_refusals {G : nc_G} {K : nc_K} {b : Nat} (h : nc_LNC G K b) : K.2.2 (b) 7 = b + 81 := h.2.2.2.2.2.2.2.2.2.2.2.2.2.2.2.2.2.2.2.2.2.2.2.1
theorem lNC_refusals_L {G : nc_G} {K : nc_K} {b : Nat} (h : nc_LNC G K b) : nc_Is G K (b + 81) (9, 7) := h.2.2.2.2.2.2.2.2.2.2.2.2.2.2.2.2.2.2.2.2.2.2.2.2
def nc_LModel (G : nc_G) (K : nc_K) (b : Nat) : Prop := (nc_Is G K b (8, 28)) ∧ (K.2.2 (b) 0 = b + 1) ∧ (nc_Is G K (b + 1) (9, 64)) ∧ (K.2.2 (b) 2 = b + 2) ∧ (nc_Is G K (b + 2) (9, 6)) ∧ (K.2.2 (b) 4 = b + 3) ∧ (nc_Is G K (b + 3) (9, 8)) ∧ (K.2.2 (b) 6 = b + 4) ∧ (nc_LGrid G K (b + 4) 7 7) ∧ (K.2.2 (b) 8 = b + 12) ∧ (nc_LGrid G K (b + 12) 6 7) ∧ (K.2.2 (b) 10 = b + 19) ∧ (nc_LGrid G K (b + 19) 6 10) ∧ (K.2.2 (b) 15 = b + 26) ∧ (nc_Is G K (b + 26) (9, 7)) ∧ (K.2.2 (b) 18 = b + 27) ∧ (nc_LGrid G K (b + 27) 7 7) ∧ (K.2.2 (b) 19 = b + 35) ∧ (nc_LGrid G K (b + 35) 6 7) ∧ (K.2.2 (b) 20 = b + 42) ∧ (nc_LGrid G K (b + 42) 6 7) ∧ (K.2.2 (b) 21 = b + 49) ∧ (nc_Is G K (b + 49) (9, 6)) ∧ (K.2.2 (b) 22 = b + 50) ∧ (nc_Is G K (b + 50) (9, 7)) ∧ (K.2.2 (b) 23 = b + 51) ∧ (nc_Is G K (b + 51) (9, 7)) ∧ (K.2.2 (b) 24 = b + 52) ∧ (nc_Is G K (b + 52) (9, 6)) ∧ (K.2.2 (b) 25 = b + 53) ∧ (nc_Is G K (b + 53) (9, 6))
theorem lModel_is {G : nc_G} {K : nc_K} {b : Nat} (h : nc_LModel G K b) : nc_Is G K b (8, 28) := h.1
theorem lModel_letters {G : nc_G} {K : nc_K} {b : Nat} (h : nc_LModel G K b) : K.2.2 (b) 0 = b + 1 := h.2.1
theorem lModel_letters_L {G : nc_G} {K : nc_K} {b : Nat} (h : nc_LModel G K b) : nc_Is G K (b + 1) (9, 64) := h.2.2.1
theorem lModel_told {G : nc_G} {K : nc_K} {b : Nat} (h : nc_LModel G K b) : K.2.2 (b) 2 = b + 2 := h.2.2.2.1
theorem lModel_told_L {G : nc_G} {K : nc_K} {b : Nat} (h : nc_LModel G K b) : nc_Is G K (b + 2) (9, 6) := h.2.2.2.2.1
theorem lModel_refused {G : nc_G} {K : nc_K} {b : Nat} (h : nc_LModel G K b) : K.2.2 (b) 4 = b + 3 := h.2.2.2.2.2.1
theorem lModel_refused_L {G : nc_G} {K : nc_K} {b : Nat} (h : nc_LModel G K b) : nc_Is G K (b + 3) (9, 8) := h.2.2.2.2.2.2.1
theorem lModel_way {G : nc_G} {K : nc_K} {b : Nat} (h : nc_LModel G K b) : K.2.2 (b) 6 = b + 4 := h.2.2.2.2.2.2.2.1
theorem lModel_way_L {G : nc_G} {K : nc_K} {b : Nat} (h : nc_LModel G K b) : nc_LGrid G K (b + 4) 7 7 := h.2.2.2.2.2.2.2.2.1
theorem lModel_person {G : nc_G} {K : nc_K} {b : Nat} (h : nc_LModel G K b) : K.2.2 (b) 8 = b + 12 := h.2.2.2.2.2.2.2.2.2.1
theorem lModel_person_L {G : nc_G} {K : nc_K} {b : Nat} (h : nc_LModel G K b) : nc_LGrid G K (b + 12) 6 7 := h.2.2.2.2.2.2.2.2.2.2.1
theorem lModel_thing {G : nc_G} {K : nc_K} {b : Nat} (h : nc_LModel G K b) : K.2.2 (b) 10 = b + 19 := h.2.2.2.2.2.2.2.2.2.2.2.1
theorem lModel_thing_L {G : nc_G} {K : nc_K} {b : Nat} (h : nc_LModel G K b) : nc_LGrid G K (b + 19) 6 10 := h.2.2.2.2.2.2.2.2.2.2.2.2.1
theorem lModel_said {G : nc_G} {K : nc_K} {b : Nat} (h : nc_LModel G K b) : K.2.2 (b) 15 = b + 26 := h.2.2.2.2.2.2.2.2.2.2.2.2.2.1
theorem lModel_said_L {G : nc_G} {K : nc_K} {b : Nat} (h : nc_LModel G K b) : nc_Is G K (b + 26) (9, 7) := h.2.2.2.2.2.2.2.2.2.2.2.2.2.2.1
theorem lModel_far {G : nc_G} {K : nc_K} {b : Nat} (h : nc_LModel G K b) : K.2.2 (b) 18 = b + 27 := h.2.2.2.2.2.2.2.2.2.2.2.2.2.2.2.1
theorem lModel_far_L {G : nc_G} {K : nc_K} {b : Nat} (h : nc_LModel G K b) : nc_LGrid G K (b + 27) 7 7 := h.2.2.2.2.2.2.2.2.2.2.2.2.2.2.2.2.1
theorem lModel_stop {G : nc_G} {K : nc_K} {b : Nat} (h : nc_LModel G K b) : K.2.2 (b) 19 = b + 35 := h.2.2.2.2.2.2.2.2.2.2.2.2.2.2.2.2.2.1
theorem lModel_stop_L {G : nc_G} {K : nc_K} {b : Nat} (h : nc_LModel G K b) : nc_LGrid G K (b + 35) 6 7 := h.2.2.2.2.2.2.2.2.2.2.2.2.2.2.2.2.2.2.1
theorem lModel_when {G : nc_G} {K : nc_K} {b : Nat} (h : nc_LModel G K b) : K.2.2 (b) 20 = b + 42 := h.2.2.2.2.2.2.2.2.2.2.2.2.2.2.2.2.2.2.2.1
theorem lModel_when_L {G : nc_G} {K : nc_K} {b : Nat} (h : nc_LModel G K b) : nc_LGrid G K (b + 42) 6 7 := h.2.2.2.2.2.2.2.2.2.2.2.2.2.2.2.2.2.2.2.2.1
theorem lModel_stops {G : nc_G} {K : nc_K} {b : Nat} (h : nc_LModel G K b) : K.2.2 (b) 21 = b + 49 := h.2.2.2.2.2.2.2.2.2.2.2.2.2.2.2.2.2.2.2.2.2.1
theorem lModel_stops_L {G : nc_G} {K : nc_K} {b : Nat} (h : nc_LModel G K b) : nc_Is G K (b + 49) (9, 6) := h.2.2.2.2.2.2.2.2.2.2.2.2.2.2.2.2.2.2.2.2.2.2.1
theorem lModel_soon {G : nc_G} {K : nc_K} {b : Nat} (h : nc_LModel G K b) : K.2.2 (b) 22 = b + 50 := h.2.2.2.2.2.2.2.2.2.2.2.2.2.2.2.2.2.2.2.2.2.2.2.1
theorem lModel_soon_L {G : nc_G} {K : nc_K} {b : Nat} (h : nc_LModel G K b) : nc_Is G K (b + 50) (9, 7) := h.2.2.2.2.2.2.2.2.2.2.2.2.2.2.2.2.2.2.2.2.2.2.2.2.1
theorem lModel_over {G : nc_G} {K : nc_K} {b : Nat} (h : nc_LModel G K b) : K.2.2 (b) 23 = b + 51 := h.2.2.2.2.2.2.2.2.2.2.2.2.2.2.2.2.2.2.2.2.2.2.2.2.2.1
theorem lModel_over_L {G : nc_G} {K : nc_K} {b : Nat} (h : nc_LModel G K b) : nc_Is G K (b + 51) (9, 7) := h.2.2.2.2.2.2.2.2.2.2.2.2.2.2.2.2.2.2.2.2.2.2.2.2.2.2.1
theorem lModel_has {G : nc_G} {K : nc_K} {b : Nat} (h : nc_LModel G K b) : K.2.2 (b) 24 = b + 52 := h.2.2.2.2.2.2.2.2.2.2.2.2.2.2.2.2.2.2.2.2.2.2.2.2.2.2.2.1
theorem lModel_has_L {G : nc_G} {K : nc_K} {b : Nat} (h : nc_LModel G K b) : nc_Is G K (b + 52) (9, 6) := h.2.2.2.2.2.2.2.2.2.2.2.2.2.2.2.2.2.2.2.2.2.2.2.2.2.2.2.2.1
theorem lModel_best {G : nc_G} {K : nc_K} {b : Nat} (h : nc_LModel G K b) : K.2.2 (b) 25 = b + 53 := h.2.2.2.2.2.2.2.2.2.2.2.2.2.2.2.2.2.2.2.2.2.2.2.2.2.2.2.2.2.1
theorem lModel_best_L {G : nc_G} {K : nc_K} {b : Nat} (h : nc_LModel G K b) : nc_Is G K (b + 53) (9, 6) := h.2.2.2.2.2.2.2.2.2.2.2.2.2.2.2.2.2.2.2.2.2.2.2.2.2.2.2.2.2.2
