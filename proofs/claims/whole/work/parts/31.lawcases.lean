/-- a call of both: from memories that belong together both answer, alike, and the memories belong together again -/
def OkI (I : Mm → Mm → Prop) (f g : Mm → Option (Int32 × Mm)) : Prop := ∀ μ ν, I μ ν → ∃ q r, f μ = some q ∧ g ν = some r ∧ q.1 = r.1 ∧ I q.2 r.2
def OkL (I : Mm → Mm → Prop) (f g : Mm → Option (Int64 × Mm)) : Prop := ∀ μ ν, I μ ν → ∃ q r, f μ = some q ∧ g ν = some r ∧ q.1 = r.1 ∧ I q.2 r.2
/-- all the calls of the law -/
def LawOps (I : Mm → Mm → Prop) : Prop := (∀ a1 a2 : Int32, OkI I (F_X8_type a1 a2) (F_X9_type a1 a2)) ∧ (∀ a1 : Int32, OkI I (F_X8_wipe a1) (F_X9_wipe a1)) ∧ (∀ a1 : Int32, OkI I (F_X8_undo a1) (F_X9_undo a1)) ∧ (∀ a1 : Int32, OkI I (F_X8_fault a1) (F_X9_fault a1)) ∧ (∀ a1 a2 : Int32, OkI I (F_X8_thing a1 a2) (F_X9_thing a1 a2)) ∧ (∀ a1 a2 : Int32, OkI I (F_X8_judge a1 a2) (F_X9_judge a1 a2)) ∧ (∀ a1 a2 a3 : Int32, OkI I (F_X8_event a1 a2 a3) (F_X9_event a1 a2 a3)) ∧ (OkI I (F_X8_back) (F_X9_back)) ∧ (∀ a1 : Int32, OkI I (F_X8_read a1) (F_X9_read a1)) ∧ (∀ a1 a2 : Int32, OkI I (F_X8_place a1 a2) (F_X9_place a1 a2)) ∧ (∀ a1 a2 a3 : Int32, OkI I (F_X8_at a1 a2 a3) (F_X9_at a1 a2 a3)) ∧ (∀ a1 a2 : Int32, OkI I (F_X8_show a1 a2) (F_X9_show a1 a2)) ∧ (∀ a1 : Int32, OkI I (F_X8_owned a1) (F_X9_owned a1)) ∧ (OkI I (F_X8_champion) (F_X9_champion)) ∧ (OkI I (F_X8_best) (F_X9_best)) ∧ (∀ a1 : Int32, OkI I (F_X8_left a1) (F_X9_left a1)) ∧ (∀ a1 a2 : Int32, OkI I (F_X8_brush a1 a2) (F_X9_brush a1 a2)) ∧ (∀ a1 a2 : Int32, OkI I (F_X8_rival a1 a2) (F_X9_rival a1 a2)) ∧ (∀ a1 a2 a3 : Int32, OkI I (F_X8_send a1 a2 a3) (F_X9_send a1 a2 a3)) ∧ (∀ a1 : Int32, OkI I (F_X8_spare a1) (F_X9_spare a1)) ∧ (∀ a1 a2 a3 : Int32, OkI I (F_X8_seen a1 a2 a3) (F_X9_seen a1 a2 a3)) ∧ (OkI I (F_X8_forget) (F_X9_forget)) ∧ (OkI I (F_X8_never) (F_X9_never)) ∧ (∀ a1 : Int32, OkI I (F_X8_looked a1) (F_X9_looked a1)) ∧ (∀ a1 : Int32, OkI I (F_X8_tastes a1) (F_X9_tastes a1)) ∧ (∀ a1 : Int32, OkI I (F_X8_ask a1) (F_X9_ask a1)) ∧ (∀ a1 a2 a3 : Int32, OkL I (F_X8_chance a1 a2 a3) (F_X9_chance a1 a2 a3)) ∧ (∀ a1 a2 a3 : Int32, OkI I (F_X8_years a1 a2 a3) (F_X9_years a1 a2 a3)) ∧ (∀ a1 a2 a3 : Int32, OkI I (F_X8_sheet a1 a2 a3) (F_X9_sheet a1 a2 a3)) ∧ (∀ a1 : Int32, OkI I (F_X8_lose a1) (F_X9_lose a1)) ∧ (∀ a1 a2 a3 a4 : Int32, OkI I (F_X8_lay a1 a2 a3 a4) (F_X9_lay a1 a2 a3 a4)) ∧ (∀ a1 a2 a3 : Int32, OkI I (F_X8_get a1 a2 a3) (F_X9_get a1 a2 a3)) ∧ (∀ a1 a2 a3 a4 a5 : Int32, OkI I (F_X8_copy a1 a2 a3 a4 a5) (F_X9_copy a1 a2 a3 a4 a5)) ∧ (∀ a1 a2 : Int32, OkI I (F_X8_write a1 a2) (F_X9_write a1 a2)) ∧ (∀ a1 : Int32, OkI I (F_X8_count a1) (F_X9_count a1)) ∧ (OkL I (F_X8_digest) (F_X9_digest))
theorem LawOps_0 {I : Mm → Mm → Prop} (h : LawOps I) : ∀ a1 a2 : Int32, OkI I (F_X8_type a1 a2) (F_X9_type a1 a2) := h.1
theorem LawOps_1 {I : Mm → Mm → Prop} (h : LawOps I) : ∀ a1 : Int32, OkI I (F_X8_wipe a1) (F_X9_wipe a1) := h.2.1
theorem LawOps_2 {I : Mm → Mm → Prop} (h : LawOps I) : ∀ a1 : Int32, OkI I (F_X8_undo a1) (F_X9_undo a1) := h.2.2.1
theorem LawOps_3 {I : Mm → Mm → Prop} (h : LawOps I) : ∀ a1 : Int32, OkI I (F_X8_fault a1) (F_X9_fault a1) := h.2.2.2.1
theorem LawOps_4 {I : Mm → Mm → Prop} (h : LawOps I) : ∀ a1 a2 : Int32, OkI I (F_X8_thing a1 a2) (F_X9_thing a1 a2) := h.2.2.2.2.1
theorem LawOps_5 {I : Mm → Mm → Prop} (h : LawOps I) : ∀ a1 a2 : Int32, OkI I (F_X8_judge a1 a2) (F_X9_judge a1 a2) := h.2.2.2.2.2.1
theorem LawOps_6 {I : Mm → Mm → Prop} (h : LawOps I) : ∀ a1 a2 a3 : Int32, OkI I (F_X8_event a1 a2 a3) (F_X9_event a1 a2 a3) := h.2.2.2.2.2.2.1
theorem LawOps_7 {I : Mm → Mm → Prop} (h : LawOps I) : OkI I (F_X8_back) (F_X9_back) := h.2.2.2.2.2.2.2.1
theorem LawOps_8 {I : Mm → Mm → Prop} (h : LawOps I) : ∀ a1 : Int32, OkI I (F_X8_read a1) (F_X9_read a1) := h.2.2.2.2.2.2.2.2.1
theorem LawOps_9 {I : Mm → Mm → Prop} (h : LawOps I) : ∀ a1 a2 : Int32, OkI I (F_X8_place a1 a2) (F_X9_place a1 a2) := h.2.2.2.2.2.2.2.2.2.1
theorem LawOps_10 {I : Mm → Mm → Prop} (h : LawOps I) : ∀ a1 a2 a3 : Int32, OkI I (F_X8_at a1 a2 a3) (F_X9_at a1 a2 a3) := h.2.2.2.2.2.2.2.2.2.2.1
theorem LawOps_11 {I : Mm → Mm → Prop} (h : LawOps I) : ∀ a1 a2 : Int32, OkI I (F_X8_show a1 a2) (F_X9_show a1 a2) := h.2.2.2.2.2.2.2.2.2.2.2.1
theorem LawOps_12 {I : Mm → Mm → Prop} (h : LawOps I) : ∀ a1 : Int32, OkI I (F_X8_owned a1) (F_X9_owned a1) := h.2.2.2.2.2.2.2.2.2.2.2.2.1
theorem LawOps_13 {I : Mm → Mm → Prop} (h : LawOps I) : OkI I (F_X8_champion) (F_X9_champion) := h.2.2.2.2.2.2.2.2.2.2.2.2.2.1
theorem LawOps_14 {I : Mm → Mm → Prop} (h : LawOps I) : OkI I (F_X8_best) (F_X9_best) := h.2.2.2.2.2.2.2.2.2.2.2.2.2.2.1
theorem LawOps_15 {I : Mm → Mm → Prop} (h : LawOps I) : ∀ a1 : Int32, OkI I (F_X8_left a1) (F_X9_left a1) := h.2.2.2.2.2.2.2.2.2.2.2.2.2.2.2.1
theorem LawOps_16 {I : Mm → Mm → Prop} (h : LawOps I) : ∀ a1 a2 : Int32, OkI I (F_X8_brush a1 a2) (F_X9_brush a1 a2) := h.2.2.2.2.2.2.2.2.2.2.2.2.2.2.2.2.1
theorem LawOps_17 {I : Mm → Mm → Prop} (h : LawOps I) : ∀ a1 a2 : Int32, OkI I (F_X8_rival a1 a2) (F_X9_rival a1 a2) := h.2.2.2.2.2.2.2.2.2.2.2.2.2.2.2.2.2.1
theorem LawOps_18 {I : Mm → Mm → Prop} (h : LawOps I) : ∀ a1 a2 a3 : Int32, OkI I (F_X8_send a1 a2 a3) (F_X9_send a1 a2 a3) := h.2.2.2.2.2.2.2.2.2.2.2.2.2.2.2.2.2.2.1
theorem LawOps_19 {I : Mm → Mm → Prop} (h : LawOps I) : ∀ a1 : Int32, OkI I (F_X8_spare a1) (F_X9_spare a1) := h.2.2.2.2.2.2.2.2.2.2.2.2.2.2.2.2.2.2.2.1
theorem LawOps_20 {I : Mm → Mm → Prop} (h : LawOps I) : ∀ a1 a2 a3 : Int32, OkI I (F_X8_seen a1 a2 a3) (F_X9_seen a1 a2 a3) := h.2.2.2.2.2.2.2.2.2.2.2.2.2.2.2.2.2.2.2.2.1
theorem LawOps_21 {I : Mm → Mm → Prop} (h : LawOps I) : OkI I (F_X8_forget) (F_X9_forget) := h.2.2.2.2.2.2.2.2.2.2.2.2.2.2.2.2.2.2.2.2.2.1
theorem LawOps_22 {I : Mm → Mm → Prop} (h : LawOps I) : OkI I (F_X8_never) (F_X9_never) := h.2.2.2.2.2.2.2.2.2.2.2.2.2.2.2.2.2.2.2.2.2.2.1
theorem LawOps_23 {I : Mm → Mm → Prop} (h : LawOps I) : ∀ a1 : Int32, OkI I (F_X8_looked a1) (F_X9_looked a1) := h.2.2.2.2.2.2.2.2.2.2.2.2.2.2.2.2.2.2.2.2.2.2.2.1
theorem LawOps_24 {I : Mm → Mm → Prop} (h : LawOps I) : ∀ a1 : Int32, OkI I (F_X8_tastes a1) (F_X9_tastes a1) := h.2.2.2.2.2.2.2.2.2.2.2.2.2.2.2.2.2.2.2.2.2.2.2.2.1
theorem LawOps_25 {I : Mm → Mm → Prop} (h : LawOps I) : ∀ a1 : Int32, OkI I (F_X8_ask a1) (F_X9_ask a1) := h.2.2.2.2.2.2.2.2.2.2.2.2.2.2.2.2.2.2.2.2.2.2.2.2.2.1
theorem LawOps_26 {I : Mm → Mm → Prop} (h : LawOps I) : ∀ a1 a2 a3 : Int32, OkL I (F_X8_chance a1 a2 a3) (F_X9_chance a1 a2 a3) := h.2.2.2.2.2.2.2.2.2.2.2.2.2.2.2.2.2.2.2.2.2.2.2.2.2.2.1
theorem LawOps_27 {I : Mm → Mm → Prop} (h : LawOps I) : ∀ a1 a2 a3 : Int32, OkI I (F_X8_years a1 a2 a3) (F_X9_years a1 a2 a3) := h.2.2.2.2.2.2.2.2.2.2.2.2.2.2.2.2.2.2.2.2.2.2.2.2.2.2.2.1
theorem LawOps_28 {I : Mm → Mm → Prop} (h : LawOps I) : ∀ a1 a2 a3 : Int32, OkI I (F_X8_sheet a1 a2 a3) (F_X9_sheet a1 a2 a3) := h.2.2.2.2.2.2.2.2.2.2.2.2.2.2.2.2.2.2.2.2.2.2.2.2.2.2.2.2.1
theorem LawOps_29 {I : Mm → Mm → Prop} (h : LawOps I) : ∀ a1 : Int32, OkI I (F_X8_lose a1) (F_X9_lose a1) := h.2.2.2.2.2.2.2.2.2.2.2.2.2.2.2.2.2.2.2.2.2.2.2.2.2.2.2.2.2.1
theorem LawOps_30 {I : Mm → Mm → Prop} (h : LawOps I) : ∀ a1 a2 a3 a4 : Int32, OkI I (F_X8_lay a1 a2 a3 a4) (F_X9_lay a1 a2 a3 a4) := h.2.2.2.2.2.2.2.2.2.2.2.2.2.2.2.2.2.2.2.2.2.2.2.2.2.2.2.2.2.2.1
theorem LawOps_31 {I : Mm → Mm → Prop} (h : LawOps I) : ∀ a1 a2 a3 : Int32, OkI I (F_X8_get a1 a2 a3) (F_X9_get a1 a2 a3) := h.2.2.2.2.2.2.2.2.2.2.2.2.2.2.2.2.2.2.2.2.2.2.2.2.2.2.2.2.2.2.2.1
theorem LawOps_32 {I : Mm → Mm → Prop} (h : LawOps I) : ∀ a1 a2 a3 a4 a5 : Int32, OkI I (F_X8_copy a1 a2 a3 a4 a5) (F_X9_copy a1 a2 a3 a4 a5) := h.2.2.2.2.2.2.2.2.2.2.2.2.2.2.2.2.2.2.2.2.2.2.2.2.2.2.2.2.2.2.2.2.1
theorem LawOps_33 {I : Mm → Mm → Prop} (h : LawOps I) : ∀ a1 a2 : Int32, OkI I (F_X8_write a1 a2) (F_X9_write a1 a2) := h.2.2.2.2.2.2.2.2.2.2.2.2.2.2.2.2.2.2.2.2.2.2.2.2.2.2.2.2.2.2.2.2.2.1
theorem LawOps_34 {I : Mm → Mm → Prop} (h : LawOps I) : ∀ a1 : Int32, OkI I (F_X8_count a1) (F_X9_count a1) := h.2.2.2.2.2.2.2.2.2.2.2.2.2.2.2.2.2.2.2.2.2.2.2.2.2.2.2.2.2.2.2.2.2.2.1
theorem LawOps_35 {I : Mm → Mm → Prop} (h : LawOps I) : OkL I (F_X8_digest) (F_X9_digest) := h.2.2.2.2.2.2.2.2.2.2.2.2.2.2.2.2.2.2.2.2.2.2.2.2.2.2.2.2.2.2.2.2.2.2.2
theorem wv_L_13 : WV RL 13 RX8 yX8_type 2 := ⟨mem_g [326, 327, 328, 62] (by decide +kernel) (by decide +kernel), rfl, by decide +kernel, by decide +kernel, by decide +kernel⟩
theorem cd_X8_type : Cond.code yX8_type cX8_type 4 (some .int) ∈ lw_g := lg_of (List.mem_of_getElem? (i := 329) (by decide +kernel)) rfl
theorem wv_L_17 : WV RL 17 RX9 yX9_type 2 := ⟨mem_g [938, 939, 940, 71] (by decide +kernel) (by decide +kernel), rfl, by decide +kernel, by decide +kernel, by decide +kernel⟩
theorem cd_X9_type : Cond.code yX9_type cX9_type 3 (some .int) ∈ lw_g := lg_of (List.mem_of_getElem? (i := 941) (by decide +kernel)) rfl
theorem wv_L_18 : WV RL 18 RX8 yX8_wipe 1 := ⟨mem_g [373, 374, 375, 62] (by decide +kernel) (by decide +kernel), rfl, by decide +kernel, by decide +kernel, by decide +kernel⟩
theorem cd_X8_wipe : Cond.code yX8_wipe cX8_wipe 4 (some .int) ∈ lw_g := lg_of (List.mem_of_getElem? (i := 376) (by decide +kernel)) rfl
theorem wv_L_22 : WV RL 22 RX9 yX9_wipe 1 := ⟨mem_g [946, 947, 948, 71] (by decide +kernel) (by decide +kernel), rfl, by decide +kernel, by decide +kernel, by decide +kernel⟩
theorem cd_X9_wipe : Cond.code yX9_wipe cX9_wipe 3 (some .int) ∈ lw_g := lg_of (List.mem_of_getElem? (i := 949) (by decide +kernel)) rfl
theorem wv_L_23 : WV RL 23 RX8 yX8_undo 1 := ⟨mem_g [383, 384, 385, 62] (by decide +kernel) (by decide +kernel), rfl, by decide +kernel, by decide +kernel, by decide +kernel⟩
theorem cd_X8_undo : Cond.code yX8_undo cX8_undo 3 (some .int) ∈ lw_g := lg_of (List.mem_of_getElem? (i := 386) (by decide +kernel)) rfl
theorem wv_L_26 : WV RL 26 RX9 yX9_undo 1 := ⟨mem_g [950, 951, 952, 71] (by decide +kernel) (by decide +kernel), rfl, by decide +kernel, by decide +kernel, by decide +kernel⟩
theorem cd_X9_undo : Cond.code yX9_undo cX9_undo 2 (some .int) ∈ lw_g := lg_of (List.mem_of_getElem? (i := 953) (by decide +kernel)) rfl
theorem wv_L_27 : WV RL 27 RX8 yX8_fault 1 := ⟨mem_g [387, 388, 389, 62] (by decide +kernel) (by decide +kernel), rfl, by decide +kernel, by decide +kernel, by decide +kernel⟩
theorem wv_L_30 : WV RL 30 RX9 yX9_fault 1 := ⟨mem_g [954, 955, 956, 71] (by decide +kernel) (by decide +kernel), rfl, by decide +kernel, by decide +kernel, by decide +kernel⟩
theorem cd_X9_fault : Cond.code yX9_fault cX9_fault 2 (some .int) ∈ lw_g := lg_of (List.mem_of_getElem? (i := 957) (by decide +kernel)) rfl
theorem wv_L_31 : WV RL 31 RX8 yX8_thing 2 := ⟨mem_g [391, 392, 393, 62] (by decide +kernel) (by decide +kernel), rfl, by decide +kernel, by decide +kernel, by decide +kernel⟩
theorem cd_X8_thing : Cond.code yX8_thing cX8_thing 3 (some .int) ∈ lw_g := lg_of (List.mem_of_getElem? (i := 394) (by decide +kernel)) rfl
theorem wv_L_34 : WV RL 34 RX9 yX9_thing 2 := ⟨mem_g [984, 985, 986, 71] (by decide +kernel) (by decide +kernel), rfl, by decide +kernel, by decide +kernel, by decide +kernel⟩
theorem cd_X9_thing : Cond.code yX9_thing cX9_thing 3 (some .int) ∈ lw_g := lg_of (List.mem_of_getElem? (i := 987) (by decide +kernel)) rfl
theorem wv_L_35 : WV RL 35 RX8 yX8_judge 2 := ⟨mem_g [406, 407, 408, 62] (by decide +kernel) (by decide +kernel), rfl, by decide +kernel, by decide +kernel, by decide +kernel⟩
theorem cd_X8_judge : Cond.code yX8_judge cX8_judge 3 (some .int) ∈ lw_g := lg_of (List.mem_of_getElem? (i := 409) (by decide +kernel)) rfl
theorem wv_L_38 : WV RL 38 RX9 yX9_judge 2 := ⟨mem_g [992, 993, 994, 71] (by decide +kernel) (by decide +kernel), rfl, by decide +kernel, by decide +kernel, by decide +kernel⟩
theorem cd_X9_judge : Cond.code yX9_judge cX9_judge 3 (some .int) ∈ lw_g := lg_of (List.mem_of_getElem? (i := 995) (by decide +kernel)) rfl
theorem wv_L_39 : WV RL 39 RX8 yX8_event 3 := ⟨mem_g [410, 411, 412, 62] (by decide +kernel) (by decide +kernel), rfl, by decide +kernel, by decide +kernel, by decide +kernel⟩
theorem cd_X8_event : Cond.code yX8_event cX8_event 4 (some .int) ∈ lw_g := lg_of (List.mem_of_getElem? (i := 413) (by decide +kernel)) rfl
theorem wv_L_43 : WV RL 43 RX9 yX9_event 3 := ⟨mem_g [1000, 1001, 1002, 71] (by decide +kernel) (by decide +kernel), rfl, by decide +kernel, by decide +kernel, by decide +kernel⟩
theorem wv_L_44 : WV RL 44 RX8 yX8_back 0 := ⟨mem_g [421, 422, 423, 62] (by decide +kernel) (by decide +kernel), rfl, by decide +kernel, by decide +kernel, by decide +kernel⟩
theorem cd_X8_back : Cond.code yX8_back cX8_back 1 (some .int) ∈ lw_g := lg_of (List.mem_of_getElem? (i := 424) (by decide +kernel)) rfl
theorem wv_L_48 : WV RL 48 RX9 yX9_back 0 := ⟨mem_g [1009, 1010, 1011, 71] (by decide +kernel) (by decide +kernel), rfl, by decide +kernel, by decide +kernel, by decide +kernel⟩
theorem cd_X9_back : Cond.code yX9_back cX9_back 1 (some .int) ∈ lw_g := lg_of (List.mem_of_getElem? (i := 1012) (by decide +kernel)) rfl
theorem wv_L_49 : WV RL 49 RX8 yX8_read 1 := ⟨mem_g [425, 426, 427, 62] (by decide +kernel) (by decide +kernel), rfl, by decide +kernel, by decide +kernel, by decide +kernel⟩
theorem cd_X8_read : Cond.code yX8_read cX8_read 8 (some .int) ∈ lw_g := lg_of (List.mem_of_getElem? (i := 428) (by decide +kernel)) rfl
theorem wv_L_52 : WV RL 52 RX9 yX9_read 1 := ⟨mem_g [1013, 1014, 1015, 71] (by decide +kernel) (by decide +kernel), rfl, by decide +kernel, by decide +kernel, by decide +kernel⟩
theorem cd_X9_read : Cond.code yX9_read cX9_read 5 (some .int) ∈ lw_g := lg_of (List.mem_of_getElem? (i := 1016) (by decide +kernel)) rfl
theorem wv_L_53 : WV RL 53 RX8 yX8_place 2 := ⟨mem_g [437, 438, 439, 62] (by decide +kernel) (by decide +kernel), rfl, by decide +kernel, by decide +kernel, by decide +kernel⟩
theorem cd_X8_place : Cond.code yX8_place cX8_place 3 (some .int) ∈ lw_g := lg_of (List.mem_of_getElem? (i := 440) (by decide +kernel)) rfl
theorem wv_L_56 : WV RL 56 RX9 yX9_place 2 := ⟨mem_g [1018, 1019, 1020, 71] (by decide +kernel) (by decide +kernel), rfl, by decide +kernel, by decide +kernel, by decide +kernel⟩
theorem cd_X9_place : Cond.code yX9_place cX9_place 3 (some .int) ∈ lw_g := lg_of (List.mem_of_getElem? (i := 1021) (by decide +kernel)) rfl
theorem wv_L_57 : WV RL 57 RX8 yX8_at 3 := ⟨mem_g [517, 518, 519, 62] (by decide +kernel) (by decide +kernel), rfl, by decide +kernel, by decide +kernel, by decide +kernel⟩
theorem cd_X8_at : Cond.code yX8_at cX8_at 4 (some .int) ∈ lw_g := lg_of (List.mem_of_getElem? (i := 520) (by decide +kernel)) rfl
theorem wv_L_60 : WV RL 60 RX9 yX9_at 3 := ⟨mem_g [1063, 1064, 1065, 71] (by decide +kernel) (by decide +kernel), rfl, by decide +kernel, by decide +kernel, by decide +kernel⟩
theorem cd_X9_at : Cond.code yX9_at cX9_at 4 (some .int) ∈ lw_g := lg_of (List.mem_of_getElem? (i := 1066) (by decide +kernel)) rfl
theorem wv_L_61 : WV RL 61 RX8 yX8_show 2 := ⟨mem_g [525, 526, 527, 62] (by decide +kernel) (by decide +kernel), rfl, by decide +kernel, by decide +kernel, by decide +kernel⟩
theorem cd_X8_show : Cond.code yX8_show cX8_show 3 (some .int) ∈ lw_g := lg_of (List.mem_of_getElem? (i := 528) (by decide +kernel)) rfl
theorem wv_L_64 : WV RL 64 RX9 yX9_show 2 := ⟨mem_g [1072, 1073, 1074, 71] (by decide +kernel) (by decide +kernel), rfl, by decide +kernel, by decide +kernel, by decide +kernel⟩
theorem cd_X9_show : Cond.code yX9_show cX9_show 3 (some .int) ∈ lw_g := lg_of (List.mem_of_getElem? (i := 1075) (by decide +kernel)) rfl
theorem wv_L_65 : WV RL 65 RX8 yX8_owned 1 := ⟨mem_g [530, 531, 532, 62] (by decide +kernel) (by decide +kernel), rfl, by decide +kernel, by decide +kernel, by decide +kernel⟩
theorem wv_L_68 : WV RL 68 RX9 yX9_owned 1 := ⟨mem_g [1083, 1084, 1085, 71] (by decide +kernel) (by decide +kernel), rfl, by decide +kernel, by decide +kernel, by decide +kernel⟩
theorem cd_X9_owned : Cond.code yX9_owned cX9_owned 2 (some .int) ∈ lw_g := lg_of (List.mem_of_getElem? (i := 1086) (by decide +kernel)) rfl
theorem wv_L_69 : WV RL 69 RX8 yX8_champion 0 := ⟨mem_g [538, 539, 540, 62] (by decide +kernel) (by decide +kernel), rfl, by decide +kernel, by decide +kernel, by decide +kernel⟩
theorem wv_L_72 : WV RL 72 RX9 yX9_champion 0 := ⟨mem_g [1092, 1093, 1094, 71] (by decide +kernel) (by decide +kernel), rfl, by decide +kernel, by decide +kernel, by decide +kernel⟩
theorem cd_X9_champion : Cond.code yX9_champion cX9_champion 1 (some .int) ∈ lw_g := lg_of (List.mem_of_getElem? (i := 1095) (by decide +kernel)) rfl
theorem wv_L_73 : WV RL 73 RX8 yX8_best 0 := ⟨mem_g [550, 551, 552, 62] (by decide +kernel) (by decide +kernel), rfl, by decide +kernel, by decide +kernel, by decide +kernel⟩
theorem wv_L_76 : WV RL 76 RX9 yX9_best 0 := ⟨mem_g [1100, 1101, 1102, 71] (by decide +kernel) (by decide +kernel), rfl, by decide +kernel, by decide +kernel, by decide +kernel⟩
theorem cd_X9_best : Cond.code yX9_best cX9_best 1 (some .int) ∈ lw_g := lg_of (List.mem_of_getElem? (i := 1103) (by decide +kernel)) rfl
theorem wv_L_77 : WV RL 77 RX8 yX8_left 1 := ⟨mem_g [558, 559, 560, 62] (by decide +kernel) (by decide +kernel), rfl, by decide +kernel, by decide +kernel, by decide +kernel⟩
theorem wv_L_80 : WV RL 80 RX9 yX9_left 1 := ⟨mem_g [1108, 1109, 1110, 71] (by decide +kernel) (by decide +kernel), rfl, by decide +kernel, by decide +kernel, by decide +kernel⟩
theorem cd_X9_left : Cond.code yX9_left cX9_left 2 (some .int) ∈ lw_g := lg_of (List.mem_of_getElem? (i := 1111) (by decide +kernel)) rfl
theorem wv_L_81 : WV RL 81 RX8 yX8_brush 2 := ⟨mem_g [566, 567, 568, 62] (by decide +kernel) (by decide +kernel), rfl, by decide +kernel, by decide +kernel, by decide +kernel⟩
theorem cd_X8_brush : Cond.code yX8_brush cX8_brush 3 (some .int) ∈ lw_g := lg_of (List.mem_of_getElem? (i := 569) (by decide +kernel)) rfl
theorem wv_L_84 : WV RL 84 RX9 yX9_brush 2 := ⟨mem_g [1116, 1117, 1118, 71] (by decide +kernel) (by decide +kernel), rfl, by decide +kernel, by decide +kernel, by decide +kernel⟩
theorem cd_X9_brush : Cond.code yX9_brush cX9_brush 3 (some .int) ∈ lw_g := lg_of (List.mem_of_getElem? (i := 1119) (by decide +kernel)) rfl
theorem wv_L_85 : WV RL 85 RX8 yX8_rival 2 := ⟨mem_g [578, 579, 580, 62] (by decide +kernel) (by decide +kernel), rfl, by decide +kernel, by decide +kernel, by decide +kernel⟩
theorem cd_X8_rival : Cond.code yX8_rival cX8_rival 3 (some .int) ∈ lw_g := lg_of (List.mem_of_getElem? (i := 581) (by decide +kernel)) rfl
theorem wv_L_88 : WV RL 88 RX9 yX9_rival 2 := ⟨mem_g [1124, 1125, 1126, 71] (by decide +kernel) (by decide +kernel), rfl, by decide +kernel, by decide +kernel, by decide +kernel⟩
theorem cd_X9_rival : Cond.code yX9_rival cX9_rival 3 (some .int) ∈ lw_g := lg_of (List.mem_of_getElem? (i := 1127) (by decide +kernel)) rfl
theorem wv_L_89 : WV RL 89 RX8 yX8_send 3 := ⟨mem_g [586, 587, 588, 62] (by decide +kernel) (by decide +kernel), rfl, by decide +kernel, by decide +kernel, by decide +kernel⟩
theorem cd_X8_send : Cond.code yX8_send cX8_send 4 (some .int) ∈ lw_g := lg_of (List.mem_of_getElem? (i := 589) (by decide +kernel)) rfl
theorem wv_L_92 : WV RL 92 RX9 yX9_send 3 := ⟨mem_g [1132, 1133, 1134, 71] (by decide +kernel) (by decide +kernel), rfl, by decide +kernel, by decide +kernel, by decide +kernel⟩
theorem cd_X9_send : Cond.code yX9_send cX9_send 4 (some .int) ∈ lw_g := lg_of (List.mem_of_getElem? (i := 1135) (by decide +kernel)) rfl
theorem wv_L_93 : WV RL 93 RX8 yX8_spare 1 := ⟨mem_g [594, 595, 596, 62] (by decide +kernel) (by decide +kernel), rfl, by decide +kernel, by decide +kernel, by decide +kernel⟩
theorem wv_L_96 : WV RL 96 RX9 yX9_spare 1 := ⟨mem_g [1140, 1141, 1142, 71] (by decide +kernel) (by decide +kernel), rfl, by decide +kernel, by decide +kernel, by decide +kernel⟩
theorem cd_X9_spare : Cond.code yX9_spare cX9_spare 2 (some .int) ∈ lw_g := lg_of (List.mem_of_getElem? (i := 1143) (by decide +kernel)) rfl
theorem wv_L_97 : WV RL 97 RX8 yX8_seen 3 := ⟨mem_g [615, 616, 617, 62] (by decide +kernel) (by decide +kernel), rfl, by decide +kernel, by decide +kernel, by decide +kernel⟩
theorem cd_X8_seen : Cond.code yX8_seen cX8_seen 4 (some .int) ∈ lw_g := lg_of (List.mem_of_getElem? (i := 618) (by decide +kernel)) rfl
theorem wv_L_100 : WV RL 100 RX9 yX9_seen 3 := ⟨mem_g [1153, 1154, 1155, 71] (by decide +kernel) (by decide +kernel), rfl, by decide +kernel, by decide +kernel, by decide +kernel⟩
theorem cd_X9_seen : Cond.code yX9_seen cX9_seen 4 (some .int) ∈ lw_g := lg_of (List.mem_of_getElem? (i := 1156) (by decide +kernel)) rfl
theorem wv_L_101 : WV RL 101 RX8 yX8_forget 0 := ⟨mem_g [619, 620, 621, 62] (by decide +kernel) (by decide +kernel), rfl, by decide +kernel, by decide +kernel, by decide +kernel⟩
theorem cd_X8_forget : Cond.code yX8_forget cX8_forget 2 (some .int) ∈ lw_g := lg_of (List.mem_of_getElem? (i := 622) (by decide +kernel)) rfl
theorem wv_L_104 : WV RL 104 RX9 yX9_forget 0 := ⟨mem_g [1157, 1158, 1159, 71] (by decide +kernel) (by decide +kernel), rfl, by decide +kernel, by decide +kernel, by decide +kernel⟩
theorem cd_X9_forget : Cond.code yX9_forget cX9_forget 2 (some .int) ∈ lw_g := lg_of (List.mem_of_getElem? (i := 1160) (by decide +kernel)) rfl
theorem wv_L_105 : WV RL 105 RX8 yX8_never 0 := ⟨mem_g [623, 624, 625, 62] (by decide +kernel) (by decide +kernel), rfl, by decide +kernel, by decide +kernel, by decide +kernel⟩
theorem wv_L_108 : WV RL 108 RX9 yX9_never 0 := ⟨mem_g [1161, 1162, 1163, 71] (by decide +kernel) (by decide +kernel), rfl, by decide +kernel, by decide +kernel, by decide +kernel⟩
theorem cd_X9_never : Cond.code yX9_never cX9_never 1 (some .int) ∈ lw_g := lg_of (List.mem_of_getElem? (i := 1164) (by decide +kernel)) rfl
theorem wv_L_109 : WV RL 109 RX8 yX8_looked 1 := ⟨mem_g [636, 637, 638, 62] (by decide +kernel) (by decide +kernel), rfl, by decide +kernel, by decide +kernel, by decide +kernel⟩
theorem wv_L_112 : WV RL 112 RX9 yX9_looked 1 := ⟨mem_g [1177, 1178, 1179, 71] (by decide +kernel) (by decide +kernel), rfl, by decide +kernel, by decide +kernel, by decide +kernel⟩
theorem cd_X9_looked : Cond.code yX9_looked cX9_looked 2 (some .int) ∈ lw_g := lg_of (List.mem_of_getElem? (i := 1180) (by decide +kernel)) rfl
theorem wv_L_113 : WV RL 113 RX8 yX8_tastes 1 := ⟨mem_g [640, 641, 642, 62] (by decide +kernel) (by decide +kernel), rfl, by decide +kernel, by decide +kernel, by decide +kernel⟩
theorem wv_L_116 : WV RL 116 RX9 yX9_tastes 1 := ⟨mem_g [1185, 1186, 1187, 71] (by decide +kernel) (by decide +kernel), rfl, by decide +kernel, by decide +kernel, by decide +kernel⟩
theorem cd_X9_tastes : Cond.code yX9_tastes cX9_tastes 2 (some .int) ∈ lw_g := lg_of (List.mem_of_getElem? (i := 1188) (by decide +kernel)) rfl
theorem wv_L_117 : WV RL 117 RX8 yX8_ask 1 := ⟨mem_g [644, 645, 646, 62] (by decide +kernel) (by decide +kernel), rfl, by decide +kernel, by decide +kernel, by decide +kernel⟩
theorem wv_L_120 : WV RL 120 RX9 yX9_ask 1 := ⟨mem_g [1193, 1194, 1195, 71] (by decide +kernel) (by decide +kernel), rfl, by decide +kernel, by decide +kernel, by decide +kernel⟩
theorem cd_X9_ask : Cond.code yX9_ask cX9_ask 2 (some .int) ∈ lw_g := lg_of (List.mem_of_getElem? (i := 1196) (by decide +kernel)) rfl
theorem wv_L_121 : WV RL 121 RX8 yX8_chance 3 := ⟨mem_g [658, 659, 660, 62] (by decide +kernel) (by decide +kernel), rfl, by decide +kernel, by decide +kernel, by decide +kernel⟩
theorem cd_X8_chance : Cond.code yX8_chance cX8_chance 4 (some .long) ∈ lw_g := lg_of (List.mem_of_getElem? (i := 661) (by decide +kernel)) rfl
theorem wv_L_125 : WV RL 125 RX9 yX9_chance 3 := ⟨mem_g [1205, 1206, 1207, 71] (by decide +kernel) (by decide +kernel), rfl, by decide +kernel, by decide +kernel, by decide +kernel⟩
theorem cd_X9_chance : Cond.code yX9_chance cX9_chance 4 (some .long) ∈ lw_g := lg_of (List.mem_of_getElem? (i := 1208) (by decide +kernel)) rfl
theorem wv_L_126 : WV RL 126 RX8 yX8_years 3 := ⟨mem_g [675, 676, 677, 62] (by decide +kernel) (by decide +kernel), rfl, by decide +kernel, by decide +kernel, by decide +kernel⟩
theorem wv_L_129 : WV RL 129 RX9 yX9_years 3 := ⟨mem_g [1221, 1222, 1223, 71] (by decide +kernel) (by decide +kernel), rfl, by decide +kernel, by decide +kernel, by decide +kernel⟩
theorem cd_X9_years : Cond.code yX9_years cX9_years 4 (some .int) ∈ lw_g := lg_of (List.mem_of_getElem? (i := 1224) (by decide +kernel)) rfl
theorem wv_L_130 : WV RL 130 RX8 yX8_sheet 3 := ⟨mem_g [684, 685, 686, 62] (by decide +kernel) (by decide +kernel), rfl, by decide +kernel, by decide +kernel, by decide +kernel⟩
theorem cd_X8_sheet : Cond.code yX8_sheet cX8_sheet 4 (some .int) ∈ lw_g := lg_of (List.mem_of_getElem? (i := 687) (by decide +kernel)) rfl
theorem wv_L_133 : WV RL 133 RX9 yX9_sheet 3 := ⟨mem_g [898, 899, 900, 71] (by decide +kernel) (by decide +kernel), rfl, by decide +kernel, by decide +kernel, by decide +kernel⟩
theorem cd_X9_sheet : Cond.code yX9_sheet cX9_sheet 5 (some .int) ∈ lw_g := lg_of (List.mem_of_getElem? (i := 901) (by decide +kernel)) rfl
theorem wv_L_134 : WV RL 134 RX8 yX8_lose 1 := ⟨mem_g [692, 693, 694, 62] (by decide +kernel) (by decide +kernel), rfl, by decide +kernel, by decide +kernel, by decide +kernel⟩
theorem cd_X8_lose : Cond.code yX8_lose cX8_lose 2 (some .int) ∈ lw_g := lg_of (List.mem_of_getElem? (i := 695) (by decide +kernel)) rfl
theorem wv_L_137 : WV RL 137 RX9 yX9_lose 1 := ⟨mem_g [914, 915, 916, 71] (by decide +kernel) (by decide +kernel), rfl, by decide +kernel, by decide +kernel, by decide +kernel⟩
theorem cd_X9_lose : Cond.code yX9_lose cX9_lose 2 (some .int) ∈ lw_g := lg_of (List.mem_of_getElem? (i := 917) (by decide +kernel)) rfl
theorem wv_L_138 : WV RL 138 RX8 yX8_lay 4 := ⟨mem_g [696, 697, 698, 62] (by decide +kernel) (by decide +kernel), rfl, by decide +kernel, by decide +kernel, by decide +kernel⟩
theorem cd_X8_lay : Cond.code yX8_lay cX8_lay 6 (some .int) ∈ lw_g := lg_of (List.mem_of_getElem? (i := 699) (by decide +kernel)) rfl
theorem wv_L_142 : WV RL 142 RX9 yX9_lay 4 := ⟨mem_g [918, 919, 920, 71] (by decide +kernel) (by decide +kernel), rfl, by decide +kernel, by decide +kernel, by decide +kernel⟩
theorem cd_X9_lay : Cond.code yX9_lay cX9_lay 6 (some .int) ∈ lw_g := lg_of (List.mem_of_getElem? (i := 921) (by decide +kernel)) rfl
theorem wv_L_143 : WV RL 143 RX8 yX8_get 3 := ⟨mem_g [710, 711, 712, 62] (by decide +kernel) (by decide +kernel), rfl, by decide +kernel, by decide +kernel, by decide +kernel⟩
theorem cd_X8_get : Cond.code yX8_get cX8_get 5 (some .int) ∈ lw_g := lg_of (List.mem_of_getElem? (i := 713) (by decide +kernel)) rfl
theorem wv_L_146 : WV RL 146 RX9 yX9_get 3 := ⟨mem_g [929, 930, 931, 71] (by decide +kernel) (by decide +kernel), rfl, by decide +kernel, by decide +kernel, by decide +kernel⟩
theorem cd_X9_get : Cond.code yX9_get cX9_get 4 (some .int) ∈ lw_g := lg_of (List.mem_of_getElem? (i := 932) (by decide +kernel)) rfl
theorem wv_L_147 : WV RL 147 RX8 yX8_copy 5 := ⟨mem_g [715, 716, 717, 62] (by decide +kernel) (by decide +kernel), rfl, by decide +kernel, by decide +kernel, by decide +kernel⟩
theorem cd_X8_copy : Cond.code yX8_copy cX8_copy 8 (some .int) ∈ lw_g := lg_of (List.mem_of_getElem? (i := 718) (by decide +kernel)) rfl
theorem wv_L_151 : WV RL 151 RX9 yX9_copy 5 := ⟨mem_g [934, 935, 936, 71] (by decide +kernel) (by decide +kernel), rfl, by decide +kernel, by decide +kernel, by decide +kernel⟩
theorem cd_X9_copy : Cond.code yX9_copy cX9_copy 7 (some .int) ∈ lw_g := lg_of (List.mem_of_getElem? (i := 937) (by decide +kernel)) rfl
theorem wv_L_152 : WV RL 152 RX8 yX8_write 2 := ⟨mem_g [726, 727, 728, 62] (by decide +kernel) (by decide +kernel), rfl, by decide +kernel, by decide +kernel, by decide +kernel⟩
theorem cd_X8_write : Cond.code yX8_write cX8_write 6 (some .int) ∈ lw_g := lg_of (List.mem_of_getElem? (i := 729) (by decide +kernel)) rfl
theorem wv_L_155 : WV RL 155 RX9 yX9_write 2 := ⟨mem_g [1238, 1239, 1240, 71] (by decide +kernel) (by decide +kernel), rfl, by decide +kernel, by decide +kernel, by decide +kernel⟩
theorem cd_X9_write : Cond.code yX9_write cX9_write 5 (some .int) ∈ lw_g := lg_of (List.mem_of_getElem? (i := 1241) (by decide +kernel)) rfl
theorem wv_L_156 : WV RL 156 RX8 yX8_count 1 := ⟨mem_g [731, 732, 733, 62] (by decide +kernel) (by decide +kernel), rfl, by decide +kernel, by decide +kernel, by decide +kernel⟩
theorem wv_L_159 : WV RL 159 RX9 yX9_count 1 := ⟨mem_g [1242, 1243, 1244, 71] (by decide +kernel) (by decide +kernel), rfl, by decide +kernel, by decide +kernel, by decide +kernel⟩
theorem wv_L_160 : WV RL 160 RX8 yX8_digest 0 := ⟨mem_g [736, 737, 738, 62] (by decide +kernel) (by decide +kernel), rfl, by decide +kernel, by decide +kernel, by decide +kernel⟩
theorem cd_X8_digest : Cond.code yX8_digest cX8_digest 4 (some .long) ∈ lw_g := lg_of (List.mem_of_getElem? (i := 739) (by decide +kernel)) rfl
theorem wv_L_164 : WV RL 164 RX9 yX9_digest 0 := ⟨mem_g [1246, 1247, 1248, 71] (by decide +kernel) (by decide +kernel), rfl, by decide +kernel, by decide +kernel, by decide +kernel⟩
theorem cd_X9_digest : Cond.code yX9_digest cX9_digest 5 (some .long) ∈ lw_g := lg_of (List.mem_of_getElem? (i := 1249) (by decide +kernel)) rfl
set_option maxRecDepth 100000 in
set_option maxHeartbeats 4000000 in
/-- type -/
theorem law_0 {I : Mm → Mm → Prop} (hO : LawOps I) {p : Program} {l : Launch} {e : Env} {s : State} {m : MethodId} {below : List Frame} {meth : Method} {c : Code} {b L : Nat} {xs : Nat → Int32} {D : va_G} {cs : Cs} {ac am : Ad} {Q : State → Prop} (X : LX p s m meth c b L xs D cs ac am) {j : Nat} (hj : j + 6 ≤ L) (μ ν : Mm) (hI : I μ ν) (H : Heap) (locs : List Loc) (la : Array Slot) (S : LSt s D cs ac am μ ν H locs) (hl : lv_has la 4 [(0, .ref b), (1, .ref (ac 0)), (2, .ref (am 0)), (3, .int (nI j))])
    (kk : ∀ (μ' ν' : Mm) (H1 : Heap) (locs1 : List Loc), I μ' ν' → LSt s D cs ac am μ' ν' H1 locs1 → W p l e room_1 s m #[Value.ref b] below meth c H1 locs1 62 1996 Q (F0 m 1272 la [])) : W p l e room_1 s m #[Value.ref b] below meth c H locs 62 1996 Q (F0 m 192 la []) := by
  obtain ⟨q, r, eq, er, hqr, hI2⟩ := (LawOps_0 hO (xs (j + 1)) (xs (j + 2))) μ ν hI
  have hL := X.2.2.2.2.2.2
  refine lv_aload_n X.1.1 X.1.2.1 dL_law_192 rfl (lv_at hl 1 rfl) ?_
  refine law_arg (pc := 193) (k := 1) X S.2.2.2.2 hl (by omega) rfl dL_law_193 dL_law_194 dL_law_195 dL_law_196 dL_law_197 ?_
  refine law_arg (pc := 198) (k := 2) X S.2.2.2.2 hl (by omega) rfl dL_law_198 dL_law_199 dL_law_200 dL_law_201 dL_law_202 ?_
  refine law_callC2i (pc := 203) X S hl.1 dL_law_203 wv_L_13 cd_X8_type (S_X8_type _ _ _ _ eq) (by decide) (by decide) (Nat.le_of_ble_eq_true rfl) ⟨Nat.le_of_ble_eq_true rfl, Nat.le_of_ble_eq_true rfl⟩ (fun H locs S => ?_)
  refine lv_aload_n X.1.1 X.1.2.1 dL_law_206 rfl (lv_at hl 2 rfl) ?_
  refine law_arg (pc := 207) (k := 1) X S.2.2.2.2 hl (by omega) rfl dL_law_207 dL_law_208 dL_law_209 dL_law_210 dL_law_211 ?_
  refine law_arg (pc := 212) (k := 2) X S.2.2.2.2 hl (by omega) rfl dL_law_212 dL_law_213 dL_law_214 dL_law_215 dL_law_216 ?_
  refine law_callM2i (pc := 217) X S hl.1 dL_law_217 wv_L_17 cd_X9_type (S_X9_type _ _ _ _ er) (by decide) (by decide) (Nat.le_of_ble_eq_true rfl) ⟨Nat.le_of_ble_eq_true rfl, Nat.le_of_ble_eq_true rfl⟩ (fun H locs S => ?_)
  exact lv_icmp_eq (tgt := 1272) X.1.1 X.1.2.1 dL_law_220 (by decide) (fun _ => kk q.2 r.2 H locs hI2 S) (fun hne => absurd hqr hne)
set_option maxRecDepth 100000 in
set_option maxHeartbeats 4000000 in
/-- wipe -/
theorem law_1 {I : Mm → Mm → Prop} (hO : LawOps I) {p : Program} {l : Launch} {e : Env} {s : State} {m : MethodId} {below : List Frame} {meth : Method} {c : Code} {b L : Nat} {xs : Nat → Int32} {D : va_G} {cs : Cs} {ac am : Ad} {Q : State → Prop} (X : LX p s m meth c b L xs D cs ac am) {j : Nat} (hj : j + 6 ≤ L) (μ ν : Mm) (hI : I μ ν) (H : Heap) (locs : List Loc) (la : Array Slot) (S : LSt s D cs ac am μ ν H locs) (hl : lv_has la 4 [(0, .ref b), (1, .ref (ac 0)), (2, .ref (am 0)), (3, .int (nI j))])
    (kk : ∀ (μ' ν' : Mm) (H1 : Heap) (locs1 : List Loc), I μ' ν' → LSt s D cs ac am μ' ν' H1 locs1 → W p l e room_1 s m #[Value.ref b] below meth c H1 locs1 62 1996 Q (F0 m 1272 la [])) : W p l e room_1 s m #[Value.ref b] below meth c H locs 62 1996 Q (F0 m 225 la []) := by
  obtain ⟨q, r, eq, er, hqr, hI2⟩ := (LawOps_1 hO (xs (j + 1))) μ ν hI
  have hL := X.2.2.2.2.2.2
  refine lv_aload_n X.1.1 X.1.2.1 dL_law_225 rfl (lv_at hl 1 rfl) ?_
  refine law_arg (pc := 226) (k := 1) X S.2.2.2.2 hl (by omega) rfl dL_law_226 dL_law_227 dL_law_228 dL_law_229 dL_law_230 ?_
  refine law_callC1i (pc := 231) X S hl.1 dL_law_231 wv_L_18 cd_X8_wipe (S_X8_wipe _ _ _ eq) (by decide) (by decide) (Nat.le_of_ble_eq_true rfl) ⟨Nat.le_of_ble_eq_true rfl, Nat.le_of_ble_eq_true rfl⟩ (fun H locs S => ?_)
  refine lv_aload_n X.1.1 X.1.2.1 dL_law_234 rfl (lv_at hl 2 rfl) ?_
  refine law_arg (pc := 235) (k := 1) X S.2.2.2.2 hl (by omega) rfl dL_law_235 dL_law_236 dL_law_237 dL_law_238 dL_law_239 ?_
  refine law_callM1i (pc := 240) X S hl.1 dL_law_240 wv_L_22 cd_X9_wipe (S_X9_wipe _ _ _ er) (by decide) (by decide) (Nat.le_of_ble_eq_true rfl) ⟨Nat.le_of_ble_eq_true rfl, Nat.le_of_ble_eq_true rfl⟩ (fun H locs S => ?_)
  exact lv_icmp_eq (tgt := 1272) X.1.1 X.1.2.1 dL_law_243 (by decide) (fun _ => kk q.2 r.2 H locs hI2 S) (fun hne => absurd hqr hne)
set_option maxRecDepth 100000 in
set_option maxHeartbeats 4000000 in
/-- undo -/
theorem law_2 {I : Mm → Mm → Prop} (hO : LawOps I) {p : Program} {l : Launch} {e : Env} {s : State} {m : MethodId} {below : List Frame} {meth : Method} {c : Code} {b L : Nat} {xs : Nat → Int32} {D : va_G} {cs : Cs} {ac am : Ad} {Q : State → Prop} (X : LX p s m meth c b L xs D cs ac am) {j : Nat} (hj : j + 6 ≤ L) (μ ν : Mm) (hI : I μ ν) (H : Heap) (locs : List Loc) (la : Array Slot) (S : LSt s D cs ac am μ ν H locs) (hl : lv_has la 4 [(0, .ref b), (1, .ref (ac 0)), (2, .ref (am 0)), (3, .int (nI j))])
    (kk : ∀ (μ' ν' : Mm) (H1 : Heap) (locs1 : List Loc), I μ' ν' → LSt s D cs ac am μ' ν' H1 locs1 → W p l e room_1 s m #[Value.ref b] below meth c H1 locs1 62 1996 Q (F0 m 1272 la [])) : W p l e room_1 s m #[Value.ref b] below meth c H locs 62 1996 Q (F0 m 248 la []) := by
  obtain ⟨q, r, eq, er, hqr, hI2⟩ := (LawOps_2 hO (xs (j + 1))) μ ν hI
  have hL := X.2.2.2.2.2.2
  refine lv_aload_n X.1.1 X.1.2.1 dL_law_248 rfl (lv_at hl 1 rfl) ?_
  refine law_arg (pc := 249) (k := 1) X S.2.2.2.2 hl (by omega) rfl dL_law_249 dL_law_250 dL_law_251 dL_law_252 dL_law_253 ?_
  refine law_callC1i (pc := 254) X S hl.1 dL_law_254 wv_L_23 cd_X8_undo (S_X8_undo _ _ _ eq) (by decide) (by decide) (Nat.le_of_ble_eq_true rfl) ⟨Nat.le_of_ble_eq_true rfl, Nat.le_of_ble_eq_true rfl⟩ (fun H locs S => ?_)
  refine lv_aload_n X.1.1 X.1.2.1 dL_law_257 rfl (lv_at hl 2 rfl) ?_
  refine law_arg (pc := 258) (k := 1) X S.2.2.2.2 hl (by omega) rfl dL_law_258 dL_law_259 dL_law_260 dL_law_261 dL_law_262 ?_
  refine law_callM1i (pc := 263) X S hl.1 dL_law_263 wv_L_26 cd_X9_undo (S_X9_undo _ _ _ er) (by decide) (by decide) (Nat.le_of_ble_eq_true rfl) ⟨Nat.le_of_ble_eq_true rfl, Nat.le_of_ble_eq_true rfl⟩ (fun H locs S => ?_)
  exact lv_icmp_eq (tgt := 1272) X.1.1 X.1.2.1 dL_law_266 (by decide) (fun _ => kk q.2 r.2 H locs hI2 S) (fun hne => absurd hqr hne)
set_option maxRecDepth 100000 in
set_option maxHeartbeats 4000000 in
/-- fault -/
theorem law_3 {I : Mm → Mm → Prop} (hO : LawOps I) {p : Program} {l : Launch} {e : Env} {s : State} {m : MethodId} {below : List Frame} {meth : Method} {c : Code} {b L : Nat} {xs : Nat → Int32} {D : va_G} {cs : Cs} {ac am : Ad} {Q : State → Prop} (X : LX p s m meth c b L xs D cs ac am) {j : Nat} (hj : j + 6 ≤ L) (μ ν : Mm) (hI : I μ ν) (H : Heap) (locs : List Loc) (la : Array Slot) (S : LSt s D cs ac am μ ν H locs) (hl : lv_has la 4 [(0, .ref b), (1, .ref (ac 0)), (2, .ref (am 0)), (3, .int (nI j))])
    (kk : ∀ (μ' ν' : Mm) (H1 : Heap) (locs1 : List Loc), I μ' ν' → LSt s D cs ac am μ' ν' H1 locs1 → W p l e room_1 s m #[Value.ref b] below meth c H1 locs1 62 1996 Q (F0 m 1272 la [])) : W p l e room_1 s m #[Value.ref b] below meth c H locs 62 1996 Q (F0 m 271 la []) := by
  obtain ⟨q, r, eq, er, hqr, hI2⟩ := (LawOps_3 hO (xs (j + 1))) μ ν hI
  have hL := X.2.2.2.2.2.2
  refine lv_aload_n X.1.1 X.1.2.1 dL_law_271 rfl (lv_at hl 1 rfl) ?_
  refine law_arg (pc := 272) (k := 1) X S.2.2.2.2 hl (by omega) rfl dL_law_272 dL_law_273 dL_law_274 dL_law_275 dL_law_276 ?_
  refine law_callC1i (pc := 277) X S hl.1 dL_law_277 wv_L_27 cd_X8_fault (S_X8_fault _ _ _ eq) (by decide) (by decide) (Nat.le_of_ble_eq_true rfl) ⟨Nat.le_of_ble_eq_true rfl, Nat.le_of_ble_eq_true rfl⟩ (fun H locs S => ?_)
  refine lv_aload_n X.1.1 X.1.2.1 dL_law_280 rfl (lv_at hl 2 rfl) ?_
  refine law_arg (pc := 281) (k := 1) X S.2.2.2.2 hl (by omega) rfl dL_law_281 dL_law_282 dL_law_283 dL_law_284 dL_law_285 ?_
  refine law_callM1i (pc := 286) X S hl.1 dL_law_286 wv_L_30 cd_X9_fault (S_X9_fault _ _ _ er) (by decide) (by decide) (Nat.le_of_ble_eq_true rfl) ⟨Nat.le_of_ble_eq_true rfl, Nat.le_of_ble_eq_true rfl⟩ (fun H locs S => ?_)
  exact lv_icmp_eq (tgt := 1272) X.1.1 X.1.2.1 dL_law_289 (by decide) (fun _ => kk q.2 r.2 H locs hI2 S) (fun hne => absurd hqr hne)
set_option maxRecDepth 100000 in
set_option maxHeartbeats 4000000 in
/-- thing -/
theorem law_4 {I : Mm → Mm → Prop} (hO : LawOps I) {p : Program} {l : Launch} {e : Env} {s : State} {m : MethodId} {below : List Frame} {meth : Method} {c : Code} {b L : Nat} {xs : Nat → Int32} {D : va_G} {cs : Cs} {ac am : Ad} {Q : State → Prop} (X : LX p s m meth c b L xs D cs ac am) {j : Nat} (hj : j + 6 ≤ L) (μ ν : Mm) (hI : I μ ν) (H : Heap) (locs : List Loc) (la : Array Slot) (S : LSt s D cs ac am μ ν H locs) (hl : lv_has la 4 [(0, .ref b), (1, .ref (ac 0)), (2, .ref (am 0)), (3, .int (nI j))])
    (kk : ∀ (μ' ν' : Mm) (H1 : Heap) (locs1 : List Loc), I μ' ν' → LSt s D cs ac am μ' ν' H1 locs1 → W p l e room_1 s m #[Value.ref b] below meth c H1 locs1 62 1996 Q (F0 m 1272 la [])) : W p l e room_1 s m #[Value.ref b] below meth c H locs 62 1996 Q (F0 m 294 la []) := by
  obtain ⟨q, r, eq, er, hqr, hI2⟩ := (LawOps_4 hO (xs (j + 1)) (xs (j + 2))) μ ν hI
  have hL := X.2.2.2.2.2.2
  refine lv_aload_n X.1.1 X.1.2.1 dL_law_294 rfl (lv_at hl 1 rfl) ?_
  refine law_arg (pc := 295) (k := 1) X S.2.2.2.2 hl (by omega) rfl dL_law_295 dL_law_296 dL_law_297 dL_law_298 dL_law_299 ?_
  refine law_arg (pc := 300) (k := 2) X S.2.2.2.2 hl (by omega) rfl dL_law_300 dL_law_301 dL_law_302 dL_law_303 dL_law_304 ?_
  refine law_callC2i (pc := 305) X S hl.1 dL_law_305 wv_L_31 cd_X8_thing (S_X8_thing _ _ _ _ eq) (by decide) (by decide) (Nat.le_of_ble_eq_true rfl) ⟨Nat.le_of_ble_eq_true rfl, Nat.le_of_ble_eq_true rfl⟩ (fun H locs S => ?_)
  refine lv_aload_n X.1.1 X.1.2.1 dL_law_308 rfl (lv_at hl 2 rfl) ?_
  refine law_arg (pc := 309) (k := 1) X S.2.2.2.2 hl (by omega) rfl dL_law_309 dL_law_310 dL_law_311 dL_law_312 dL_law_313 ?_
  refine law_arg (pc := 314) (k := 2) X S.2.2.2.2 hl (by omega) rfl dL_law_314 dL_law_315 dL_law_316 dL_law_317 dL_law_318 ?_
  refine law_callM2i (pc := 319) X S hl.1 dL_law_319 wv_L_34 cd_X9_thing (S_X9_thing _ _ _ _ er) (by decide) (by decide) (Nat.le_of_ble_eq_true rfl) ⟨Nat.le_of_ble_eq_true rfl, Nat.le_of_ble_eq_true rfl⟩ (fun H locs S => ?_)
  exact lv_icmp_eq (tgt := 1272) X.1.1 X.1.2.1 dL_law_322 (by decide) (fun _ => kk q.2 r.2 H locs hI2 S) (fun hne => absurd hqr hne)
set_option maxRecDepth 100000 in
set_option maxHeartbeats 4000000 in
/-- judge -/
theorem law_5 {I : Mm → Mm → Prop} (hO : LawOps I) {p : Program} {l : Launch} {e : Env} {s : State} {m : MethodId} {below : List Frame} {meth : Method} {c : Code} {b L : Nat} {xs : Nat → Int32} {D : va_G} {cs : Cs} {ac am : Ad} {Q : State → Prop} (X : LX p s m meth c b L xs D cs ac am) {j : Nat} (hj : j + 6 ≤ L) (μ ν : Mm) (hI : I μ ν) (H : Heap) (locs : List Loc) (la : Array Slot) (S : LSt s D cs ac am μ ν H locs) (hl : lv_has la 4 [(0, .ref b), (1, .ref (ac 0)), (2, .ref (am 0)), (3, .int (nI j))])
    (kk : ∀ (μ' ν' : Mm) (H1 : Heap) (locs1 : List Loc), I μ' ν' → LSt s D cs ac am μ' ν' H1 locs1 → W p l e room_1 s m #[Value.ref b] below meth c H1 locs1 62 1996 Q (F0 m 1272 la [])) : W p l e room_1 s m #[Value.ref b] below meth c H locs 62 1996 Q (F0 m 327 la []) := by
  obtain ⟨q, r, eq, er, hqr, hI2⟩ := (LawOps_5 hO (xs (j + 1)) (xs (j + 2))) μ ν hI
  have hL := X.2.2.2.2.2.2
  refine lv_aload_n X.1.1 X.1.2.1 dL_law_327 rfl (lv_at hl 1 rfl) ?_
  refine law_arg (pc := 328) (k := 1) X S.2.2.2.2 hl (by omega) rfl dL_law_328 dL_law_329 dL_law_330 dL_law_331 dL_law_332 ?_
  refine law_arg (pc := 333) (k := 2) X S.2.2.2.2 hl (by omega) rfl dL_law_333 dL_law_334 dL_law_335 dL_law_336 dL_law_337 ?_
  refine law_callC2i (pc := 338) X S hl.1 dL_law_338 wv_L_35 cd_X8_judge (S_X8_judge _ _ _ _ eq) (by decide) (by decide) (Nat.le_of_ble_eq_true rfl) ⟨Nat.le_of_ble_eq_true rfl, Nat.le_of_ble_eq_true rfl⟩ (fun H locs S => ?_)
  refine lv_aload_n X.1.1 X.1.2.1 dL_law_341 rfl (lv_at hl 2 rfl) ?_
  refine law_arg (pc := 342) (k := 1) X S.2.2.2.2 hl (by omega) rfl dL_law_342 dL_law_343 dL_law_344 dL_law_345 dL_law_346 ?_
  refine law_arg (pc := 347) (k := 2) X S.2.2.2.2 hl (by omega) rfl dL_law_347 dL_law_348 dL_law_349 dL_law_350 dL_law_351 ?_
  refine law_callM2i (pc := 352) X S hl.1 dL_law_352 wv_L_38 cd_X9_judge (S_X9_judge _ _ _ _ er) (by decide) (by decide) (Nat.le_of_ble_eq_true rfl) ⟨Nat.le_of_ble_eq_true rfl, Nat.le_of_ble_eq_true rfl⟩ (fun H locs S => ?_)
  exact lv_icmp_eq (tgt := 1272) X.1.1 X.1.2.1 dL_law_355 (by decide) (fun _ => kk q.2 r.2 H locs hI2 S) (fun hne => absurd hqr hne)
set_option maxRecDepth 100000 in
set_option maxHeartbeats 4000000 in
/-- event -/
theorem law_6 {I : Mm → Mm → Prop} (hO : LawOps I) {p : Program} {l : Launch} {e : Env} {s : State} {m : MethodId} {below : List Frame} {meth : Method} {c : Code} {b L : Nat} {xs : Nat → Int32} {D : va_G} {cs : Cs} {ac am : Ad} {Q : State → Prop} (X : LX p s m meth c b L xs D cs ac am) {j : Nat} (hj : j + 6 ≤ L) (μ ν : Mm) (hI : I μ ν) (H : Heap) (locs : List Loc) (la : Array Slot) (S : LSt s D cs ac am μ ν H locs) (hl : lv_has la 4 [(0, .ref b), (1, .ref (ac 0)), (2, .ref (am 0)), (3, .int (nI j))])
    (kk : ∀ (μ' ν' : Mm) (H1 : Heap) (locs1 : List Loc), I μ' ν' → LSt s D cs ac am μ' ν' H1 locs1 → W p l e room_1 s m #[Value.ref b] below meth c H1 locs1 62 1996 Q (F0 m 1272 la [])) : W p l e room_1 s m #[Value.ref b] below meth c H locs 62 1996 Q (F0 m 360 la []) := by
  obtain ⟨q, r, eq, er, hqr, hI2⟩ := (LawOps_6 hO (xs (j + 1)) (xs (j + 2)) (xs (j + 3))) μ ν hI
  have hL := X.2.2.2.2.2.2
  refine lv_aload_n X.1.1 X.1.2.1 dL_law_360 rfl (lv_at hl 1 rfl) ?_
  refine law_arg (pc := 361) (k := 1) X S.2.2.2.2 hl (by omega) rfl dL_law_361 dL_law_362 dL_law_363 dL_law_364 dL_law_365 ?_
  refine law_arg (pc := 366) (k := 2) X S.2.2.2.2 hl (by omega) rfl dL_law_366 dL_law_367 dL_law_368 dL_law_369 dL_law_370 ?_
  refine law_arg (pc := 371) (k := 3) X S.2.2.2.2 hl (by omega) rfl dL_law_371 dL_law_372 dL_law_373 dL_law_374 dL_law_375 ?_
  refine law_callC3i (pc := 376) X S hl.1 dL_law_376 wv_L_39 cd_X8_event (S_X8_event _ _ _ _ _ eq) (by decide) (by decide) (Nat.le_of_ble_eq_true rfl) ⟨Nat.le_of_ble_eq_true rfl, Nat.le_of_ble_eq_true rfl⟩ (fun H locs S => ?_)
  refine lv_aload_n X.1.1 X.1.2.1 dL_law_379 rfl (lv_at hl 2 rfl) ?_
  refine law_arg (pc := 380) (k := 1) X S.2.2.2.2 hl (by omega) rfl dL_law_380 dL_law_381 dL_law_382 dL_law_383 dL_law_384 ?_
  refine law_arg (pc := 385) (k := 2) X S.2.2.2.2 hl (by omega) rfl dL_law_385 dL_law_386 dL_law_387 dL_law_388 dL_law_389 ?_
  refine law_arg (pc := 390) (k := 3) X S.2.2.2.2 hl (by omega) rfl dL_law_390 dL_law_391 dL_law_392 dL_law_393 dL_law_394 ?_
  refine law_callM3i (pc := 395) X S hl.1 dL_law_395 wv_L_43 cd_X9_event (S_X9_event _ _ _ _ _ er) (by decide) (by decide) (Nat.le_of_ble_eq_true rfl) ⟨Nat.le_of_ble_eq_true rfl, Nat.le_of_ble_eq_true rfl⟩ (fun H locs S => ?_)
  exact lv_icmp_eq (tgt := 1272) X.1.1 X.1.2.1 dL_law_398 (by decide) (fun _ => kk q.2 r.2 H locs hI2 S) (fun hne => absurd hqr hne)
set_option maxRecDepth 100000 in
set_option maxHeartbeats 4000000 in
/-- back -/
theorem law_7 {I : Mm → Mm → Prop} (hO : LawOps I) {p : Program} {l : Launch} {e : Env} {s : State} {m : MethodId} {below : List Frame} {meth : Method} {c : Code} {b L : Nat} {xs : Nat → Int32} {D : va_G} {cs : Cs} {ac am : Ad} {Q : State → Prop} (X : LX p s m meth c b L xs D cs ac am) {j : Nat} (hj : j + 6 ≤ L) (μ ν : Mm) (hI : I μ ν) (H : Heap) (locs : List Loc) (la : Array Slot) (S : LSt s D cs ac am μ ν H locs) (hl : lv_has la 4 [(0, .ref b), (1, .ref (ac 0)), (2, .ref (am 0)), (3, .int (nI j))])
    (kk : ∀ (μ' ν' : Mm) (H1 : Heap) (locs1 : List Loc), I μ' ν' → LSt s D cs ac am μ' ν' H1 locs1 → W p l e room_1 s m #[Value.ref b] below meth c H1 locs1 62 1996 Q (F0 m 1272 la [])) : W p l e room_1 s m #[Value.ref b] below meth c H locs 62 1996 Q (F0 m 403 la []) := by
  obtain ⟨q, r, eq, er, hqr, hI2⟩ := (LawOps_7 hO) μ ν hI
  have hL := X.2.2.2.2.2.2
  refine lv_aload_n X.1.1 X.1.2.1 dL_law_403 rfl (lv_at hl 1 rfl) ?_
  refine law_callC0i (pc := 404) X S hl.1 dL_law_404 wv_L_44 cd_X8_back (S_X8_back  _ _ eq) (by decide) (by decide) (Nat.le_of_ble_eq_true rfl) ⟨Nat.le_of_ble_eq_true rfl, Nat.le_of_ble_eq_true rfl⟩ (fun H locs S => ?_)
  refine lv_aload_n X.1.1 X.1.2.1 dL_law_407 rfl (lv_at hl 2 rfl) ?_
  refine law_callM0i (pc := 408) X S hl.1 dL_law_408 wv_L_48 cd_X9_back (S_X9_back  _ _ er) (by decide) (by decide) (Nat.le_of_ble_eq_true rfl) ⟨Nat.le_of_ble_eq_true rfl, Nat.le_of_ble_eq_true rfl⟩ (fun H locs S => ?_)
  exact lv_icmp_eq (tgt := 1272) X.1.1 X.1.2.1 dL_law_411 (by decide) (fun _ => kk q.2 r.2 H locs hI2 S) (fun hne => absurd hqr hne)
set_option maxRecDepth 100000 in
set_option maxHeartbeats 4000000 in
/-- read -/
theorem law_8 {I : Mm → Mm → Prop} (hO : LawOps I) {p : Program} {l : Launch} {e : Env} {s : State} {m : MethodId} {below : List Frame} {meth : Method} {c : Code} {b L : Nat} {xs : Nat → Int32} {D : va_G} {cs : Cs} {ac am : Ad} {Q : State → Prop} (X : LX p s m meth c b L xs D cs ac am) {j : Nat} (hj : j + 6 ≤ L) (μ ν : Mm) (hI : I μ ν) (H : Heap) (locs : List Loc) (la : Array Slot) (S : LSt s D cs ac am μ ν H locs) (hl : lv_has la 4 [(0, .ref b), (1, .ref (ac 0)), (2, .ref (am 0)), (3, .int (nI j))])
    (kk : ∀ (μ' ν' : Mm) (H1 : Heap) (locs1 : List Loc), I μ' ν' → LSt s D cs ac am μ' ν' H1 locs1 → W p l e room_1 s m #[Value.ref b] below meth c H1 locs1 62 1996 Q (F0 m 1272 la [])) : W p l e room_1 s m #[Value.ref b] below meth c H locs 62 1996 Q (F0 m 416 la []) := by
  obtain ⟨q, r, eq, er, hqr, hI2⟩ := (LawOps_8 hO (xs (j + 1))) μ ν hI
  have hL := X.2.2.2.2.2.2
  refine lv_aload_n X.1.1 X.1.2.1 dL_law_416 rfl (lv_at hl 1 rfl) ?_
  refine law_arg (pc := 417) (k := 1) X S.2.2.2.2 hl (by omega) rfl dL_law_417 dL_law_418 dL_law_419 dL_law_420 dL_law_421 ?_
  refine law_callC1i (pc := 422) X S hl.1 dL_law_422 wv_L_49 cd_X8_read (S_X8_read _ _ _ eq) (by decide) (by decide) (Nat.le_of_ble_eq_true rfl) ⟨Nat.le_of_ble_eq_true rfl, Nat.le_of_ble_eq_true rfl⟩ (fun H locs S => ?_)
  refine lv_aload_n X.1.1 X.1.2.1 dL_law_425 rfl (lv_at hl 2 rfl) ?_
  refine law_arg (pc := 426) (k := 1) X S.2.2.2.2 hl (by omega) rfl dL_law_426 dL_law_427 dL_law_428 dL_law_429 dL_law_430 ?_
  refine law_callM1i (pc := 431) X S hl.1 dL_law_431 wv_L_52 cd_X9_read (S_X9_read _ _ _ er) (by decide) (by decide) (Nat.le_of_ble_eq_true rfl) ⟨Nat.le_of_ble_eq_true rfl, Nat.le_of_ble_eq_true rfl⟩ (fun H locs S => ?_)
  exact lv_icmp_eq (tgt := 1272) X.1.1 X.1.2.1 dL_law_434 (by decide) (fun _ => kk q.2 r.2 H locs hI2 S) (fun hne => absurd hqr hne)
set_option maxRecDepth 100000 in
set_option maxHeartbeats 4000000 in
/-- place -/
theorem law_9 {I : Mm → Mm → Prop} (hO : LawOps I) {p : Program} {l : Launch} {e : Env} {s : State} {m : MethodId} {below : List Frame} {meth : Method} {c : Code} {b L : Nat} {xs : Nat → Int32} {D : va_G} {cs : Cs} {ac am : Ad} {Q : State → Prop} (X : LX p s m meth c b L xs D cs ac am) {j : Nat} (hj : j + 6 ≤ L) (μ ν : Mm) (hI : I μ ν) (H : Heap) (locs : List Loc) (la : Array Slot) (S : LSt s D cs ac am μ ν H locs) (hl : lv_has la 4 [(0, .ref b), (1, .ref (ac 0)), (2, .ref (am 0)), (3, .int (nI j))])
    (kk : ∀ (μ' ν' : Mm) (H1 : Heap) (locs1 : List Loc), I μ' ν' → LSt s D cs ac am μ' ν' H1 locs1 → W p l e room_1 s m #[Value.ref b] below meth c H1 locs1 62 1996 Q (F0 m 1272 la [])) : W p l e room_1 s m #[Value.ref b] below meth c H locs 62 1996 Q (F0 m 439 la []) := by
  obtain ⟨q, r, eq, er, hqr, hI2⟩ := (LawOps_9 hO (xs (j + 1)) (xs (j + 2))) μ ν hI
  have hL := X.2.2.2.2.2.2
  refine lv_aload_n X.1.1 X.1.2.1 dL_law_439 rfl (lv_at hl 1 rfl) ?_
  refine law_arg (pc := 440) (k := 1) X S.2.2.2.2 hl (by omega) rfl dL_law_440 dL_law_441 dL_law_442 dL_law_443 dL_law_444 ?_
  refine law_arg (pc := 445) (k := 2) X S.2.2.2.2 hl (by omega) rfl dL_law_445 dL_law_446 dL_law_447 dL_law_448 dL_law_449 ?_
  refine law_callC2i (pc := 450) X S hl.1 dL_law_450 wv_L_53 cd_X8_place (S_X8_place _ _ _ _ eq) (by decide) (by decide) (Nat.le_of_ble_eq_true rfl) ⟨Nat.le_of_ble_eq_true rfl, Nat.le_of_ble_eq_true rfl⟩ (fun H locs S => ?_)
  refine lv_aload_n X.1.1 X.1.2.1 dL_law_453 rfl (lv_at hl 2 rfl) ?_
  refine law_arg (pc := 454) (k := 1) X S.2.2.2.2 hl (by omega) rfl dL_law_454 dL_law_455 dL_law_456 dL_law_457 dL_law_458 ?_
  refine law_arg (pc := 459) (k := 2) X S.2.2.2.2 hl (by omega) rfl dL_law_459 dL_law_460 dL_law_461 dL_law_462 dL_law_463 ?_
  refine law_callM2i (pc := 464) X S hl.1 dL_law_464 wv_L_56 cd_X9_place (S_X9_place _ _ _ _ er) (by decide) (by decide) (Nat.le_of_ble_eq_true rfl) ⟨Nat.le_of_ble_eq_true rfl, Nat.le_of_ble_eq_true rfl⟩ (fun H locs S => ?_)
  exact lv_icmp_eq (tgt := 1272) X.1.1 X.1.2.1 dL_law_467 (by decide) (fun _ => kk q.2 r.2 H locs hI2 S) (fun hne => absurd hqr hne)
set_option maxRecDepth 100000 in
set_option maxHeartbeats 4000000 in
/-- at -/
theorem law_10 {I : Mm → Mm → Prop} (hO : LawOps I) {p : Program} {l : Launch} {e : Env} {s : State} {m : MethodId} {below : List Frame} {meth : Method} {c : Code} {b L : Nat} {xs : Nat → Int32} {D : va_G} {cs : Cs} {ac am : Ad} {Q : State → Prop} (X : LX p s m meth c b L xs D cs ac am) {j : Nat} (hj : j + 6 ≤ L) (μ ν : Mm) (hI : I μ ν) (H : Heap) (locs : List Loc) (la : Array Slot) (S : LSt s D cs ac am μ ν H locs) (hl : lv_has la 4 [(0, .ref b), (1, .ref (ac 0)), (2, .ref (am 0)), (3, .int (nI j))])
    (kk : ∀ (μ' ν' : Mm) (H1 : Heap) (locs1 : List Loc), I μ' ν' → LSt s D cs ac am μ' ν' H1 locs1 → W p l e room_1 s m #[Value.ref b] below meth c H1 locs1 62 1996 Q (F0 m 1272 la [])) : W p l e room_1 s m #[Value.ref b] below meth c H locs 62 1996 Q (F0 m 472 la []) := by
  obtain ⟨q, r, eq, er, hqr, hI2⟩ := (LawOps_10 hO (xs (j + 1)) (xs (j + 2)) (xs (j + 3))) μ ν hI
  have hL := X.2.2.2.2.2.2
  refine lv_aload_n X.1.1 X.1.2.1 dL_law_472 rfl (lv_at hl 1 rfl) ?_
  refine law_arg (pc := 473) (k := 1) X S.2.2.2.2 hl (by omega) rfl dL_law_473 dL_law_474 dL_law_475 dL_law_476 dL_law_477 ?_
  refine law_arg (pc := 478) (k := 2) X S.2.2.2.2 hl (by omega) rfl dL_law_478 dL_law_479 dL_law_480 dL_law_481 dL_law_482 ?_
  refine law_arg (pc := 483) (k := 3) X S.2.2.2.2 hl (by omega) rfl dL_law_483 dL_law_484 dL_law_485 dL_law_486 dL_law_487 ?_
  refine law_callC3i (pc := 488) X S hl.1 dL_law_488 wv_L_57 cd_X8_at (S_X8_at _ _ _ _ _ eq) (by decide) (by decide) (Nat.le_of_ble_eq_true rfl) ⟨Nat.le_of_ble_eq_true rfl, Nat.le_of_ble_eq_true rfl⟩ (fun H locs S => ?_)
  refine lv_aload_n X.1.1 X.1.2.1 dL_law_491 rfl (lv_at hl 2 rfl) ?_
  refine law_arg (pc := 492) (k := 1) X S.2.2.2.2 hl (by omega) rfl dL_law_492 dL_law_493 dL_law_494 dL_law_495 dL_law_496 ?_
  refine law_arg (pc := 497) (k := 2) X S.2.2.2.2 hl (by omega) rfl dL_law_497 dL_law_498 dL_law_499 dL_law_500 dL_law_501 ?_
  refine law_arg (pc := 502) (k := 3) X S.2.2.2.2 hl (by omega) rfl dL_law_502 dL_law_503 dL_law_504 dL_law_505 dL_law_506 ?_
  refine law_callM3i (pc := 507) X S hl.1 dL_law_507 wv_L_60 cd_X9_at (S_X9_at _ _ _ _ _ er) (by decide) (by decide) (Nat.le_of_ble_eq_true rfl) ⟨Nat.le_of_ble_eq_true rfl, Nat.le_of_ble_eq_true rfl⟩ (fun H locs S => ?_)
  exact lv_icmp_eq (tgt := 1272) X.1.1 X.1.2.1 dL_law_510 (by decide) (fun _ => kk q.2 r.2 H locs hI2 S) (fun hne => absurd hqr hne)
set_option maxRecDepth 100000 in
set_option maxHeartbeats 4000000 in
/-- show -/
theorem law_11 {I : Mm → Mm → Prop} (hO : LawOps I) {p : Program} {l : Launch} {e : Env} {s : State} {m : MethodId} {below : List Frame} {meth : Method} {c : Code} {b L : Nat} {xs : Nat → Int32} {D : va_G} {cs : Cs} {ac am : Ad} {Q : State → Prop} (X : LX p s m meth c b L xs D cs ac am) {j : Nat} (hj : j + 6 ≤ L) (μ ν : Mm) (hI : I μ ν) (H : Heap) (locs : List Loc) (la : Array Slot) (S : LSt s D cs ac am μ ν H locs) (hl : lv_has la 4 [(0, .ref b), (1, .ref (ac 0)), (2, .ref (am 0)), (3, .int (nI j))])
    (kk : ∀ (μ' ν' : Mm) (H1 : Heap) (locs1 : List Loc), I μ' ν' → LSt s D cs ac am μ' ν' H1 locs1 → W p l e room_1 s m #[Value.ref b] below meth c H1 locs1 62 1996 Q (F0 m 1272 la [])) : W p l e room_1 s m #[Value.ref b] below meth c H locs 62 1996 Q (F0 m 515 la []) := by
  obtain ⟨q, r, eq, er, hqr, hI2⟩ := (LawOps_11 hO (xs (j + 1)) (xs (j + 2))) μ ν hI
  have hL := X.2.2.2.2.2.2
  refine lv_aload_n X.1.1 X.1.2.1 dL_law_515 rfl (lv_at hl 1 rfl) ?_
  refine law_arg (pc := 516) (k := 1) X S.2.2.2.2 hl (by omega) rfl dL_law_516 dL_law_517 dL_law_518 dL_law_519 dL_law_520 ?_
  refine law_arg (pc := 521) (k := 2) X S.2.2.2.2 hl (by omega) rfl dL_law_521 dL_law_522 dL_law_523 dL_law_524 dL_law_525 ?_
  refine law_callC2i (pc := 526) X S hl.1 dL_law_526 wv_L_61 cd_X8_show (S_X8_show _ _ _ _ eq) (by decide) (by decide) (Nat.le_of_ble_eq_true rfl) ⟨Nat.le_of_ble_eq_true rfl, Nat.le_of_ble_eq_true rfl⟩ (fun H locs S => ?_)
  refine lv_aload_n X.1.1 X.1.2.1 dL_law_529 rfl (lv_at hl 2 rfl) ?_
  refine law_arg (pc := 530) (k := 1) X S.2.2.2.2 hl (by omega) rfl dL_law_530 dL_law_531 dL_law_532 dL_law_533 dL_law_534 ?_
  refine law_arg (pc := 535) (k := 2) X S.2.2.2.2 hl (by omega) rfl dL_law_535 dL_law_536 dL_law_537 dL_law_538 dL_law_539 ?_
  refine law_callM2i (pc := 540) X S hl.1 dL_law_540 wv_L_64 cd_X9_show (S_X9_show _ _ _ _ er) (by decide) (by decide) (Nat.le_of_ble_eq_true rfl) ⟨Nat.le_of_ble_eq_true rfl, Nat.le_of_ble_eq_true rfl⟩ (fun H locs S => ?_)
  exact lv_icmp_eq (tgt := 1272) X.1.1 X.1.2.1 dL_law_543 (by decide) (fun _ => kk q.2 r.2 H locs hI2 S) (fun hne => absurd hqr hne)
set_option maxRecDepth 100000 in
set_option maxHeartbeats 4000000 in
/-- owned -/
theorem law_12 {I : Mm → Mm → Prop} (hO : LawOps I) {p : Program} {l : Launch} {e : Env} {s : State} {m : MethodId} {below : List Frame} {meth : Method} {c : Code} {b L : Nat} {xs : Nat → Int32} {D : va_G} {cs : Cs} {ac am : Ad} {Q : State → Prop} (X : LX p s m meth c b L xs D cs ac am) {j : Nat} (hj : j + 6 ≤ L) (μ ν : Mm) (hI : I μ ν) (H : Heap) (locs : List Loc) (la : Array Slot) (S : LSt s D cs ac am μ ν H locs) (hl : lv_has la 4 [(0, .ref b), (1, .ref (ac 0)), (2, .ref (am 0)), (3, .int (nI j))])
    (kk : ∀ (μ' ν' : Mm) (H1 : Heap) (locs1 : List Loc), I μ' ν' → LSt s D cs ac am μ' ν' H1 locs1 → W p l e room_1 s m #[Value.ref b] below meth c H1 locs1 62 1996 Q (F0 m 1272 la [])) : W p l e room_1 s m #[Value.ref b] below meth c H locs 62 1996 Q (F0 m 548 la []) := by
  obtain ⟨q, r, eq, er, hqr, hI2⟩ := (LawOps_12 hO (xs (j + 1))) μ ν hI
  have hL := X.2.2.2.2.2.2
  refine lv_aload_n X.1.1 X.1.2.1 dL_law_548 rfl (lv_at hl 1 rfl) ?_
  refine law_arg (pc := 549) (k := 1) X S.2.2.2.2 hl (by omega) rfl dL_law_549 dL_law_550 dL_law_551 dL_law_552 dL_law_553 ?_
  refine law_callC1i (pc := 554) X S hl.1 dL_law_554 wv_L_65 cd_X8_owned (S_X8_owned _ _ _ eq) (by decide) (by decide) (Nat.le_of_ble_eq_true rfl) ⟨Nat.le_of_ble_eq_true rfl, Nat.le_of_ble_eq_true rfl⟩ (fun H locs S => ?_)
  refine lv_aload_n X.1.1 X.1.2.1 dL_law_557 rfl (lv_at hl 2 rfl) ?_
  refine law_arg (pc := 558) (k := 1) X S.2.2.2.2 hl (by omega) rfl dL_law_558 dL_law_559 dL_law_560 dL_law_561 dL_law_562 ?_
  refine law_callM1i (pc := 563) X S hl.1 dL_law_563 wv_L_68 cd_X9_owned (S_X9_owned _ _ _ er) (by decide) (by decide) (Nat.le_of_ble_eq_true rfl) ⟨Nat.le_of_ble_eq_true rfl, Nat.le_of_ble_eq_true rfl⟩ (fun H locs S => ?_)
  exact lv_icmp_eq (tgt := 1272) X.1.1 X.1.2.1 dL_law_566 (by decide) (fun _ => kk q.2 r.2 H locs hI2 S) (fun hne => absurd hqr hne)
set_option maxRecDepth 100000 in
set_option maxHeartbeats 4000000 in
/-- champion -/
theorem law_13 {I : Mm → Mm → Prop} (hO : LawOps I) {p : Program} {l : Launch} {e : Env} {s : State} {m : MethodId} {below : List Frame} {meth : Method} {c : Code} {b L : Nat} {xs : Nat → Int32} {D : va_G} {cs : Cs} {ac am : Ad} {Q : State → Prop} (X : LX p s m meth c b L xs D cs ac am) {j : Nat} (hj : j + 6 ≤ L) (μ ν : Mm) (hI : I μ ν) (H : Heap) (locs : List Loc) (la : Array Slot) (S : LSt s D cs ac am μ ν H locs) (hl : lv_has la 4 [(0, .ref b), (1, .ref (ac 0)), (2, .ref (am 0)), (3, .int (nI j))])
    (kk : ∀ (μ' ν' : Mm) (H1 : Heap) (locs1 : List Loc), I μ' ν' → LSt s D cs ac am μ' ν' H1 locs1 → W p l e room_1 s m #[Value.ref b] below meth c H1 locs1 62 1996 Q (F0 m 1272 la [])) : W p l e room_1 s m #[Value.ref b] below meth c H locs 62 1996 Q (F0 m 571 la []) := by
  obtain ⟨q, r, eq, er, hqr, hI2⟩ := (LawOps_13 hO) μ ν hI
  have hL := X.2.2.2.2.2.2
  refine lv_aload_n X.1.1 X.1.2.1 dL_law_571 rfl (lv_at hl 1 rfl) ?_
  refine law_callC0i (pc := 572) X S hl.1 dL_law_572 wv_L_69 cd_X8_champion (S_X8_champion  _ _ eq) (by decide) (by decide) (Nat.le_of_ble_eq_true rfl) ⟨Nat.le_of_ble_eq_true rfl, Nat.le_of_ble_eq_true rfl⟩ (fun H locs S => ?_)
  refine lv_aload_n X.1.1 X.1.2.1 dL_law_575 rfl (lv_at hl 2 rfl) ?_
  refine law_callM0i (pc := 576) X S hl.1 dL_law_576 wv_L_72 cd_X9_champion (S_X9_champion  _ _ er) (by decide) (by decide) (Nat.le_of_ble_eq_true rfl) ⟨Nat.le_of_ble_eq_true rfl, Nat.le_of_ble_eq_true rfl⟩ (fun H locs S => ?_)
  exact lv_icmp_eq (tgt := 1272) X.1.1 X.1.2.1 dL_law_579 (by decide) (fun _ => kk q.2 r.2 H locs hI2 S) (fun hne => absurd hqr hne)
set_option maxRecDepth 100000 in
set_option maxHeartbeats 4000000 in
/-- best -/
theorem law_14 {I : Mm → Mm → Prop} (hO : LawOps I) {p : Program} {l : Launch} {e : Env} {s : State} {m : MethodId} {below : List Frame} {meth : Method} {c : Code} {b L : Nat} {xs : Nat → Int32} {D : va_G} {cs : Cs} {ac am : Ad} {Q : State → Prop} (X : LX p s m meth c b L xs D cs ac am) {j : Nat} (hj : j + 6 ≤ L) (μ ν : Mm) (hI : I μ ν) (H : Heap) (locs : List Loc) (la : Array Slot) (S : LSt s D cs ac am μ ν H locs) (hl : lv_has la 4 [(0, .ref b), (1, .ref (ac 0)), (2, .ref (am 0)), (3, .int (nI j))])
    (kk : ∀ (μ' ν' : Mm) (H1 : Heap) (locs1 : List Loc), I μ' ν' → LSt s D cs ac am μ' ν' H1 locs1 → W p l e room_1 s m #[Value.ref b] below meth c H1 locs1 62 1996 Q (F0 m 1272 la [])) : W p l e room_1 s m #[Value.ref b] below meth c H locs 62 1996 Q (F0 m 584 la []) := by
  obtain ⟨q, r, eq, er, hqr, hI2⟩ := (LawOps_14 hO) μ ν hI
  have hL := X.2.2.2.2.2.2
  refine lv_aload_n X.1.1 X.1.2.1 dL_law_584 rfl (lv_at hl 1 rfl) ?_
  refine law_callC0i (pc := 585) X S hl.1 dL_law_585 wv_L_73 cd_X8_best (S_X8_best  _ _ eq) (by decide) (by decide) (Nat.le_of_ble_eq_true rfl) ⟨Nat.le_of_ble_eq_true rfl, Nat.le_of_ble_eq_true rfl⟩ (fun H locs S => ?_)
  refine lv_aload_n X.1.1 X.1.2.1 dL_law_588 rfl (lv_at hl 2 rfl) ?_
  refine law_callM0i (pc := 589) X S hl.1 dL_law_589 wv_L_76 cd_X9_best (S_X9_best  _ _ er) (by decide) (by decide) (Nat.le_of_ble_eq_true rfl) ⟨Nat.le_of_ble_eq_true rfl, Nat.le_of_ble_eq_true rfl⟩ (fun H locs S => ?_)
  exact lv_icmp_eq (tgt := 1272) X.1.1 X.1.2.1 dL_law_592 (by decide) (fun _ => kk q.2 r.2 H locs hI2 S) (fun hne => absurd hqr hne)
set_option maxRecDepth 100000 in
set_option maxHeartbeats 4000000 in
/-- left -/
theorem law_15 {I : Mm → Mm → Prop} (hO : LawOps I) {p : Program} {l : Launch} {e : Env} {s : State} {m : MethodId} {below : List Frame} {meth : Method} {c : Code} {b L : Nat} {xs : Nat → Int32} {D : va_G} {cs : Cs} {ac am : Ad} {Q : State → Prop} (X : LX p s m meth c b L xs D cs ac am) {j : Nat} (hj : j + 6 ≤ L) (μ ν : Mm) (hI : I μ ν) (H : Heap) (locs : List Loc) (la : Array Slot) (S : LSt s D cs ac am μ ν H locs) (hl : lv_has la 4 [(0, .ref b), (1, .ref (ac 0)), (2, .ref (am 0)), (3, .int (nI j))])
    (kk : ∀ (μ' ν' : Mm) (H1 : Heap) (locs1 : List Loc), I μ' ν' → LSt s D cs ac am μ' ν' H1 locs1 → W p l e room_1 s m #[Value.ref b] below meth c H1 locs1 62 1996 Q (F0 m 1272 la [])) : W p l e room_1 s m #[Value.ref b] below meth c H locs 62 1996 Q (F0 m 597 la []) := by
  obtain ⟨q, r, eq, er, hqr, hI2⟩ := (LawOps_15 hO (xs (j + 1))) μ ν hI
  have hL := X.2.2.2.2.2.2
  refine lv_aload_n X.1.1 X.1.2.1 dL_law_597 rfl (lv_at hl 1 rfl) ?_
  refine law_arg (pc := 598) (k := 1) X S.2.2.2.2 hl (by omega) rfl dL_law_598 dL_law_599 dL_law_600 dL_law_601 dL_law_602 ?_
  refine law_callC1i (pc := 603) X S hl.1 dL_law_603 wv_L_77 cd_X8_left (S_X8_left _ _ _ eq) (by decide) (by decide) (Nat.le_of_ble_eq_true rfl) ⟨Nat.le_of_ble_eq_true rfl, Nat.le_of_ble_eq_true rfl⟩ (fun H locs S => ?_)
  refine lv_aload_n X.1.1 X.1.2.1 dL_law_606 rfl (lv_at hl 2 rfl) ?_
  refine law_arg (pc := 607) (k := 1) X S.2.2.2.2 hl (by omega) rfl dL_law_607 dL_law_608 dL_law_609 dL_law_610 dL_law_611 ?_
  refine law_callM1i (pc := 612) X S hl.1 dL_law_612 wv_L_80 cd_X9_left (S_X9_left _ _ _ er) (by decide) (by decide) (Nat.le_of_ble_eq_true rfl) ⟨Nat.le_of_ble_eq_true rfl, Nat.le_of_ble_eq_true rfl⟩ (fun H locs S => ?_)
  exact lv_icmp_eq (tgt := 1272) X.1.1 X.1.2.1 dL_law_615 (by decide) (fun _ => kk q.2 r.2 H locs hI2 S) (fun hne => absurd hqr hne)
set_option maxRecDepth 100000 in
set_option maxHeartbeats 4000000 in
/-- brush -/
theorem law_16 {I : Mm → Mm → Prop} (hO : LawOps I) {p : Program} {l : Launch} {e : Env} {s : State} {m : MethodId} {below : List Frame} {meth : Method} {c : Code} {b L : Nat} {xs : Nat → Int32} {D : va_G} {cs : Cs} {ac am : Ad} {Q : State → Prop} (X : LX p s m meth c b L xs D cs ac am) {j : Nat} (hj : j + 6 ≤ L) (μ ν : Mm) (hI : I μ ν) (H : Heap) (locs : List Loc) (la : Array Slot) (S : LSt s D cs ac am μ ν H locs) (hl : lv_has la 4 [(0, .ref b), (1, .ref (ac 0)), (2, .ref (am 0)), (3, .int (nI j))])
    (kk : ∀ (μ' ν' : Mm) (H1 : Heap) (locs1 : List Loc), I μ' ν' → LSt s D cs ac am μ' ν' H1 locs1 → W p l e room_1 s m #[Value.ref b] below meth c H1 locs1 62 1996 Q (F0 m 1272 la [])) : W p l e room_1 s m #[Value.ref b] below meth c H locs 62 1996 Q (F0 m 620 la []) := by
  obtain ⟨q, r, eq, er, hqr, hI2⟩ := (LawOps_16 hO (xs (j + 1)) (xs (j + 2))) μ ν hI
  have hL := X.2.2.2.2.2.2
  refine lv_aload_n X.1.1 X.1.2.1 dL_law_620 rfl (lv_at hl 1 rfl) ?_
  refine law_arg (pc := 621) (k := 1) X S.2.2.2.2 hl (by omega) rfl dL_law_621 dL_law_622 dL_law_623 dL_law_624 dL_law_625 ?_
  refine law_arg (pc := 626) (k := 2) X S.2.2.2.2 hl (by omega) rfl dL_law_626 dL_law_627 dL_law_628 dL_law_629 dL_law_630 ?_
  refine law_callC2i (pc := 631) X S hl.1 dL_law_631 wv_L_81 cd_X8_brush (S_X8_brush _ _ _ _ eq) (by decide) (by decide) (Nat.le_of_ble_eq_true rfl) ⟨Nat.le_of_ble_eq_true rfl, Nat.le_of_ble_eq_true rfl⟩ (fun H locs S => ?_)
  refine lv_aload_n X.1.1 X.1.2.1 dL_law_634 rfl (lv_at hl 2 rfl) ?_
  refine law_arg (pc := 635) (k := 1) X S.2.2.2.2 hl (by omega) rfl dL_law_635 dL_law_636 dL_law_637 dL_law_638 dL_law_639 ?_
  refine law_arg (pc := 640) (k := 2) X S.2.2.2.2 hl (by omega) rfl dL_law_640 dL_law_641 dL_law_642 dL_law_643 dL_law_644 ?_
  refine law_callM2i (pc := 645) X S hl.1 dL_law_645 wv_L_84 cd_X9_brush (S_X9_brush _ _ _ _ er) (by decide) (by decide) (Nat.le_of_ble_eq_true rfl) ⟨Nat.le_of_ble_eq_true rfl, Nat.le_of_ble_eq_true rfl⟩ (fun H locs S => ?_)
  exact lv_icmp_eq (tgt := 1272) X.1.1 X.1.2.1 dL_law_648 (by decide) (fun _ => kk q.2 r.2 H locs hI2 S) (fun hne => absurd hqr hne)
set_option maxRecDepth 100000 in
set_option maxHeartbeats 4000000 in
/-- rival -/
theorem law_17 {I : Mm → Mm → Prop} (hO : LawOps I) {p : Program} {l : Launch} {e : Env} {s : State} {m : MethodId} {below : List Frame} {meth : Method} {c : Code} {b L : Nat} {xs : Nat → Int32} {D : va_G} {cs : Cs} {ac am : Ad} {Q : State → Prop} (X : LX p s m meth c b L xs D cs ac am) {j : Nat} (hj : j + 6 ≤ L) (μ ν : Mm) (hI : I μ ν) (H : Heap) (locs : List Loc) (la : Array Slot) (S : LSt s D cs ac am μ ν H locs) (hl : lv_has la 4 [(0, .ref b), (1, .ref (ac 0)), (2, .ref (am 0)), (3, .int (nI j))])
    (kk : ∀ (μ' ν' : Mm) (H1 : Heap) (locs1 : List Loc), I μ' ν' → LSt s D cs ac am μ' ν' H1 locs1 → W p l e room_1 s m #[Value.ref b] below meth c H1 locs1 62 1996 Q (F0 m 1272 la [])) : W p l e room_1 s m #[Value.ref b] below meth c H locs 62 1996 Q (F0 m 653 la []) := by
  obtain ⟨q, r, eq, er, hqr, hI2⟩ := (LawOps_17 hO (xs (j + 1)) (xs (j + 2))) μ ν hI
  have hL := X.2.2.2.2.2.2
  refine lv_aload_n X.1.1 X.1.2.1 dL_law_653 rfl (lv_at hl 1 rfl) ?_
  refine law_arg (pc := 654) (k := 1) X S.2.2.2.2 hl (by omega) rfl dL_law_654 dL_law_655 dL_law_656 dL_law_657 dL_law_658 ?_
  refine law_arg (pc := 659) (k := 2) X S.2.2.2.2 hl (by omega) rfl dL_law_659 dL_law_660 dL_law_661 dL_law_662 dL_law_663 ?_
  refine law_callC2i (pc := 664) X S hl.1 dL_law_664 wv_L_85 cd_X8_rival (S_X8_rival _ _ _ _ eq) (by decide) (by decide) (Nat.le_of_ble_eq_true rfl) ⟨Nat.le_of_ble_eq_true rfl, Nat.le_of_ble_eq_true rfl⟩ (fun H locs S => ?_)
  refine lv_aload_n X.1.1 X.1.2.1 dL_law_667 rfl (lv_at hl 2 rfl) ?_
  refine law_arg (pc := 668) (k := 1) X S.2.2.2.2 hl (by omega) rfl dL_law_668 dL_law_669 dL_law_670 dL_law_671 dL_law_672 ?_
  refine law_arg (pc := 673) (k := 2) X S.2.2.2.2 hl (by omega) rfl dL_law_673 dL_law_674 dL_law_675 dL_law_676 dL_law_677 ?_
  refine law_callM2i (pc := 678) X S hl.1 dL_law_678 wv_L_88 cd_X9_rival (S_X9_rival _ _ _ _ er) (by decide) (by decide) (Nat.le_of_ble_eq_true rfl) ⟨Nat.le_of_ble_eq_true rfl, Nat.le_of_ble_eq_true rfl⟩ (fun H locs S => ?_)
  exact lv_icmp_eq (tgt := 1272) X.1.1 X.1.2.1 dL_law_681 (by decide) (fun _ => kk q.2 r.2 H locs hI2 S) (fun hne => absurd hqr hne)
set_option maxRecDepth 100000 in
set_option maxHeartbeats 4000000 in
/-- send -/
theorem law_18 {I : Mm → Mm → Prop} (hO : LawOps I) {p : Program} {l : Launch} {e : Env} {s : State} {m : MethodId} {below : List Frame} {meth : Method} {c : Code} {b L : Nat} {xs : Nat → Int32} {D : va_G} {cs : Cs} {ac am : Ad} {Q : State → Prop} (X : LX p s m meth c b L xs D cs ac am) {j : Nat} (hj : j + 6 ≤ L) (μ ν : Mm) (hI : I μ ν) (H : Heap) (locs : List Loc) (la : Array Slot) (S : LSt s D cs ac am μ ν H locs) (hl : lv_has la 4 [(0, .ref b), (1, .ref (ac 0)), (2, .ref (am 0)), (3, .int (nI j))])
    (kk : ∀ (μ' ν' : Mm) (H1 : Heap) (locs1 : List Loc), I μ' ν' → LSt s D cs ac am μ' ν' H1 locs1 → W p l e room_1 s m #[Value.ref b] below meth c H1 locs1 62 1996 Q (F0 m 1272 la [])) : W p l e room_1 s m #[Value.ref b] below meth c H locs 62 1996 Q (F0 m 686 la []) := by
  obtain ⟨q, r, eq, er, hqr, hI2⟩ := (LawOps_18 hO (xs (j + 1)) (xs (j + 2)) (xs (j + 3))) μ ν hI
  have hL := X.2.2.2.2.2.2
  refine lv_aload_n X.1.1 X.1.2.1 dL_law_686 rfl (lv_at hl 1 rfl) ?_
  refine law_arg (pc := 687) (k := 1) X S.2.2.2.2 hl (by omega) rfl dL_law_687 dL_law_688 dL_law_689 dL_law_690 dL_law_691 ?_
  refine law_arg (pc := 692) (k := 2) X S.2.2.2.2 hl (by omega) rfl dL_law_692 dL_law_693 dL_law_694 dL_law_695 dL_law_696 ?_
  refine law_arg (pc := 697) (k := 3) X S.2.2.2.2 hl (by omega) rfl dL_law_697 dL_law_698 dL_law_699 dL_law_700 dL_law_701 ?_
  refine law_callC3i (pc := 702) X S hl.1 dL_law_702 wv_L_89 cd_X8_send (S_X8_send _ _ _ _ _ eq) (by decide) (by decide) (Nat.le_of_ble_eq_true rfl) ⟨Nat.le_of_ble_eq_true rfl, Nat.le_of_ble_eq_true rfl⟩ (fun H locs S => ?_)
  refine lv_aload_n X.1.1 X.1.2.1 dL_law_705 rfl (lv_at hl 2 rfl) ?_
  refine law_arg (pc := 706) (k := 1) X S.2.2.2.2 hl (by omega) rfl dL_law_706 dL_law_707 dL_law_708 dL_law_709 dL_law_710 ?_
  refine law_arg (pc := 711) (k := 2) X S.2.2.2.2 hl (by omega) rfl dL_law_711 dL_law_712 dL_law_713 dL_law_714 dL_law_715 ?_
  refine law_arg (pc := 716) (k := 3) X S.2.2.2.2 hl (by omega) rfl dL_law_716 dL_law_717 dL_law_718 dL_law_719 dL_law_720 ?_
  refine law_callM3i (pc := 721) X S hl.1 dL_law_721 wv_L_92 cd_X9_send (S_X9_send _ _ _ _ _ er) (by decide) (by decide) (Nat.le_of_ble_eq_true rfl) ⟨Nat.le_of_ble_eq_true rfl, Nat.le_of_ble_eq_true rfl⟩ (fun H locs S => ?_)
  exact lv_icmp_eq (tgt := 1272) X.1.1 X.1.2.1 dL_law_724 (by decide) (fun _ => kk q.2 r.2 H locs hI2 S) (fun hne => absurd hqr hne)
set_option maxRecDepth 100000 in
set_option maxHeartbeats 4000000 in
/-- spare -/
theorem law_19 {I : Mm → Mm → Prop} (hO : LawOps I) {p : Program} {l : Launch} {e : Env} {s : State} {m : MethodId} {below : List Frame} {meth : Method} {c : Code} {b L : Nat} {xs : Nat → Int32} {D : va_G} {cs : Cs} {ac am : Ad} {Q : State → Prop} (X : LX p s m meth c b L xs D cs ac am) {j : Nat} (hj : j + 6 ≤ L) (μ ν : Mm) (hI : I μ ν) (H : Heap) (locs : List Loc) (la : Array Slot) (S : LSt s D cs ac am μ ν H locs) (hl : lv_has la 4 [(0, .ref b), (1, .ref (ac 0)), (2, .ref (am 0)), (3, .int (nI j))])
    (kk : ∀ (μ' ν' : Mm) (H1 : Heap) (locs1 : List Loc), I μ' ν' → LSt s D cs ac am μ' ν' H1 locs1 → W p l e room_1 s m #[Value.ref b] below meth c H1 locs1 62 1996 Q (F0 m 1272 la [])) : W p l e room_1 s m #[Value.ref b] below meth c H locs 62 1996 Q (F0 m 729 la []) := by
  obtain ⟨q, r, eq, er, hqr, hI2⟩ := (LawOps_19 hO (xs (j + 1))) μ ν hI
  have hL := X.2.2.2.2.2.2
  refine lv_aload_n X.1.1 X.1.2.1 dL_law_729 rfl (lv_at hl 1 rfl) ?_
  refine law_arg (pc := 730) (k := 1) X S.2.2.2.2 hl (by omega) rfl dL_law_730 dL_law_731 dL_law_732 dL_law_733 dL_law_734 ?_
  refine law_callC1i (pc := 735) X S hl.1 dL_law_735 wv_L_93 cd_X8_spare (S_X8_spare _ _ _ eq) (by decide) (by decide) (Nat.le_of_ble_eq_true rfl) ⟨Nat.le_of_ble_eq_true rfl, Nat.le_of_ble_eq_true rfl⟩ (fun H locs S => ?_)
  refine lv_aload_n X.1.1 X.1.2.1 dL_law_738 rfl (lv_at hl 2 rfl) ?_
  refine law_arg (pc := 739) (k := 1) X S.2.2.2.2 hl (by omega) rfl dL_law_739 dL_law_740 dL_law_741 dL_law_742 dL_law_743 ?_
  refine law_callM1i (pc := 744) X S hl.1 dL_law_744 wv_L_96 cd_X9_spare (S_X9_spare _ _ _ er) (by decide) (by decide) (Nat.le_of_ble_eq_true rfl) ⟨Nat.le_of_ble_eq_true rfl, Nat.le_of_ble_eq_true rfl⟩ (fun H locs S => ?_)
  exact lv_icmp_eq (tgt := 1272) X.1.1 X.1.2.1 dL_law_747 (by decide) (fun _ => kk q.2 r.2 H locs hI2 S) (fun hne => absurd hqr hne)
set_option maxRecDepth 100000 in
set_option maxHeartbeats 4000000 in
/-- seen -/
theorem law_20 {I : Mm → Mm → Prop} (hO : LawOps I) {p : Program} {l : Launch} {e : Env} {s : State} {m : MethodId} {below : List Frame} {meth : Method} {c : Code} {b L : Nat} {xs : Nat → Int32} {D : va_G} {cs : Cs} {ac am : Ad} {Q : State → Prop} (X : LX p s m meth c b L xs D cs ac am) {j : Nat} (hj : j + 6 ≤ L) (μ ν : Mm) (hI : I μ ν) (H : Heap) (locs : List Loc) (la : Array Slot) (S : LSt s D cs ac am μ ν H locs) (hl : lv_has la 4 [(0, .ref b), (1, .ref (ac 0)), (2, .ref (am 0)), (3, .int (nI j))])
    (kk : ∀ (μ' ν' : Mm) (H1 : Heap) (locs1 : List Loc), I μ' ν' → LSt s D cs ac am μ' ν' H1 locs1 → W p l e room_1 s m #[Value.ref b] below meth c H1 locs1 62 1996 Q (F0 m 1272 la [])) : W p l e room_1 s m #[Value.ref b] below meth c H locs 62 1996 Q (F0 m 752 la []) := by
  obtain ⟨q, r, eq, er, hqr, hI2⟩ := (LawOps_20 hO (xs (j + 1)) (xs (j + 2)) (xs (j + 3))) μ ν hI
  have hL := X.2.2.2.2.2.2
  refine lv_aload_n X.1.1 X.1.2.1 dL_law_752 rfl (lv_at hl 1 rfl) ?_
  refine law_arg (pc := 753) (k := 1) X S.2.2.2.2 hl (by omega) rfl dL_law_753 dL_law_754 dL_law_755 dL_law_756 dL_law_757 ?_
  refine law_arg (pc := 758) (k := 2) X S.2.2.2.2 hl (by omega) rfl dL_law_758 dL_law_759 dL_law_760 dL_law_761 dL_law_762 ?_
  refine law_arg (pc := 763) (k := 3) X S.2.2.2.2 hl (by omega) rfl dL_law_763 dL_law_764 dL_law_765 dL_law_766 dL_law_767 ?_
  refine law_callC3i (pc := 768) X S hl.1 dL_law_768 wv_L_97 cd_X8_seen (S_X8_seen _ _ _ _ _ eq) (by decide) (by decide) (Nat.le_of_ble_eq_true rfl) ⟨Nat.le_of_ble_eq_true rfl, Nat.le_of_ble_eq_true rfl⟩ (fun H locs S => ?_)
  refine lv_aload_n X.1.1 X.1.2.1 dL_law_771 rfl (lv_at hl 2 rfl) ?_
  refine law_arg (pc := 772) (k := 1) X S.2.2.2.2 hl (by omega) rfl dL_law_772 dL_law_773 dL_law_774 dL_law_775 dL_law_776 ?_
  refine law_arg (pc := 777) (k := 2) X S.2.2.2.2 hl (by omega) rfl dL_law_777 dL_law_778 dL_law_779 dL_law_780 dL_law_781 ?_
  refine law_arg (pc := 782) (k := 3) X S.2.2.2.2 hl (by omega) rfl dL_law_782 dL_law_783 dL_law_784 dL_law_785 dL_law_786 ?_
  refine law_callM3i (pc := 787) X S hl.1 dL_law_787 wv_L_100 cd_X9_seen (S_X9_seen _ _ _ _ _ er) (by decide) (by decide) (Nat.le_of_ble_eq_true rfl) ⟨Nat.le_of_ble_eq_true rfl, Nat.le_of_ble_eq_true rfl⟩ (fun H locs S => ?_)
  exact lv_icmp_eq (tgt := 1272) X.1.1 X.1.2.1 dL_law_790 (by decide) (fun _ => kk q.2 r.2 H locs hI2 S) (fun hne => absurd hqr hne)
set_option maxRecDepth 100000 in
set_option maxHeartbeats 4000000 in
/-- forget -/
theorem law_21 {I : Mm → Mm → Prop} (hO : LawOps I) {p : Program} {l : Launch} {e : Env} {s : State} {m : MethodId} {below : List Frame} {meth : Method} {c : Code} {b L : Nat} {xs : Nat → Int32} {D : va_G} {cs : Cs} {ac am : Ad} {Q : State → Prop} (X : LX p s m meth c b L xs D cs ac am) {j : Nat} (hj : j + 6 ≤ L) (μ ν : Mm) (hI : I μ ν) (H : Heap) (locs : List Loc) (la : Array Slot) (S : LSt s D cs ac am μ ν H locs) (hl : lv_has la 4 [(0, .ref b), (1, .ref (ac 0)), (2, .ref (am 0)), (3, .int (nI j))])
    (kk : ∀ (μ' ν' : Mm) (H1 : Heap) (locs1 : List Loc), I μ' ν' → LSt s D cs ac am μ' ν' H1 locs1 → W p l e room_1 s m #[Value.ref b] below meth c H1 locs1 62 1996 Q (F0 m 1272 la [])) : W p l e room_1 s m #[Value.ref b] below meth c H locs 62 1996 Q (F0 m 795 la []) := by
  obtain ⟨q, r, eq, er, hqr, hI2⟩ := (LawOps_21 hO) μ ν hI
  have hL := X.2.2.2.2.2.2
  refine lv_aload_n X.1.1 X.1.2.1 dL_law_795 rfl (lv_at hl 1 rfl) ?_
  refine law_callC0i (pc := 796) X S hl.1 dL_law_796 wv_L_101 cd_X8_forget (S_X8_forget  _ _ eq) (by decide) (by decide) (Nat.le_of_ble_eq_true rfl) ⟨Nat.le_of_ble_eq_true rfl, Nat.le_of_ble_eq_true rfl⟩ (fun H locs S => ?_)
  refine lv_aload_n X.1.1 X.1.2.1 dL_law_799 rfl (lv_at hl 2 rfl) ?_
  refine law_callM0i (pc := 800) X S hl.1 dL_law_800 wv_L_104 cd_X9_forget (S_X9_forget  _ _ er) (by decide) (by decide) (Nat.le_of_ble_eq_true rfl) ⟨Nat.le_of_ble_eq_true rfl, Nat.le_of_ble_eq_true rfl⟩ (fun H locs S => ?_)
  exact lv_icmp_eq (tgt := 1272) X.1.1 X.1.2.1 dL_law_803 (by decide) (fun _ => kk q.2 r.2 H locs hI2 S) (fun hne => absurd hqr hne)
set_option maxRecDepth 100000 in
set_option maxHeartbeats 4000000 in
/-- never -/
theorem law_22 {I : Mm → Mm → Prop} (hO : LawOps I) {p : Program} {l : Launch} {e : Env} {s : State} {m : MethodId} {below : List Frame} {meth : Method} {c : Code} {b L : Nat} {xs : Nat → Int32} {D : va_G} {cs : Cs} {ac am : Ad} {Q : State → Prop} (X : LX p s m meth c b L xs D cs ac am) {j : Nat} (hj : j + 6 ≤ L) (μ ν : Mm) (hI : I μ ν) (H : Heap) (locs : List Loc) (la : Array Slot) (S : LSt s D cs ac am μ ν H locs) (hl : lv_has la 4 [(0, .ref b), (1, .ref (ac 0)), (2, .ref (am 0)), (3, .int (nI j))])
    (kk : ∀ (μ' ν' : Mm) (H1 : Heap) (locs1 : List Loc), I μ' ν' → LSt s D cs ac am μ' ν' H1 locs1 → W p l e room_1 s m #[Value.ref b] below meth c H1 locs1 62 1996 Q (F0 m 1272 la [])) : W p l e room_1 s m #[Value.ref b] below meth c H locs 62 1996 Q (F0 m 808 la []) := by
  obtain ⟨q, r, eq, er, hqr, hI2⟩ := (LawOps_22 hO) μ ν hI
  have hL := X.2.2.2.2.2.2
  refine lv_aload_n X.1.1 X.1.2.1 dL_law_808 rfl (lv_at hl 1 rfl) ?_
  refine law_callC0i (pc := 809) X S hl.1 dL_law_809 wv_L_105 cd_X8_never (S_X8_never  _ _ eq) (by decide) (by decide) (Nat.le_of_ble_eq_true rfl) ⟨Nat.le_of_ble_eq_true rfl, Nat.le_of_ble_eq_true rfl⟩ (fun H locs S => ?_)
  refine lv_aload_n X.1.1 X.1.2.1 dL_law_812 rfl (lv_at hl 2 rfl) ?_
  refine law_callM0i (pc := 813) X S hl.1 dL_law_813 wv_L_108 cd_X9_never (S_X9_never  _ _ er) (by decide) (by decide) (Nat.le_of_ble_eq_true rfl) ⟨Nat.le_of_ble_eq_true rfl, Nat.le_of_ble_eq_true rfl⟩ (fun H locs S => ?_)
  exact lv_icmp_eq (tgt := 1272) X.1.1 X.1.2.1 dL_law_816 (by decide) (fun _ => kk q.2 r.2 H locs hI2 S) (fun hne => absurd hqr hne)
set_option maxRecDepth 100000 in
set_option maxHeartbeats 4000000 in
/-- looked -/
theorem law_23 {I : Mm → Mm → Prop} (hO : LawOps I) {p : Program} {l : Launch} {e : Env} {s : State} {m : MethodId} {below : List Frame} {meth : Method} {c : Code} {b L : Nat} {xs : Nat → Int32} {D : va_G} {cs : Cs} {ac am : Ad} {Q : State → Prop} (X : LX p s m meth c b L xs D cs ac am) {j : Nat} (hj : j + 6 ≤ L) (μ ν : Mm) (hI : I μ ν) (H : Heap) (locs : List Loc) (la : Array Slot) (S : LSt s D cs ac am μ ν H locs) (hl : lv_has la 4 [(0, .ref b), (1, .ref (ac 0)), (2, .ref (am 0)), (3, .int (nI j))])
    (kk : ∀ (μ' ν' : Mm) (H1 : Heap) (locs1 : List Loc), I μ' ν' → LSt s D cs ac am μ' ν' H1 locs1 → W p l e room_1 s m #[Value.ref b] below meth c H1 locs1 62 1996 Q (F0 m 1272 la [])) : W p l e room_1 s m #[Value.ref b] below meth c H locs 62 1996 Q (F0 m 821 la []) := by
  obtain ⟨q, r, eq, er, hqr, hI2⟩ := (LawOps_23 hO (xs (j + 1))) μ ν hI
  have hL := X.2.2.2.2.2.2
  refine lv_aload_n X.1.1 X.1.2.1 dL_law_821 rfl (lv_at hl 1 rfl) ?_
  refine law_arg (pc := 822) (k := 1) X S.2.2.2.2 hl (by omega) rfl dL_law_822 dL_law_823 dL_law_824 dL_law_825 dL_law_826 ?_
  refine law_callC1i (pc := 827) X S hl.1 dL_law_827 wv_L_109 cd_X8_looked (S_X8_looked _ _ _ eq) (by decide) (by decide) (Nat.le_of_ble_eq_true rfl) ⟨Nat.le_of_ble_eq_true rfl, Nat.le_of_ble_eq_true rfl⟩ (fun H locs S => ?_)
  refine lv_aload_n X.1.1 X.1.2.1 dL_law_830 rfl (lv_at hl 2 rfl) ?_
  refine law_arg (pc := 831) (k := 1) X S.2.2.2.2 hl (by omega) rfl dL_law_831 dL_law_832 dL_law_833 dL_law_834 dL_law_835 ?_
  refine law_callM1i (pc := 836) X S hl.1 dL_law_836 wv_L_112 cd_X9_looked (S_X9_looked _ _ _ er) (by decide) (by decide) (Nat.le_of_ble_eq_true rfl) ⟨Nat.le_of_ble_eq_true rfl, Nat.le_of_ble_eq_true rfl⟩ (fun H locs S => ?_)
  exact lv_icmp_eq (tgt := 1272) X.1.1 X.1.2.1 dL_law_839 (by decide) (fun _ => kk q.2 r.2 H locs hI2 S) (fun hne => absurd hqr hne)
set_option maxRecDepth 100000 in
set_option maxHeartbeats 4000000 in
/-- tastes -/
theorem law_24 {I : Mm → Mm → Prop} (hO : LawOps I) {p : Program} {l : Launch} {e : Env} {s : State} {m : MethodId} {below : List Frame} {meth : Method} {c : Code} {b L : Nat} {xs : Nat → Int32} {D : va_G} {cs : Cs} {ac am : Ad} {Q : State → Prop} (X : LX p s m meth c b L xs D cs ac am) {j : Nat} (hj : j + 6 ≤ L) (μ ν : Mm) (hI : I μ ν) (H : Heap) (locs : List Loc) (la : Array Slot) (S : LSt s D cs ac am μ ν H locs) (hl : lv_has la 4 [(0, .ref b), (1, .ref (ac 0)), (2, .ref (am 0)), (3, .int (nI j))])
    (kk : ∀ (μ' ν' : Mm) (H1 : Heap) (locs1 : List Loc), I μ' ν' → LSt s D cs ac am μ' ν' H1 locs1 → W p l e room_1 s m #[Value.ref b] below meth c H1 locs1 62 1996 Q (F0 m 1272 la [])) : W p l e room_1 s m #[Value.ref b] below meth c H locs 62 1996 Q (F0 m 844 la []) := by
  obtain ⟨q, r, eq, er, hqr, hI2⟩ := (LawOps_24 hO (xs (j + 1))) μ ν hI
  have hL := X.2.2.2.2.2.2
  refine lv_aload_n X.1.1 X.1.2.1 dL_law_844 rfl (lv_at hl 1 rfl) ?_
  refine law_arg (pc := 845) (k := 1) X S.2.2.2.2 hl (by omega) rfl dL_law_845 dL_law_846 dL_law_847 dL_law_848 dL_law_849 ?_
  refine law_callC1i (pc := 850) X S hl.1 dL_law_850 wv_L_113 cd_X8_tastes (S_X8_tastes _ _ _ eq) (by decide) (by decide) (Nat.le_of_ble_eq_true rfl) ⟨Nat.le_of_ble_eq_true rfl, Nat.le_of_ble_eq_true rfl⟩ (fun H locs S => ?_)
  refine lv_aload_n X.1.1 X.1.2.1 dL_law_853 rfl (lv_at hl 2 rfl) ?_
  refine law_arg (pc := 854) (k := 1) X S.2.2.2.2 hl (by omega) rfl dL_law_854 dL_law_855 dL_law_856 dL_law_857 dL_law_858 ?_
  refine law_callM1i (pc := 859) X S hl.1 dL_law_859 wv_L_116 cd_X9_tastes (S_X9_tastes _ _ _ er) (by decide) (by decide) (Nat.le_of_ble_eq_true rfl) ⟨Nat.le_of_ble_eq_true rfl, Nat.le_of_ble_eq_true rfl⟩ (fun H locs S => ?_)
  exact lv_icmp_eq (tgt := 1272) X.1.1 X.1.2.1 dL_law_862 (by decide) (fun _ => kk q.2 r.2 H locs hI2 S) (fun hne => absurd hqr hne)
set_option maxRecDepth 100000 in
set_option maxHeartbeats 4000000 in
/-- ask -/
theorem law_25 {I : Mm → Mm → Prop} (hO : LawOps I) {p : Program} {l : Launch} {e : Env} {s : State} {m : MethodId} {below : List Frame} {meth : Method} {c : Code} {b L : Nat} {xs : Nat → Int32} {D : va_G} {cs : Cs} {ac am : Ad} {Q : State → Prop} (X : LX p s m meth c b L xs D cs ac am) {j : Nat} (hj : j + 6 ≤ L) (μ ν : Mm) (hI : I μ ν) (H : Heap) (locs : List Loc) (la : Array Slot) (S : LSt s D cs ac am μ ν H locs) (hl : lv_has la 4 [(0, .ref b), (1, .ref (ac 0)), (2, .ref (am 0)), (3, .int (nI j))])
    (kk : ∀ (μ' ν' : Mm) (H1 : Heap) (locs1 : List Loc), I μ' ν' → LSt s D cs ac am μ' ν' H1 locs1 → W p l e room_1 s m #[Value.ref b] below meth c H1 locs1 62 1996 Q (F0 m 1272 la [])) : W p l e room_1 s m #[Value.ref b] below meth c H locs 62 1996 Q (F0 m 867 la []) := by
  obtain ⟨q, r, eq, er, hqr, hI2⟩ := (LawOps_25 hO (xs (j + 1))) μ ν hI
  have hL := X.2.2.2.2.2.2
  refine lv_aload_n X.1.1 X.1.2.1 dL_law_867 rfl (lv_at hl 1 rfl) ?_
  refine law_arg (pc := 868) (k := 1) X S.2.2.2.2 hl (by omega) rfl dL_law_868 dL_law_869 dL_law_870 dL_law_871 dL_law_872 ?_
  refine law_callC1i (pc := 873) X S hl.1 dL_law_873 wv_L_117 cd_X8_ask (S_X8_ask _ _ _ eq) (by decide) (by decide) (Nat.le_of_ble_eq_true rfl) ⟨Nat.le_of_ble_eq_true rfl, Nat.le_of_ble_eq_true rfl⟩ (fun H locs S => ?_)
  refine lv_aload_n X.1.1 X.1.2.1 dL_law_876 rfl (lv_at hl 2 rfl) ?_
  refine law_arg (pc := 877) (k := 1) X S.2.2.2.2 hl (by omega) rfl dL_law_877 dL_law_878 dL_law_879 dL_law_880 dL_law_881 ?_
  refine law_callM1i (pc := 882) X S hl.1 dL_law_882 wv_L_120 cd_X9_ask (S_X9_ask _ _ _ er) (by decide) (by decide) (Nat.le_of_ble_eq_true rfl) ⟨Nat.le_of_ble_eq_true rfl, Nat.le_of_ble_eq_true rfl⟩ (fun H locs S => ?_)
  exact lv_icmp_eq (tgt := 1272) X.1.1 X.1.2.1 dL_law_885 (by decide) (fun _ => kk q.2 r.2 H locs hI2 S) (fun hne => absurd hqr hne)
set_option maxRecDepth 100000 in
set_option maxHeartbeats 4000000 in
/-- chance -/
theorem law_26 {I : Mm → Mm → Prop} (hO : LawOps I) {p : Program} {l : Launch} {e : Env} {s : State} {m : MethodId} {below : List Frame} {meth : Method} {c : Code} {b L : Nat} {xs : Nat → Int32} {D : va_G} {cs : Cs} {ac am : Ad} {Q : State → Prop} (X : LX p s m meth c b L xs D cs ac am) {j : Nat} (hj : j + 6 ≤ L) (μ ν : Mm) (hI : I μ ν) (H : Heap) (locs : List Loc) (la : Array Slot) (S : LSt s D cs ac am μ ν H locs) (hl : lv_has la 4 [(0, .ref b), (1, .ref (ac 0)), (2, .ref (am 0)), (3, .int (nI j))])
    (kk : ∀ (μ' ν' : Mm) (H1 : Heap) (locs1 : List Loc), I μ' ν' → LSt s D cs ac am μ' ν' H1 locs1 → W p l e room_1 s m #[Value.ref b] below meth c H1 locs1 62 1996 Q (F0 m 1272 la [])) : W p l e room_1 s m #[Value.ref b] below meth c H locs 62 1996 Q (F0 m 890 la []) := by
  obtain ⟨q, r, eq, er, hqr, hI2⟩ := (LawOps_26 hO (xs (j + 1)) (xs (j + 2)) (xs (j + 3))) μ ν hI
  have hL := X.2.2.2.2.2.2
  refine lv_aload_n X.1.1 X.1.2.1 dL_law_890 rfl (lv_at hl 1 rfl) ?_
  refine law_arg (pc := 891) (k := 1) X S.2.2.2.2 hl (by omega) rfl dL_law_891 dL_law_892 dL_law_893 dL_law_894 dL_law_895 ?_
  refine law_arg (pc := 896) (k := 2) X S.2.2.2.2 hl (by omega) rfl dL_law_896 dL_law_897 dL_law_898 dL_law_899 dL_law_900 ?_
  refine law_arg (pc := 901) (k := 3) X S.2.2.2.2 hl (by omega) rfl dL_law_901 dL_law_902 dL_law_903 dL_law_904 dL_law_905 ?_
  refine law_callC3l (pc := 906) X S hl.1 dL_law_906 wv_L_121 cd_X8_chance (S_X8_chance _ _ _ _ _ eq) (by decide) (by decide) (Nat.le_of_ble_eq_true rfl) ⟨Nat.le_of_ble_eq_true rfl, Nat.le_of_ble_eq_true rfl⟩ (fun H locs S => ?_)
  refine lv_aload_n X.1.1 X.1.2.1 dL_law_909 rfl (lv_at hl 2 rfl) ?_
  refine law_arg (pc := 910) (k := 1) X S.2.2.2.2 hl (by omega) rfl dL_law_910 dL_law_911 dL_law_912 dL_law_913 dL_law_914 ?_
  refine law_arg (pc := 915) (k := 2) X S.2.2.2.2 hl (by omega) rfl dL_law_915 dL_law_916 dL_law_917 dL_law_918 dL_law_919 ?_
  refine law_arg (pc := 920) (k := 3) X S.2.2.2.2 hl (by omega) rfl dL_law_920 dL_law_921 dL_law_922 dL_law_923 dL_law_924 ?_
  refine law_callM3l (pc := 925) X S hl.1 dL_law_925 wv_L_125 cd_X9_chance (S_X9_chance _ _ _ _ _ er) (by decide) (by decide) (Nat.le_of_ble_eq_true rfl) ⟨Nat.le_of_ble_eq_true rfl, Nat.le_of_ble_eq_true rfl⟩ (fun H locs S => ?_)
  refine W.lcmp X.1.1 X.1.2.1 dL_law_928 ?_
  exact lv_if_eq (tgt := 1272) X.1.1 X.1.2.1 dL_law_929 (by decide) (fun _ => kk q.2 r.2 H locs hI2 S) (fun hne => absurd (by rw [hqr]; simp [lg_cmp]) hne)
set_option maxRecDepth 100000 in
set_option maxHeartbeats 4000000 in
/-- years -/
theorem law_27 {I : Mm → Mm → Prop} (hO : LawOps I) {p : Program} {l : Launch} {e : Env} {s : State} {m : MethodId} {below : List Frame} {meth : Method} {c : Code} {b L : Nat} {xs : Nat → Int32} {D : va_G} {cs : Cs} {ac am : Ad} {Q : State → Prop} (X : LX p s m meth c b L xs D cs ac am) {j : Nat} (hj : j + 6 ≤ L) (μ ν : Mm) (hI : I μ ν) (H : Heap) (locs : List Loc) (la : Array Slot) (S : LSt s D cs ac am μ ν H locs) (hl : lv_has la 4 [(0, .ref b), (1, .ref (ac 0)), (2, .ref (am 0)), (3, .int (nI j))])
    (kk : ∀ (μ' ν' : Mm) (H1 : Heap) (locs1 : List Loc), I μ' ν' → LSt s D cs ac am μ' ν' H1 locs1 → W p l e room_1 s m #[Value.ref b] below meth c H1 locs1 62 1996 Q (F0 m 1272 la [])) : W p l e room_1 s m #[Value.ref b] below meth c H locs 62 1996 Q (F0 m 934 la []) := by
  obtain ⟨q, r, eq, er, hqr, hI2⟩ := (LawOps_27 hO (xs (j + 1)) (xs (j + 2)) (xs (j + 3))) μ ν hI
  have hL := X.2.2.2.2.2.2
  refine lv_aload_n X.1.1 X.1.2.1 dL_law_934 rfl (lv_at hl 1 rfl) ?_
  refine law_arg (pc := 935) (k := 1) X S.2.2.2.2 hl (by omega) rfl dL_law_935 dL_law_936 dL_law_937 dL_law_938 dL_law_939 ?_
  refine law_arg (pc := 940) (k := 2) X S.2.2.2.2 hl (by omega) rfl dL_law_940 dL_law_941 dL_law_942 dL_law_943 dL_law_944 ?_
  refine law_arg (pc := 945) (k := 3) X S.2.2.2.2 hl (by omega) rfl dL_law_945 dL_law_946 dL_law_947 dL_law_948 dL_law_949 ?_
  refine law_callC3i (pc := 950) X S hl.1 dL_law_950 wv_L_126 cd_X8_years (S_X8_years _ _ _ _ _ eq) (by decide) (by decide) (Nat.le_of_ble_eq_true rfl) ⟨Nat.le_of_ble_eq_true rfl, Nat.le_of_ble_eq_true rfl⟩ (fun H locs S => ?_)
  refine lv_aload_n X.1.1 X.1.2.1 dL_law_953 rfl (lv_at hl 2 rfl) ?_
  refine law_arg (pc := 954) (k := 1) X S.2.2.2.2 hl (by omega) rfl dL_law_954 dL_law_955 dL_law_956 dL_law_957 dL_law_958 ?_
  refine law_arg (pc := 959) (k := 2) X S.2.2.2.2 hl (by omega) rfl dL_law_959 dL_law_960 dL_law_961 dL_law_962 dL_law_963 ?_
  refine law_arg (pc := 964) (k := 3) X S.2.2.2.2 hl (by omega) rfl dL_law_964 dL_law_965 dL_law_966 dL_law_967 dL_law_968 ?_
  refine law_callM3i (pc := 969) X S hl.1 dL_law_969 wv_L_129 cd_X9_years (S_X9_years _ _ _ _ _ er) (by decide) (by decide) (Nat.le_of_ble_eq_true rfl) ⟨Nat.le_of_ble_eq_true rfl, Nat.le_of_ble_eq_true rfl⟩ (fun H locs S => ?_)
  exact lv_icmp_eq (tgt := 1272) X.1.1 X.1.2.1 dL_law_972 (by decide) (fun _ => kk q.2 r.2 H locs hI2 S) (fun hne => absurd hqr hne)
set_option maxRecDepth 100000 in
set_option maxHeartbeats 4000000 in
/-- sheet -/
theorem law_28 {I : Mm → Mm → Prop} (hO : LawOps I) {p : Program} {l : Launch} {e : Env} {s : State} {m : MethodId} {below : List Frame} {meth : Method} {c : Code} {b L : Nat} {xs : Nat → Int32} {D : va_G} {cs : Cs} {ac am : Ad} {Q : State → Prop} (X : LX p s m meth c b L xs D cs ac am) {j : Nat} (hj : j + 6 ≤ L) (μ ν : Mm) (hI : I μ ν) (H : Heap) (locs : List Loc) (la : Array Slot) (S : LSt s D cs ac am μ ν H locs) (hl : lv_has la 4 [(0, .ref b), (1, .ref (ac 0)), (2, .ref (am 0)), (3, .int (nI j))])
    (kk : ∀ (μ' ν' : Mm) (H1 : Heap) (locs1 : List Loc), I μ' ν' → LSt s D cs ac am μ' ν' H1 locs1 → W p l e room_1 s m #[Value.ref b] below meth c H1 locs1 62 1996 Q (F0 m 1272 la [])) : W p l e room_1 s m #[Value.ref b] below meth c H locs 62 1996 Q (F0 m 977 la []) := by
  obtain ⟨q, r, eq, er, hqr, hI2⟩ := (LawOps_28 hO (xs (j + 1)) (xs (j + 2)) (xs (j + 3))) μ ν hI
  have hL := X.2.2.2.2.2.2
  refine lv_aload_n X.1.1 X.1.2.1 dL_law_977 rfl (lv_at hl 1 rfl) ?_
  refine law_arg (pc := 978) (k := 1) X S.2.2.2.2 hl (by omega) rfl dL_law_978 dL_law_979 dL_law_980 dL_law_981 dL_law_982 ?_
  refine law_arg (pc := 983) (k := 2) X S.2.2.2.2 hl (by omega) rfl dL_law_983 dL_law_984 dL_law_985 dL_law_986 dL_law_987 ?_
  refine law_arg (pc := 988) (k := 3) X S.2.2.2.2 hl (by omega) rfl dL_law_988 dL_law_989 dL_law_990 dL_law_991 dL_law_992 ?_
  refine law_callC3i (pc := 993) X S hl.1 dL_law_993 wv_L_130 cd_X8_sheet (S_X8_sheet _ _ _ _ _ eq) (by decide) (by decide) (Nat.le_of_ble_eq_true rfl) ⟨Nat.le_of_ble_eq_true rfl, Nat.le_of_ble_eq_true rfl⟩ (fun H locs S => ?_)
  refine lv_aload_n X.1.1 X.1.2.1 dL_law_996 rfl (lv_at hl 2 rfl) ?_
  refine law_arg (pc := 997) (k := 1) X S.2.2.2.2 hl (by omega) rfl dL_law_997 dL_law_998 dL_law_999 dL_law_1000 dL_law_1001 ?_
  refine law_arg (pc := 1002) (k := 2) X S.2.2.2.2 hl (by omega) rfl dL_law_1002 dL_law_1003 dL_law_1004 dL_law_1005 dL_law_1006 ?_
  refine law_arg (pc := 1007) (k := 3) X S.2.2.2.2 hl (by omega) rfl dL_law_1007 dL_law_1008 dL_law_1009 dL_law_1010 dL_law_1011 ?_
  refine law_callM3i (pc := 1012) X S hl.1 dL_law_1012 wv_L_133 cd_X9_sheet (S_X9_sheet _ _ _ _ _ er) (by decide) (by decide) (Nat.le_of_ble_eq_true rfl) ⟨Nat.le_of_ble_eq_true rfl, Nat.le_of_ble_eq_true rfl⟩ (fun H locs S => ?_)
  exact lv_icmp_eq (tgt := 1272) X.1.1 X.1.2.1 dL_law_1015 (by decide) (fun _ => kk q.2 r.2 H locs hI2 S) (fun hne => absurd hqr hne)
set_option maxRecDepth 100000 in
set_option maxHeartbeats 4000000 in
/-- lose -/
theorem law_29 {I : Mm → Mm → Prop} (hO : LawOps I) {p : Program} {l : Launch} {e : Env} {s : State} {m : MethodId} {below : List Frame} {meth : Method} {c : Code} {b L : Nat} {xs : Nat → Int32} {D : va_G} {cs : Cs} {ac am : Ad} {Q : State → Prop} (X : LX p s m meth c b L xs D cs ac am) {j : Nat} (hj : j + 6 ≤ L) (μ ν : Mm) (hI : I μ ν) (H : Heap) (locs : List Loc) (la : Array Slot) (S : LSt s D cs ac am μ ν H locs) (hl : lv_has la 4 [(0, .ref b), (1, .ref (ac 0)), (2, .ref (am 0)), (3, .int (nI j))])
    (kk : ∀ (μ' ν' : Mm) (H1 : Heap) (locs1 : List Loc), I μ' ν' → LSt s D cs ac am μ' ν' H1 locs1 → W p l e room_1 s m #[Value.ref b] below meth c H1 locs1 62 1996 Q (F0 m 1272 la [])) : W p l e room_1 s m #[Value.ref b] below meth c H locs 62 1996 Q (F0 m 1020 la []) := by
  obtain ⟨q, r, eq, er, hqr, hI2⟩ := (LawOps_29 hO (xs (j + 1))) μ ν hI
  have hL := X.2.2.2.2.2.2
  refine lv_aload_n X.1.1 X.1.2.1 dL_law_1020 rfl (lv_at hl 1 rfl) ?_
  refine law_arg (pc := 1021) (k := 1) X S.2.2.2.2 hl (by omega) rfl dL_law_1021 dL_law_1022 dL_law_1023 dL_law_1024 dL_law_1025 ?_
  refine law_callC1i (pc := 1026) X S hl.1 dL_law_1026 wv_L_134 cd_X8_lose (S_X8_lose _ _ _ eq) (by decide) (by decide) (Nat.le_of_ble_eq_true rfl) ⟨Nat.le_of_ble_eq_true rfl, Nat.le_of_ble_eq_true rfl⟩ (fun H locs S => ?_)
  refine lv_aload_n X.1.1 X.1.2.1 dL_law_1029 rfl (lv_at hl 2 rfl) ?_
  refine law_arg (pc := 1030) (k := 1) X S.2.2.2.2 hl (by omega) rfl dL_law_1030 dL_law_1031 dL_law_1032 dL_law_1033 dL_law_1034 ?_
  refine law_callM1i (pc := 1035) X S hl.1 dL_law_1035 wv_L_137 cd_X9_lose (S_X9_lose _ _ _ er) (by decide) (by decide) (Nat.le_of_ble_eq_true rfl) ⟨Nat.le_of_ble_eq_true rfl, Nat.le_of_ble_eq_true rfl⟩ (fun H locs S => ?_)
  exact lv_icmp_eq (tgt := 1272) X.1.1 X.1.2.1 dL_law_1038 (by decide) (fun _ => kk q.2 r.2 H locs hI2 S) (fun hne => absurd hqr hne)
set_option maxRecDepth 100000 in
set_option maxHeartbeats 4000000 in
/-- lay -/
theorem law_30 {I : Mm → Mm → Prop} (hO : LawOps I) {p : Program} {l : Launch} {e : Env} {s : State} {m : MethodId} {below : List Frame} {meth : Method} {c : Code} {b L : Nat} {xs : Nat → Int32} {D : va_G} {cs : Cs} {ac am : Ad} {Q : State → Prop} (X : LX p s m meth c b L xs D cs ac am) {j : Nat} (hj : j + 6 ≤ L) (μ ν : Mm) (hI : I μ ν) (H : Heap) (locs : List Loc) (la : Array Slot) (S : LSt s D cs ac am μ ν H locs) (hl : lv_has la 4 [(0, .ref b), (1, .ref (ac 0)), (2, .ref (am 0)), (3, .int (nI j))])
    (kk : ∀ (μ' ν' : Mm) (H1 : Heap) (locs1 : List Loc), I μ' ν' → LSt s D cs ac am μ' ν' H1 locs1 → W p l e room_1 s m #[Value.ref b] below meth c H1 locs1 62 1996 Q (F0 m 1272 la [])) : W p l e room_1 s m #[Value.ref b] below meth c H locs 62 1996 Q (F0 m 1043 la []) := by
  obtain ⟨q, r, eq, er, hqr, hI2⟩ := (LawOps_30 hO (xs (j + 1)) (xs (j + 2)) (xs (j + 3)) (xs (j + 4))) μ ν hI
  have hL := X.2.2.2.2.2.2
  refine lv_aload_n X.1.1 X.1.2.1 dL_law_1043 rfl (lv_at hl 1 rfl) ?_
  refine law_arg (pc := 1044) (k := 1) X S.2.2.2.2 hl (by omega) rfl dL_law_1044 dL_law_1045 dL_law_1046 dL_law_1047 dL_law_1048 ?_
  refine law_arg (pc := 1049) (k := 2) X S.2.2.2.2 hl (by omega) rfl dL_law_1049 dL_law_1050 dL_law_1051 dL_law_1052 dL_law_1053 ?_
  refine law_arg (pc := 1054) (k := 3) X S.2.2.2.2 hl (by omega) rfl dL_law_1054 dL_law_1055 dL_law_1056 dL_law_1057 dL_law_1058 ?_
  refine law_arg (pc := 1059) (k := 4) X S.2.2.2.2 hl (by omega) rfl dL_law_1059 dL_law_1060 dL_law_1061 dL_law_1062 dL_law_1063 ?_
  refine law_callC4i (pc := 1064) X S hl.1 dL_law_1064 wv_L_138 cd_X8_lay (S_X8_lay _ _ _ _ _ _ eq) (by decide) (by decide) (Nat.le_of_ble_eq_true rfl) ⟨Nat.le_of_ble_eq_true rfl, Nat.le_of_ble_eq_true rfl⟩ (fun H locs S => ?_)
  refine lv_aload_n X.1.1 X.1.2.1 dL_law_1067 rfl (lv_at hl 2 rfl) ?_
  refine law_arg (pc := 1068) (k := 1) X S.2.2.2.2 hl (by omega) rfl dL_law_1068 dL_law_1069 dL_law_1070 dL_law_1071 dL_law_1072 ?_
  refine law_arg (pc := 1073) (k := 2) X S.2.2.2.2 hl (by omega) rfl dL_law_1073 dL_law_1074 dL_law_1075 dL_law_1076 dL_law_1077 ?_
  refine law_arg (pc := 1078) (k := 3) X S.2.2.2.2 hl (by omega) rfl dL_law_1078 dL_law_1079 dL_law_1080 dL_law_1081 dL_law_1082 ?_
  refine law_arg (pc := 1083) (k := 4) X S.2.2.2.2 hl (by omega) rfl dL_law_1083 dL_law_1084 dL_law_1085 dL_law_1086 dL_law_1087 ?_
  refine law_callM4i (pc := 1088) X S hl.1 dL_law_1088 wv_L_142 cd_X9_lay (S_X9_lay _ _ _ _ _ _ er) (by decide) (by decide) (Nat.le_of_ble_eq_true rfl) ⟨Nat.le_of_ble_eq_true rfl, Nat.le_of_ble_eq_true rfl⟩ (fun H locs S => ?_)
  exact lv_icmp_eq (tgt := 1272) X.1.1 X.1.2.1 dL_law_1091 (by decide) (fun _ => kk q.2 r.2 H locs hI2 S) (fun hne => absurd hqr hne)
set_option maxRecDepth 100000 in
set_option maxHeartbeats 4000000 in
/-- get -/
theorem law_31 {I : Mm → Mm → Prop} (hO : LawOps I) {p : Program} {l : Launch} {e : Env} {s : State} {m : MethodId} {below : List Frame} {meth : Method} {c : Code} {b L : Nat} {xs : Nat → Int32} {D : va_G} {cs : Cs} {ac am : Ad} {Q : State → Prop} (X : LX p s m meth c b L xs D cs ac am) {j : Nat} (hj : j + 6 ≤ L) (μ ν : Mm) (hI : I μ ν) (H : Heap) (locs : List Loc) (la : Array Slot) (S : LSt s D cs ac am μ ν H locs) (hl : lv_has la 4 [(0, .ref b), (1, .ref (ac 0)), (2, .ref (am 0)), (3, .int (nI j))])
    (kk : ∀ (μ' ν' : Mm) (H1 : Heap) (locs1 : List Loc), I μ' ν' → LSt s D cs ac am μ' ν' H1 locs1 → W p l e room_1 s m #[Value.ref b] below meth c H1 locs1 62 1996 Q (F0 m 1272 la [])) : W p l e room_1 s m #[Value.ref b] below meth c H locs 62 1996 Q (F0 m 1096 la []) := by
  obtain ⟨q, r, eq, er, hqr, hI2⟩ := (LawOps_31 hO (xs (j + 1)) (xs (j + 2)) (xs (j + 3))) μ ν hI
  have hL := X.2.2.2.2.2.2
  refine lv_aload_n X.1.1 X.1.2.1 dL_law_1096 rfl (lv_at hl 1 rfl) ?_
  refine law_arg (pc := 1097) (k := 1) X S.2.2.2.2 hl (by omega) rfl dL_law_1097 dL_law_1098 dL_law_1099 dL_law_1100 dL_law_1101 ?_
  refine law_arg (pc := 1102) (k := 2) X S.2.2.2.2 hl (by omega) rfl dL_law_1102 dL_law_1103 dL_law_1104 dL_law_1105 dL_law_1106 ?_
  refine law_arg (pc := 1107) (k := 3) X S.2.2.2.2 hl (by omega) rfl dL_law_1107 dL_law_1108 dL_law_1109 dL_law_1110 dL_law_1111 ?_
  refine law_callC3i (pc := 1112) X S hl.1 dL_law_1112 wv_L_143 cd_X8_get (S_X8_get _ _ _ _ _ eq) (by decide) (by decide) (Nat.le_of_ble_eq_true rfl) ⟨Nat.le_of_ble_eq_true rfl, Nat.le_of_ble_eq_true rfl⟩ (fun H locs S => ?_)
  refine lv_aload_n X.1.1 X.1.2.1 dL_law_1115 rfl (lv_at hl 2 rfl) ?_
  refine law_arg (pc := 1116) (k := 1) X S.2.2.2.2 hl (by omega) rfl dL_law_1116 dL_law_1117 dL_law_1118 dL_law_1119 dL_law_1120 ?_
  refine law_arg (pc := 1121) (k := 2) X S.2.2.2.2 hl (by omega) rfl dL_law_1121 dL_law_1122 dL_law_1123 dL_law_1124 dL_law_1125 ?_
  refine law_arg (pc := 1126) (k := 3) X S.2.2.2.2 hl (by omega) rfl dL_law_1126 dL_law_1127 dL_law_1128 dL_law_1129 dL_law_1130 ?_
  refine law_callM3i (pc := 1131) X S hl.1 dL_law_1131 wv_L_146 cd_X9_get (S_X9_get _ _ _ _ _ er) (by decide) (by decide) (Nat.le_of_ble_eq_true rfl) ⟨Nat.le_of_ble_eq_true rfl, Nat.le_of_ble_eq_true rfl⟩ (fun H locs S => ?_)
  exact lv_icmp_eq (tgt := 1272) X.1.1 X.1.2.1 dL_law_1134 (by decide) (fun _ => kk q.2 r.2 H locs hI2 S) (fun hne => absurd hqr hne)
set_option maxRecDepth 100000 in
set_option maxHeartbeats 4000000 in
/-- copy -/
theorem law_32 {I : Mm → Mm → Prop} (hO : LawOps I) {p : Program} {l : Launch} {e : Env} {s : State} {m : MethodId} {below : List Frame} {meth : Method} {c : Code} {b L : Nat} {xs : Nat → Int32} {D : va_G} {cs : Cs} {ac am : Ad} {Q : State → Prop} (X : LX p s m meth c b L xs D cs ac am) {j : Nat} (hj : j + 6 ≤ L) (μ ν : Mm) (hI : I μ ν) (H : Heap) (locs : List Loc) (la : Array Slot) (S : LSt s D cs ac am μ ν H locs) (hl : lv_has la 4 [(0, .ref b), (1, .ref (ac 0)), (2, .ref (am 0)), (3, .int (nI j))])
    (kk : ∀ (μ' ν' : Mm) (H1 : Heap) (locs1 : List Loc), I μ' ν' → LSt s D cs ac am μ' ν' H1 locs1 → W p l e room_1 s m #[Value.ref b] below meth c H1 locs1 62 1996 Q (F0 m 1272 la [])) : W p l e room_1 s m #[Value.ref b] below meth c H locs 62 1996 Q (F0 m 1139 la []) := by
  obtain ⟨q, r, eq, er, hqr, hI2⟩ := (LawOps_32 hO (xs (j + 1)) (xs (j + 2)) (xs (j + 3)) (xs (j + 4)) (xs (j + 5))) μ ν hI
  have hL := X.2.2.2.2.2.2
  refine lv_aload_n X.1.1 X.1.2.1 dL_law_1139 rfl (lv_at hl 1 rfl) ?_
  refine law_arg (pc := 1140) (k := 1) X S.2.2.2.2 hl (by omega) rfl dL_law_1140 dL_law_1141 dL_law_1142 dL_law_1143 dL_law_1144 ?_
  refine law_arg (pc := 1145) (k := 2) X S.2.2.2.2 hl (by omega) rfl dL_law_1145 dL_law_1146 dL_law_1147 dL_law_1148 dL_law_1149 ?_
  refine law_arg (pc := 1150) (k := 3) X S.2.2.2.2 hl (by omega) rfl dL_law_1150 dL_law_1151 dL_law_1152 dL_law_1153 dL_law_1154 ?_
  refine law_arg (pc := 1155) (k := 4) X S.2.2.2.2 hl (by omega) rfl dL_law_1155 dL_law_1156 dL_law_1157 dL_law_1158 dL_law_1159 ?_
  refine law_arg (pc := 1160) (k := 5) X S.2.2.2.2 hl (by omega) rfl dL_law_1160 dL_law_1161 dL_law_1162 dL_law_1163 dL_law_1164 ?_
  refine law_callC5i (pc := 1165) X S hl.1 dL_law_1165 wv_L_147 cd_X8_copy (S_X8_copy _ _ _ _ _ _ _ eq) (by decide) (by decide) (Nat.le_of_ble_eq_true rfl) ⟨Nat.le_of_ble_eq_true rfl, Nat.le_of_ble_eq_true rfl⟩ (fun H locs S => ?_)
  refine lv_aload_n X.1.1 X.1.2.1 dL_law_1168 rfl (lv_at hl 2 rfl) ?_
  refine law_arg (pc := 1169) (k := 1) X S.2.2.2.2 hl (by omega) rfl dL_law_1169 dL_law_1170 dL_law_1171 dL_law_1172 dL_law_1173 ?_
  refine law_arg (pc := 1174) (k := 2) X S.2.2.2.2 hl (by omega) rfl dL_law_1174 dL_law_1175 dL_law_1176 dL_law_1177 dL_law_1178 ?_
  refine law_arg (pc := 1179) (k := 3) X S.2.2.2.2 hl (by omega) rfl dL_law_1179 dL_law_1180 dL_law_1181 dL_law_1182 dL_law_1183 ?_
  refine law_arg (pc := 1184) (k := 4) X S.2.2.2.2 hl (by omega) rfl dL_law_1184 dL_law_1185 dL_law_1186 dL_law_1187 dL_law_1188 ?_
  refine law_arg (pc := 1189) (k := 5) X S.2.2.2.2 hl (by omega) rfl dL_law_1189 dL_law_1190 dL_law_1191 dL_law_1192 dL_law_1193 ?_
  refine law_callM5i (pc := 1194) X S hl.1 dL_law_1194 wv_L_151 cd_X9_copy (S_X9_copy _ _ _ _ _ _ _ er) (by decide) (by decide) (Nat.le_of_ble_eq_true rfl) ⟨Nat.le_of_ble_eq_true rfl, Nat.le_of_ble_eq_true rfl⟩ (fun H locs S => ?_)
  exact lv_icmp_eq (tgt := 1272) X.1.1 X.1.2.1 dL_law_1197 (by decide) (fun _ => kk q.2 r.2 H locs hI2 S) (fun hne => absurd hqr hne)
set_option maxRecDepth 100000 in
set_option maxHeartbeats 4000000 in
/-- write -/
theorem law_33 {I : Mm → Mm → Prop} (hO : LawOps I) {p : Program} {l : Launch} {e : Env} {s : State} {m : MethodId} {below : List Frame} {meth : Method} {c : Code} {b L : Nat} {xs : Nat → Int32} {D : va_G} {cs : Cs} {ac am : Ad} {Q : State → Prop} (X : LX p s m meth c b L xs D cs ac am) {j : Nat} (hj : j + 6 ≤ L) (μ ν : Mm) (hI : I μ ν) (H : Heap) (locs : List Loc) (la : Array Slot) (S : LSt s D cs ac am μ ν H locs) (hl : lv_has la 4 [(0, .ref b), (1, .ref (ac 0)), (2, .ref (am 0)), (3, .int (nI j))])
    (kk : ∀ (μ' ν' : Mm) (H1 : Heap) (locs1 : List Loc), I μ' ν' → LSt s D cs ac am μ' ν' H1 locs1 → W p l e room_1 s m #[Value.ref b] below meth c H1 locs1 62 1996 Q (F0 m 1272 la [])) : W p l e room_1 s m #[Value.ref b] below meth c H locs 62 1996 Q (F0 m 1202 la []) := by
  obtain ⟨q, r, eq, er, hqr, hI2⟩ := (LawOps_33 hO (xs (j + 1)) (xs (j + 2))) μ ν hI
  have hL := X.2.2.2.2.2.2
  refine lv_aload_n X.1.1 X.1.2.1 dL_law_1202 rfl (lv_at hl 1 rfl) ?_
  refine law_arg (pc := 1203) (k := 1) X S.2.2.2.2 hl (by omega) rfl dL_law_1203 dL_law_1204 dL_law_1205 dL_law_1206 dL_law_1207 ?_
  refine law_arg (pc := 1208) (k := 2) X S.2.2.2.2 hl (by omega) rfl dL_law_1208 dL_law_1209 dL_law_1210 dL_law_1211 dL_law_1212 ?_
  refine law_callC2i (pc := 1213) X S hl.1 dL_law_1213 wv_L_152 cd_X8_write (S_X8_write _ _ _ _ eq) (by decide) (by decide) (Nat.le_of_ble_eq_true rfl) ⟨Nat.le_of_ble_eq_true rfl, Nat.le_of_ble_eq_true rfl⟩ (fun H locs S => ?_)
  refine lv_aload_n X.1.1 X.1.2.1 dL_law_1216 rfl (lv_at hl 2 rfl) ?_
  refine law_arg (pc := 1217) (k := 1) X S.2.2.2.2 hl (by omega) rfl dL_law_1217 dL_law_1218 dL_law_1219 dL_law_1220 dL_law_1221 ?_
  refine law_arg (pc := 1222) (k := 2) X S.2.2.2.2 hl (by omega) rfl dL_law_1222 dL_law_1223 dL_law_1224 dL_law_1225 dL_law_1226 ?_
  refine law_callM2i (pc := 1227) X S hl.1 dL_law_1227 wv_L_155 cd_X9_write (S_X9_write _ _ _ _ er) (by decide) (by decide) (Nat.le_of_ble_eq_true rfl) ⟨Nat.le_of_ble_eq_true rfl, Nat.le_of_ble_eq_true rfl⟩ (fun H locs S => ?_)
  exact lv_icmp_eq (tgt := 1272) X.1.1 X.1.2.1 dL_law_1230 (by decide) (fun _ => kk q.2 r.2 H locs hI2 S) (fun hne => absurd hqr hne)
set_option maxRecDepth 100000 in
set_option maxHeartbeats 4000000 in
/-- count -/
theorem law_34 {I : Mm → Mm → Prop} (hO : LawOps I) {p : Program} {l : Launch} {e : Env} {s : State} {m : MethodId} {below : List Frame} {meth : Method} {c : Code} {b L : Nat} {xs : Nat → Int32} {D : va_G} {cs : Cs} {ac am : Ad} {Q : State → Prop} (X : LX p s m meth c b L xs D cs ac am) {j : Nat} (hj : j + 6 ≤ L) (μ ν : Mm) (hI : I μ ν) (H : Heap) (locs : List Loc) (la : Array Slot) (S : LSt s D cs ac am μ ν H locs) (hl : lv_has la 4 [(0, .ref b), (1, .ref (ac 0)), (2, .ref (am 0)), (3, .int (nI j))])
    (kk : ∀ (μ' ν' : Mm) (H1 : Heap) (locs1 : List Loc), I μ' ν' → LSt s D cs ac am μ' ν' H1 locs1 → W p l e room_1 s m #[Value.ref b] below meth c H1 locs1 62 1996 Q (F0 m 1272 la [])) : W p l e room_1 s m #[Value.ref b] below meth c H locs 62 1996 Q (F0 m 1235 la []) := by
  obtain ⟨q, r, eq, er, hqr, hI2⟩ := (LawOps_34 hO (xs (j + 1))) μ ν hI
  have hL := X.2.2.2.2.2.2
  refine lv_aload_n X.1.1 X.1.2.1 dL_law_1235 rfl (lv_at hl 1 rfl) ?_
  refine law_arg (pc := 1236) (k := 1) X S.2.2.2.2 hl (by omega) rfl dL_law_1236 dL_law_1237 dL_law_1238 dL_law_1239 dL_law_1240 ?_
  refine law_callC1i (pc := 1241) X S hl.1 dL_law_1241 wv_L_156 cd_X8_count (S_X8_count _ _ _ eq) (by decide) (by decide) (Nat.le_of_ble_eq_true rfl) ⟨Nat.le_of_ble_eq_true rfl, Nat.le_of_ble_eq_true rfl⟩ (fun H locs S => ?_)
  refine lv_aload_n X.1.1 X.1.2.1 dL_law_1244 rfl (lv_at hl 2 rfl) ?_
  refine law_arg (pc := 1245) (k := 1) X S.2.2.2.2 hl (by omega) rfl dL_law_1245 dL_law_1246 dL_law_1247 dL_law_1248 dL_law_1249 ?_
  refine law_callM1i (pc := 1250) X S hl.1 dL_law_1250 wv_L_159 cd_X9_count (S_X9_count _ _ _ er) (by decide) (by decide) (Nat.le_of_ble_eq_true rfl) ⟨Nat.le_of_ble_eq_true rfl, Nat.le_of_ble_eq_true rfl⟩ (fun H locs S => ?_)
  exact lv_icmp_eq (tgt := 1272) X.1.1 X.1.2.1 dL_law_1253 (by decide) (fun _ => kk q.2 r.2 H locs hI2 S) (fun hne => absurd hqr hne)
set_option maxRecDepth 100000 in
set_option maxHeartbeats 4000000 in
/-- digest -/
theorem law_35 {I : Mm → Mm → Prop} (hO : LawOps I) {p : Program} {l : Launch} {e : Env} {s : State} {m : MethodId} {below : List Frame} {meth : Method} {c : Code} {b L : Nat} {xs : Nat → Int32} {D : va_G} {cs : Cs} {ac am : Ad} {Q : State → Prop} (X : LX p s m meth c b L xs D cs ac am) {j : Nat} (hj : j + 6 ≤ L) (μ ν : Mm) (hI : I μ ν) (H : Heap) (locs : List Loc) (la : Array Slot) (S : LSt s D cs ac am μ ν H locs) (hl : lv_has la 4 [(0, .ref b), (1, .ref (ac 0)), (2, .ref (am 0)), (3, .int (nI j))])
    (kk : ∀ (μ' ν' : Mm) (H1 : Heap) (locs1 : List Loc), I μ' ν' → LSt s D cs ac am μ' ν' H1 locs1 → W p l e room_1 s m #[Value.ref b] below meth c H1 locs1 62 1996 Q (F0 m 1272 la [])) : W p l e room_1 s m #[Value.ref b] below meth c H locs 62 1996 Q (F0 m 1258 la []) := by
  obtain ⟨q, r, eq, er, hqr, hI2⟩ := (LawOps_35 hO) μ ν hI
  have hL := X.2.2.2.2.2.2
  refine lv_aload_n X.1.1 X.1.2.1 dL_law_1258 rfl (lv_at hl 1 rfl) ?_
  refine law_callC0l (pc := 1259) X S hl.1 dL_law_1259 wv_L_160 cd_X8_digest (S_X8_digest  _ _ eq) (by decide) (by decide) (Nat.le_of_ble_eq_true rfl) ⟨Nat.le_of_ble_eq_true rfl, Nat.le_of_ble_eq_true rfl⟩ (fun H locs S => ?_)
  refine lv_aload_n X.1.1 X.1.2.1 dL_law_1262 rfl (lv_at hl 2 rfl) ?_
  refine law_callM0l (pc := 1263) X S hl.1 dL_law_1263 wv_L_164 cd_X9_digest (S_X9_digest  _ _ er) (by decide) (by decide) (Nat.le_of_ble_eq_true rfl) ⟨Nat.le_of_ble_eq_true rfl, Nat.le_of_ble_eq_true rfl⟩ (fun H locs S => ?_)
  refine W.lcmp X.1.1 X.1.2.1 dL_law_1266 ?_
  exact lv_if_eq (tgt := 1272) X.1.1 X.1.2.1 dL_law_1267 (by decide) (fun _ => kk q.2 r.2 H locs hI2 S) (fun hne => absurd (by rw [hqr]; simp [lg_cmp]) hne)
