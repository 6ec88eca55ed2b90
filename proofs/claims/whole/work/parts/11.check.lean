theorem tt_0 : (∀ w ∈ u_ws RX0 TX0 3, w ∈ jm_Ts gG) ∧ (∀ k, k < 3 → jm_tyc (tyX0 k) = gtc 0 k ∧ gtc 0 k < 4) ∧ Cond.instantiable RX0 3 ∈ jm_Ts gG ∧ Cond.initialized RX0 ∈ jm_Ts gG := by decide +kernel
theorem tt_1 : (∀ w ∈ u_ws RX1 TX1 5, w ∈ jm_Ts gG) ∧ (∀ k, k < 5 → jm_tyc (tyX1 k) = gtc 1 k ∧ gtc 1 k < 4) ∧ Cond.instantiable RX1 5 ∈ jm_Ts gG ∧ Cond.initialized RX1 ∈ jm_Ts gG := by decide +kernel
theorem tt_2 : (∀ w ∈ u_ws RX2 TX2 10, w ∈ jm_Ts gG) ∧ (∀ k, k < 10 → jm_tyc (tyX2 k) = gtc 2 k ∧ gtc 2 k < 4) ∧ Cond.instantiable RX2 10 ∈ jm_Ts gG ∧ Cond.initialized RX2 ∈ jm_Ts gG := by decide +kernel
theorem tt_3 : (∀ w ∈ u_ws RX3 TX3 12, w ∈ jm_Ts gG) ∧ (∀ k, k < 12 → jm_tyc (tyX3 k) = gtc 3 k ∧ gtc 3 k < 4) ∧ Cond.instantiable RX3 12 ∈ jm_Ts gG ∧ Cond.initialized RX3 ∈ jm_Ts gG := by decide +kernel
theorem tt_4 : (∀ w ∈ u_ws RX4 TX4 6, w ∈ jm_Ts gG) ∧ (∀ k, k < 6 → jm_tyc (tyX4 k) = gtc 4 k ∧ gtc 4 k < 4) ∧ Cond.instantiable RX4 6 ∈ jm_Ts gG ∧ Cond.initialized RX4 ∈ jm_Ts gG := by decide +kernel
theorem tt_5 : (∀ w ∈ u_ws RX5 TX5 3, w ∈ jm_Ts gG) ∧ (∀ k, k < 3 → jm_tyc (tyX5 k) = gtc 5 k ∧ gtc 5 k < 4) ∧ Cond.instantiable RX5 3 ∈ jm_Ts gG ∧ Cond.initialized RX5 ∈ jm_Ts gG := by decide +kernel
theorem tt_6 : (∀ w ∈ u_ws RX6 TX6 4, w ∈ jm_Ts gG) ∧ (∀ k, k < 4 → jm_tyc (tyX6 k) = gtc 6 k ∧ gtc 6 k < 4) ∧ Cond.instantiable RX6 4 ∈ jm_Ts gG ∧ Cond.initialized RX6 ∈ jm_Ts gG := by decide +kernel
theorem tt_7 : (∀ w ∈ u_ws RX7 TX7 5, w ∈ jm_Ts gG) ∧ (∀ k, k < 5 → jm_tyc (tyX7 k) = gtc 7 k ∧ gtc 7 k < 4) ∧ Cond.instantiable RX7 5 ∈ jm_Ts gG ∧ Cond.initialized RX7 ∈ jm_Ts gG := by decide +kernel
theorem tt_8 : (∀ w ∈ u_ws RX8 TX8 38, w ∈ jm_Ts gG) ∧ (∀ k, k < 38 → jm_tyc (tyX8 k) = gtc 8 k ∧ gtc 8 k < 4) ∧ Cond.instantiable RX8 38 ∈ jm_Ts gG ∧ Cond.initialized RX8 ∈ jm_Ts gG := by decide +kernel
theorem gTT : jm_TT gG := by
  intro ci r hr
  match ci, hr with
  | 0, hr => cases hr; exact ⟨tt_0.1, ⟨tyX0, fun k hk => ⟨tyX0_ok k hk, (tt_0.2.1 k hk).1, (tt_0.2.1 k hk).2⟩⟩, nmX0, tt_0.2.2.1, tt_0.2.2.2⟩
  | 1, hr => cases hr; exact ⟨tt_1.1, ⟨tyX1, fun k hk => ⟨tyX1_ok k hk, (tt_1.2.1 k hk).1, (tt_1.2.1 k hk).2⟩⟩, nmX1, tt_1.2.2.1, tt_1.2.2.2⟩
  | 2, hr => cases hr; exact ⟨tt_2.1, ⟨tyX2, fun k hk => ⟨tyX2_ok k hk, (tt_2.2.1 k hk).1, (tt_2.2.1 k hk).2⟩⟩, nmX2, tt_2.2.2.1, tt_2.2.2.2⟩
  | 3, hr => cases hr; exact ⟨tt_3.1, ⟨tyX3, fun k hk => ⟨tyX3_ok k hk, (tt_3.2.1 k hk).1, (tt_3.2.1 k hk).2⟩⟩, nmX3, tt_3.2.2.1, tt_3.2.2.2⟩
  | 4, hr => cases hr; exact ⟨tt_4.1, ⟨tyX4, fun k hk => ⟨tyX4_ok k hk, (tt_4.2.1 k hk).1, (tt_4.2.1 k hk).2⟩⟩, nmX4, tt_4.2.2.1, tt_4.2.2.2⟩
  | 5, hr => cases hr; exact ⟨tt_5.1, ⟨tyX5, fun k hk => ⟨tyX5_ok k hk, (tt_5.2.1 k hk).1, (tt_5.2.1 k hk).2⟩⟩, nmX5, tt_5.2.2.1, tt_5.2.2.2⟩
  | 6, hr => cases hr; exact ⟨tt_6.1, ⟨tyX6, fun k hk => ⟨tyX6_ok k hk, (tt_6.2.1 k hk).1, (tt_6.2.1 k hk).2⟩⟩, nmX6, tt_6.2.2.1, tt_6.2.2.2⟩
  | 7, hr => cases hr; exact ⟨tt_7.1, ⟨tyX7, fun k hk => ⟨tyX7_ok k hk, (tt_7.2.1 k hk).1, (tt_7.2.1 k hk).2⟩⟩, nmX7, tt_7.2.2.1, tt_7.2.2.2⟩
  | 8, hr => cases hr; exact ⟨tt_8.1, ⟨tyX8, fun k hk => ⟨tyX8_ok k hk, (tt_8.2.1 k hk).1, (tt_8.2.1 k hk).2⟩⟩, nmX8, tt_8.2.2.1, tt_8.2.2.2⟩
  | k + 9, hr => simp [gG, gcl] at hr
theorem v_Arc_init : jm_vc gG gm M_Arc_init.1.cls M_Arc_init.1.name M_Arc_init.2.1 (jm_rm M_Arc_init) M_Arc_init.2.2.1 k_Arc_init = true := by decide +kernel
theorem v_Arc_lay : jm_vc gG gm M_Arc_lay.1.cls M_Arc_lay.1.name M_Arc_lay.2.1 (jm_rm M_Arc_lay) M_Arc_lay.2.2.1 k_Arc_lay = true := by decide +kernel
theorem v_Arc_exists : jm_vc gG gm M_Arc_exists.1.cls M_Arc_exists.1.name M_Arc_exists.2.1 (jm_rm M_Arc_exists) M_Arc_exists.2.2.1 k_Arc_exists = true := by decide +kernel
theorem v_Arc_has : jm_vc gG gm M_Arc_has.1.cls M_Arc_has.1.name M_Arc_has.2.1 (jm_rm M_Arc_has) M_Arc_has.2.2.1 k_Arc_has = true := by decide +kernel
theorem v_Arc_ahead : jm_vc gG gm M_Arc_ahead.1.cls M_Arc_ahead.1.name M_Arc_ahead.2.1 (jm_rm M_Arc_ahead) M_Arc_ahead.2.2.1 k_Arc_ahead = true := by decide +kernel
theorem v_Asker_init : jm_vc gG gm M_Asker_init.1.cls M_Asker_init.1.name M_Asker_init.2.1 (jm_rm M_Asker_init) M_Asker_init.2.2.1 k_Asker_init = true := by decide +kernel
theorem v_Asker_takeTurn : jm_vc gG gm M_Asker_takeTurn.1.cls M_Asker_takeTurn.1.name M_Asker_takeTurn.2.1 (jm_rm M_Asker_takeTurn) M_Asker_takeTurn.2.2.1 k_Asker_takeTurn = true := by decide +kernel
theorem v_Asker_hear : jm_vc gG gm M_Asker_hear.1.cls M_Asker_hear.1.name M_Asker_hear.2.1 (jm_rm M_Asker_hear) M_Asker_hear.2.2.1 k_Asker_hear = true := by decide +kernel
theorem v_Asker_begin : jm_vc gG gm M_Asker_begin.1.cls M_Asker_begin.1.name M_Asker_begin.2.1 (jm_rm M_Asker_begin) M_Asker_begin.2.2.1 k_Asker_begin = true := by decide +kernel
theorem v_Asker_sendOwn : jm_vc gG gm M_Asker_sendOwn.1.cls M_Asker_sendOwn.1.name M_Asker_sendOwn.2.1 (jm_rm M_Asker_sendOwn) M_Asker_sendOwn.2.2.1 k_Asker_sendOwn = true := by decide +kernel
theorem v_Asker_turnTo : jm_vc gG gm M_Asker_turnTo.1.cls M_Asker_turnTo.1.name M_Asker_turnTo.2.1 (jm_rm M_Asker_turnTo) M_Asker_turnTo.2.2.1 k_Asker_turnTo = true := by decide +kernel
theorem v_Bus_init : jm_vc gG gm M_Bus_init.1.cls M_Bus_init.1.name M_Bus_init.2.1 (jm_rm M_Bus_init) M_Bus_init.2.2.1 k_Bus_init = true := by decide +kernel
theorem v_Bus_addFate : jm_vc gG gm M_Bus_addFate.1.cls M_Bus_addFate.1.name M_Bus_addFate.2.1 (jm_rm M_Bus_addFate) M_Bus_addFate.2.2.1 k_Bus_addFate = true := by decide +kernel
theorem v_Bus_takeFate : jm_vc gG gm M_Bus_takeFate.1.cls M_Bus_takeFate.1.name M_Bus_takeFate.2.1 (jm_rm M_Bus_takeFate) M_Bus_takeFate.2.2.1 k_Bus_takeFate = true := by decide +kernel
theorem v_Bus_send : jm_vc gG gm M_Bus_send.1.cls M_Bus_send.1.name M_Bus_send.2.1 (jm_rm M_Bus_send) M_Bus_send.2.2.1 k_Bus_send = true := by decide +kernel
theorem v_Bus_takeOutbox : jm_vc gG gm M_Bus_takeOutbox.1.cls M_Bus_takeOutbox.1.name M_Bus_takeOutbox.2.1 (jm_rm M_Bus_takeOutbox) M_Bus_takeOutbox.2.2.1 k_Bus_takeOutbox = true := by decide +kernel
theorem v_Bus_takeOne : jm_vc gG gm M_Bus_takeOne.1.cls M_Bus_takeOne.1.name M_Bus_takeOne.2.1 (jm_rm M_Bus_takeOne) M_Bus_takeOne.2.2.1 k_Bus_takeOne = true := by decide +kernel
theorem v_Bus_takeNextDue : jm_vc gG gm M_Bus_takeNextDue.1.cls M_Bus_takeNextDue.1.name M_Bus_takeNextDue.2.1 (jm_rm M_Bus_takeNextDue) M_Bus_takeNextDue.2.2.1 k_Bus_takeNextDue = true := by decide +kernel
theorem v_Bus_takeOut : jm_vc gG gm M_Bus_takeOut.1.cls M_Bus_takeOut.1.name M_Bus_takeOut.2.1 (jm_rm M_Bus_takeOut) M_Bus_takeOut.2.2.1 k_Bus_takeOut = true := by decide +kernel
theorem v_Crane_init : jm_vc gG gm M_Crane_init.1.cls M_Crane_init.1.name M_Crane_init.2.1 (jm_rm M_Crane_init) M_Crane_init.2.2.1 k_Crane_init = true := by decide +kernel
theorem v_Crane_addForbidden : jm_vc gG gm M_Crane_addForbidden.1.cls M_Crane_addForbidden.1.name M_Crane_addForbidden.2.1 (jm_rm M_Crane_addForbidden) M_Crane_addForbidden.2.2.1 k_Crane_addForbidden = true := by decide +kernel
theorem v_Crane_addArc : jm_vc gG gm M_Crane_addArc.1.cls M_Crane_addArc.1.name M_Crane_addArc.2.1 (jm_rm M_Crane_addArc) M_Crane_addArc.2.2.1 k_Crane_addArc = true := by decide +kernel
theorem v_Crane_closedArcsAround : jm_vc gG gm M_Crane_closedArcsAround.1.cls M_Crane_closedArcsAround.1.name M_Crane_closedArcsAround.2.1 (jm_rm M_Crane_closedArcsAround) M_Crane_closedArcsAround.2.2.1 k_Crane_closedArcsAround = true := by decide +kernel
theorem v_Crane_wants : jm_vc gG gm M_Crane_wants.1.cls M_Crane_wants.1.name M_Crane_wants.2.1 (jm_rm M_Crane_wants) M_Crane_wants.2.2.1 k_Crane_wants = true := by decide +kernel
theorem v_Crane_slew : jm_vc gG gm M_Crane_slew.1.cls M_Crane_slew.1.name M_Crane_slew.2.1 (jm_rm M_Crane_slew) M_Crane_slew.2.2.1 k_Crane_slew = true := by decide +kernel
theorem v_Crane_nextSpeed : jm_vc gG gm M_Crane_nextSpeed.1.cls M_Crane_nextSpeed.1.name M_Crane_nextSpeed.2.1 (jm_rm M_Crane_nextSpeed) M_Crane_nextSpeed.2.2.1 k_Crane_nextSpeed = true := by decide +kernel
theorem v_Crane_isBetter : jm_vc gG gm M_Crane_isBetter.1.cls M_Crane_isBetter.1.name M_Crane_isBetter.2.1 (jm_rm M_Crane_isBetter) M_Crane_isBetter.2.2.1 k_Crane_isBetter = true := by decide +kernel
theorem v_Crane_isSafe : jm_vc gG gm M_Crane_isSafe.1.cls M_Crane_isSafe.1.name M_Crane_isSafe.2.1 (jm_rm M_Crane_isSafe) M_Crane_isSafe.2.2.1 k_Crane_isSafe = true := by decide +kernel
theorem v_Crane_isOverloaded : jm_vc gG gm M_Crane_isOverloaded.1.cls M_Crane_isOverloaded.1.name M_Crane_isOverloaded.2.1 (jm_rm M_Crane_isOverloaded) M_Crane_isOverloaded.2.2.1 k_Crane_isOverloaded = true := by decide +kernel
theorem v_Crane_moveTrolley : jm_vc gG gm M_Crane_moveTrolley.1.cls M_Crane_moveTrolley.1.name M_Crane_moveTrolley.2.1 (jm_rm M_Crane_moveTrolley) M_Crane_moveTrolley.2.2.1 k_Crane_moveTrolley = true := by decide +kernel
theorem v_Crane_moveHook : jm_vc gG gm M_Crane_moveHook.1.cls M_Crane_moveHook.1.name M_Crane_moveHook.2.1 (jm_rm M_Crane_moveHook) M_Crane_moveHook.2.2.1 k_Crane_moveHook = true := by decide +kernel
theorem v_Keeper_init : jm_vc gG gm M_Keeper_init.1.cls M_Keeper_init.1.name M_Keeper_init.2.1 (jm_rm M_Keeper_init) M_Keeper_init.2.2.1 k_Keeper_init = true := by decide +kernel
theorem v_Keeper_takeTurn : jm_vc gG gm M_Keeper_takeTurn.1.cls M_Keeper_takeTurn.1.name M_Keeper_takeTurn.2.1 (jm_rm M_Keeper_takeTurn) M_Keeper_takeTurn.2.2.1 k_Keeper_takeTurn = true := by decide +kernel
theorem v_Keeper_hear : jm_vc gG gm M_Keeper_hear.1.cls M_Keeper_hear.1.name M_Keeper_hear.2.1 (jm_rm M_Keeper_hear) M_Keeper_hear.2.2.1 k_Keeper_hear = true := by decide +kernel
theorem v_Keeper_answerAsk : jm_vc gG gm M_Keeper_answerAsk.1.cls M_Keeper_answerAsk.1.name M_Keeper_answerAsk.2.1 (jm_rm M_Keeper_answerAsk) M_Keeper_answerAsk.2.2.1 k_Keeper_answerAsk = true := by decide +kernel
theorem v_Keeper_answerFree : jm_vc gG gm M_Keeper_answerFree.1.cls M_Keeper_answerFree.1.name M_Keeper_answerFree.2.1 (jm_rm M_Keeper_answerFree) M_Keeper_answerFree.2.2.1 k_Keeper_answerFree = true := by decide +kernel
theorem v_Keeper_giveTo : jm_vc gG gm M_Keeper_giveTo.1.cls M_Keeper_giveTo.1.name M_Keeper_giveTo.2.1 (jm_rm M_Keeper_giveTo) M_Keeper_giveTo.2.2.1 k_Keeper_giveTo = true := by decide +kernel
theorem v_Table_init : jm_vc gG gm M_Table_init.1.cls M_Table_init.1.name M_Table_init.2.1 (jm_rm M_Table_init) M_Table_init.2.2.1 k_Table_init = true := by decide +kernel
theorem v_Table_isFull : jm_vc gG gm M_Table_isFull.1.cls M_Table_isFull.1.name M_Table_isFull.2.1 (jm_rm M_Table_isFull) M_Table_isFull.2.2.1 k_Table_isFull = true := by decide +kernel
theorem v_Table_risesWith : jm_vc gG gm M_Table_risesWith.1.cls M_Table_risesWith.1.name M_Table_risesWith.2.1 (jm_rm M_Table_risesWith) M_Table_risesWith.2.2.1 k_Table_risesWith = true := by decide +kernel
theorem v_Table_add : jm_vc gG gm M_Table_add.1.cls M_Table_add.1.name M_Table_add.2.1 (jm_rm M_Table_add) M_Table_add.2.2.1 k_Table_add = true := by decide +kernel
theorem v_Table_at : jm_vc gG gm M_Table_at.1.cls M_Table_at.1.name M_Table_at.2.1 (jm_rm M_Table_at) M_Table_at.2.2.1 k_Table_at = true := by decide +kernel
theorem v_Table_onLineTo : jm_vc gG gm M_Table_onLineTo.1.cls M_Table_onLineTo.1.name M_Table_onLineTo.2.1 (jm_rm M_Table_onLineTo) M_Table_onLineTo.2.2.1 k_Table_onLineTo = true := by decide +kernel
theorem v_Msg_init : jm_vc gG gm M_Msg_init.1.cls M_Msg_init.1.name M_Msg_init.2.1 (jm_rm M_Msg_init) M_Msg_init.2.2.1 k_Msg_init = true := by decide +kernel
theorem v_Msg_isForAsker : jm_vc gG gm M_Msg_isForAsker.1.cls M_Msg_isForAsker.1.name M_Msg_isForAsker.2.1 (jm_rm M_Msg_isForAsker) M_Msg_isForAsker.2.2.1 k_Msg_isForAsker = true := by decide +kernel
theorem v_Msg_write : jm_vc gG gm M_Msg_write.1.cls M_Msg_write.1.name M_Msg_write.2.1 (jm_rm M_Msg_write) M_Msg_write.2.2.1 k_Msg_write = true := by decide +kernel
theorem v_Site_init : jm_vc gG gm M_Site_init.1.cls M_Site_init.1.name M_Site_init.2.1 (jm_rm M_Site_init) M_Site_init.2.2.1 k_Site_init = true := by decide +kernel
theorem v_Site_setUp : jm_vc gG gm M_Site_setUp.1.cls M_Site_setUp.1.name M_Site_setUp.2.1 (jm_rm M_Site_setUp) M_Site_setUp.2.2.1 k_Site_setUp = true := by decide +kernel
theorem v_Site_point : jm_vc gG gm M_Site_point.1.cls M_Site_point.1.name M_Site_point.2.1 (jm_rm M_Site_point) M_Site_point.2.2.1 k_Site_point = true := by decide +kernel
theorem v_Site_forbid : jm_vc gG gm M_Site_forbid.1.cls M_Site_forbid.1.name M_Site_forbid.2.1 (jm_rm M_Site_forbid) M_Site_forbid.2.2.1 k_Site_forbid = true := by decide +kernel
theorem v_Site_share : jm_vc gG gm M_Site_share.1.cls M_Site_share.1.name M_Site_share.2.1 (jm_rm M_Site_share) M_Site_share.2.2.1 k_Site_share = true := by decide +kernel
theorem v_Site_order : jm_vc gG gm M_Site_order.1.cls M_Site_order.1.name M_Site_order.2.1 (jm_rm M_Site_order) M_Site_order.2.2.1 k_Site_order = true := by decide +kernel
theorem v_Site_load : jm_vc gG gm M_Site_load.1.cls M_Site_load.1.name M_Site_load.2.1 (jm_rm M_Site_load) M_Site_load.2.2.1 k_Site_load = true := by decide +kernel
theorem v_Site_fate : jm_vc gG gm M_Site_fate.1.cls M_Site_fate.1.name M_Site_fate.2.1 (jm_rm M_Site_fate) M_Site_fate.2.2.1 k_Site_fate = true := by decide +kernel
theorem v_Site_tick : jm_vc gG gm M_Site_tick.1.cls M_Site_tick.1.name M_Site_tick.2.1 (jm_rm M_Site_tick) M_Site_tick.2.2.1 k_Site_tick = true := by decide +kernel
theorem v_Site_look : jm_vc gG gm M_Site_look.1.cls M_Site_look.1.name M_Site_look.2.1 (jm_rm M_Site_look) M_Site_look.2.2.1 k_Site_look = true := by decide +kernel
theorem v_Site_pair : jm_vc gG gm M_Site_pair.1.cls M_Site_pair.1.name M_Site_pair.2.1 (jm_rm M_Site_pair) M_Site_pair.2.2.1 k_Site_pair = true := by decide +kernel
theorem v_Site_bus : jm_vc gG gm M_Site_bus.1.cls M_Site_bus.1.name M_Site_bus.2.1 (jm_rm M_Site_bus) M_Site_bus.2.2.1 k_Site_bus = true := by decide +kernel
theorem v_Site_runOneTick : jm_vc gG gm M_Site_runOneTick.1.cls M_Site_runOneTick.1.name M_Site_runOneTick.2.1 (jm_rm M_Site_runOneTick) M_Site_runOneTick.2.2.1 k_Site_runOneTick = true := by decide +kernel
theorem v_Site_deliverDue : jm_vc gG gm M_Site_deliverDue.1.cls M_Site_deliverDue.1.name M_Site_deliverDue.2.1 (jm_rm M_Site_deliverDue) M_Site_deliverDue.2.2.1 k_Site_deliverDue = true := by decide +kernel
theorem v_Site_takeTurns : jm_vc gG gm M_Site_takeTurns.1.cls M_Site_takeTurns.1.name M_Site_takeTurns.2.1 (jm_rm M_Site_takeTurns) M_Site_takeTurns.2.2.1 k_Site_takeTurns = true := by decide +kernel
theorem v_Site_isOrder : jm_vc gG gm M_Site_isOrder.1.cls M_Site_isOrder.1.name M_Site_isOrder.2.1 (jm_rm M_Site_isOrder) M_Site_isOrder.2.2.1 k_Site_isOrder = true := by decide +kernel
theorem v_Site_isArc : jm_vc gG gm M_Site_isArc.1.cls M_Site_isArc.1.name M_Site_isArc.2.1 (jm_rm M_Site_isArc) M_Site_isArc.2.2.1 k_Site_isArc = true := by decide +kernel
theorem v_Site_isWithin : jm_vc gG gm M_Site_isWithin.1.cls M_Site_isWithin.1.name M_Site_isWithin.2.1 (jm_rm M_Site_isWithin) M_Site_isWithin.2.2.1 k_Site_isWithin = true := by decide +kernel
theorem v_Site_asNumber : jm_vc gG gm M_Site_asNumber.1.cls M_Site_asNumber.1.name M_Site_asNumber.2.1 (jm_rm M_Site_asNumber) M_Site_asNumber.2.2.1 k_Site_asNumber = true := by decide +kernel
theorem v_Mod_init : jm_vc gG gm M_Mod_init.1.cls M_Mod_init.1.name M_Mod_init.2.1 (jm_rm M_Mod_init) M_Mod_init.2.2.1 k_Mod_init = true := by decide +kernel
theorem v_Mod_thrown : jm_vc gG gm M_Mod_thrown.1.cls M_Mod_thrown.1.name M_Mod_thrown.2.1 (jm_rm M_Mod_thrown) M_Mod_thrown.2.2.1 k_Mod_thrown = true := by decide +kernel
theorem v_Mod_in : jm_vc gG gm M_Mod_in.1.cls M_Mod_in.1.name M_Mod_in.2.1 (jm_rm M_Mod_in) M_Mod_in.2.2.1 k_Mod_in = true := by decide +kernel
theorem v_Mod_says : jm_vc gG gm M_Mod_says.1.cls M_Mod_says.1.name M_Mod_says.2.1 (jm_rm M_Mod_says) M_Mod_says.2.2.1 k_Mod_says = true := by decide +kernel
theorem v_Mod_isArc : jm_vc gG gm M_Mod_isArc.1.cls M_Mod_isArc.1.name M_Mod_isArc.2.1 (jm_rm M_Mod_isArc) M_Mod_isArc.2.2.1 k_Mod_isArc = true := by decide +kernel
theorem v_Mod_setUp : jm_vc gG gm M_Mod_setUp.1.cls M_Mod_setUp.1.name M_Mod_setUp.2.1 (jm_rm M_Mod_setUp) M_Mod_setUp.2.2.1 k_Mod_setUp = true := by decide +kernel
theorem v_Mod_point : jm_vc gG gm M_Mod_point.1.cls M_Mod_point.1.name M_Mod_point.2.1 (jm_rm M_Mod_point) M_Mod_point.2.2.1 k_Mod_point = true := by decide +kernel
theorem v_Mod_forbid : jm_vc gG gm M_Mod_forbid.1.cls M_Mod_forbid.1.name M_Mod_forbid.2.1 (jm_rm M_Mod_forbid) M_Mod_forbid.2.2.1 k_Mod_forbid = true := by decide +kernel
theorem v_Mod_share : jm_vc gG gm M_Mod_share.1.cls M_Mod_share.1.name M_Mod_share.2.1 (jm_rm M_Mod_share) M_Mod_share.2.2.1 k_Mod_share = true := by decide +kernel
theorem v_Mod_order : jm_vc gG gm M_Mod_order.1.cls M_Mod_order.1.name M_Mod_order.2.1 (jm_rm M_Mod_order) M_Mod_order.2.2.1 k_Mod_order = true := by decide +kernel
theorem v_Mod_load : jm_vc gG gm M_Mod_load.1.cls M_Mod_load.1.name M_Mod_load.2.1 (jm_rm M_Mod_load) M_Mod_load.2.2.1 k_Mod_load = true := by decide +kernel
theorem v_Mod_fate : jm_vc gG gm M_Mod_fate.1.cls M_Mod_fate.1.name M_Mod_fate.2.1 (jm_rm M_Mod_fate) M_Mod_fate.2.2.1 k_Mod_fate = true := by decide +kernel
theorem v_Mod_send : jm_vc gG gm M_Mod_send.1.cls M_Mod_send.1.name M_Mod_send.2.1 (jm_rm M_Mod_send) M_Mod_send.2.2.1 k_Mod_send = true := by decide +kernel
theorem v_Mod_takes : jm_vc gG gm M_Mod_takes.1.cls M_Mod_takes.1.name M_Mod_takes.2.1 (jm_rm M_Mod_takes) M_Mod_takes.2.2.1 k_Mod_takes = true := by decide +kernel
theorem v_Mod_brings : jm_vc gG gm M_Mod_brings.1.cls M_Mod_brings.1.name M_Mod_brings.2.1 (jm_rm M_Mod_brings) M_Mod_brings.2.2.1 k_Mod_brings = true := by decide +kernel
theorem v_Mod_comes : jm_vc gG gm M_Mod_comes.1.cls M_Mod_comes.1.name M_Mod_comes.2.1 (jm_rm M_Mod_comes) M_Mod_comes.2.2.1 k_Mod_comes = true := by decide +kernel
theorem v_Mod_isIn : jm_vc gG gm M_Mod_isIn.1.cls M_Mod_isIn.1.name M_Mod_isIn.2.1 (jm_rm M_Mod_isIn) M_Mod_isIn.2.2.1 k_Mod_isIn = true := by decide +kernel
theorem v_Mod_inShared : jm_vc gG gm M_Mod_inShared.1.cls M_Mod_inShared.1.name M_Mod_inShared.2.1 (jm_rm M_Mod_inShared) M_Mod_inShared.2.2.1 k_Mod_inShared = true := by decide +kernel
theorem v_Mod_wants : jm_vc gG gm M_Mod_wants.1.cls M_Mod_wants.1.name M_Mod_wants.2.1 (jm_rm M_Mod_wants) M_Mod_wants.2.2.1 k_Mod_wants = true := by decide +kernel
theorem v_Mod_givesBack : jm_vc gG gm M_Mod_givesBack.1.cls M_Mod_givesBack.1.name M_Mod_givesBack.2.1 (jm_rm M_Mod_givesBack) M_Mod_givesBack.2.2.1 k_Mod_givesBack = true := by decide +kernel
theorem v_Mod_rights : jm_vc gG gm M_Mod_rights.1.cls M_Mod_rights.1.name M_Mod_rights.2.1 (jm_rm M_Mod_rights) M_Mod_rights.2.2.1 k_Mod_rights = true := by decide +kernel
theorem v_Mod_asks : jm_vc gG gm M_Mod_asks.1.cls M_Mod_asks.1.name M_Mod_asks.2.1 (jm_rm M_Mod_asks) M_Mod_asks.2.2.1 k_Mod_asks = true := by decide +kernel
theorem v_Mod_isShut : jm_vc gG gm M_Mod_isShut.1.cls M_Mod_isShut.1.name M_Mod_isShut.2.1 (jm_rm M_Mod_isShut) M_Mod_isShut.2.2.1 k_Mod_isShut = true := by decide +kernel
theorem v_Mod_isAhead : jm_vc gG gm M_Mod_isAhead.1.cls M_Mod_isAhead.1.name M_Mod_isAhead.2.1 (jm_rm M_Mod_isAhead) M_Mod_isAhead.2.2.1 k_Mod_isAhead = true := by decide +kernel
theorem v_Mod_isSafe : jm_vc gG gm M_Mod_isSafe.1.cls M_Mod_isSafe.1.name M_Mod_isSafe.2.1 (jm_rm M_Mod_isSafe) M_Mod_isSafe.2.2.1 k_Mod_isSafe = true := by decide +kernel
theorem v_Mod_off : jm_vc gG gm M_Mod_off.1.cls M_Mod_off.1.name M_Mod_off.2.1 (jm_rm M_Mod_off) M_Mod_off.2.2.1 k_Mod_off = true := by decide +kernel
theorem v_Mod_slews : jm_vc gG gm M_Mod_slews.1.cls M_Mod_slews.1.name M_Mod_slews.2.1 (jm_rm M_Mod_slews) M_Mod_slews.2.2.1 k_Mod_slews = true := by decide +kernel
theorem v_Mod_table : jm_vc gG gm M_Mod_table.1.cls M_Mod_table.1.name M_Mod_table.2.1 (jm_rm M_Mod_table) M_Mod_table.2.2.1 k_Mod_table = true := by decide +kernel
theorem v_Mod_isOver : jm_vc gG gm M_Mod_isOver.1.cls M_Mod_isOver.1.name M_Mod_isOver.2.1 (jm_rm M_Mod_isOver) M_Mod_isOver.2.2.1 k_Mod_isOver = true := by decide +kernel
theorem v_Mod_within : jm_vc gG gm M_Mod_within.1.cls M_Mod_within.1.name M_Mod_within.2.1 (jm_rm M_Mod_within) M_Mod_within.2.2.1 k_Mod_within = true := by decide +kernel
theorem v_Mod_moves : jm_vc gG gm M_Mod_moves.1.cls M_Mod_moves.1.name M_Mod_moves.2.1 (jm_rm M_Mod_moves) M_Mod_moves.2.2.1 k_Mod_moves = true := by decide +kernel
theorem v_Mod_tick : jm_vc gG gm M_Mod_tick.1.cls M_Mod_tick.1.name M_Mod_tick.2.1 (jm_rm M_Mod_tick) M_Mod_tick.2.2.1 k_Mod_tick = true := by decide +kernel
theorem v_Mod_closed : jm_vc gG gm M_Mod_closed.1.cls M_Mod_closed.1.name M_Mod_closed.2.1 (jm_rm M_Mod_closed) M_Mod_closed.2.2.1 k_Mod_closed = true := by decide +kernel
theorem v_Mod_look : jm_vc gG gm M_Mod_look.1.cls M_Mod_look.1.name M_Mod_look.2.1 (jm_rm M_Mod_look) M_Mod_look.2.2.1 k_Mod_look = true := by decide +kernel
theorem v_Mod_pair : jm_vc gG gm M_Mod_pair.1.cls M_Mod_pair.1.name M_Mod_pair.2.1 (jm_rm M_Mod_pair) M_Mod_pair.2.2.1 k_Mod_pair = true := by decide +kernel
theorem v_Mod_bus : jm_vc gG gm M_Mod_bus.1.cls M_Mod_bus.1.name M_Mod_bus.2.1 (jm_rm M_Mod_bus) M_Mod_bus.2.2.1 k_Mod_bus = true := by decide +kernel
theorem v_Int_signum : jm_vc gG gm M_Int_signum.1.cls M_Int_signum.1.name M_Int_signum.2.1 (jm_rm M_Int_signum) M_Int_signum.2.2.1 k_Int_signum = true := by decide +kernel
theorem v_Math_floorDiv : jm_vc gG gm M_Math_floorDiv.1.cls M_Math_floorDiv.1.name M_Math_floorDiv.2.1 (jm_rm M_Math_floorDiv) M_Math_floorDiv.2.2.1 k_Math_floorDiv = true := by decide +kernel
theorem v_Math_floorMod : jm_vc gG gm M_Math_floorMod.1.cls M_Math_floorMod.1.name M_Math_floorMod.2.1 (jm_rm M_Math_floorMod) M_Math_floorMod.2.2.1 k_Math_floorMod = true := by decide +kernel
