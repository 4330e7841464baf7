/** The boundary cases of promises 12 and 13: the five steps of a tick, and undo. */
public final class BoundaryTimeTest extends Boundaries {
    public static void main(String[] args) throws IllegalAccessException {
        runCases(BoundaryTimeTest.class, 12, 13);
    }

    // ---- promise 12: how many ticks

    static void promise12_0_ticks_and_less_are_refused() {
        refused(BAD_VALUE, Boundaries::lively, x -> x.tick(0));
        refused(BAD_VALUE, Boundaries::lively, x -> x.tick(-1));
        refused(BAD_VALUE, Boundaries::lively, x -> x.tick(LEAST));
    }

    static void promise12_1_tick_is_taken() {
        ConferenceBridges x = phones(1, 30);
        due("tick(1)", x.tick(1), 1);
        due("count(3)", x.count(3), 1);
        undoable(Boundaries::lively, y -> y.tick(1));
    }

    static void promise12_99_ticks_are_taken() {
        ConferenceBridges x = phones(1, 30);
        due("tick(99)", x.tick(99), 1);
        due("count(3)", x.count(3), 99);
        due("talk time", x.property(0, 5), 99);
        undoable(Boundaries::lively, y -> y.tick(99));
    }

    static void promise12_100_ticks_and_more_are_refused() {
        refused(BAD_VALUE, Boundaries::lively, x -> x.tick(100));
        refused(BAD_VALUE, Boundaries::lively, x -> x.tick(MOST));
    }

    static void promise12_many_ticks_are_as_many_single_ones() {
        ConferenceBridges x = lively();
        ConferenceBridges y = lively();
        for (int i = 1; i < 99; i++) {
            x.tick(1);
        }
        due("tick(1)", x.tick(1), y.tick(99));
        due("digest()", x.digest(), y.digest());
    }

    static void promise12_without_participants_there_are_no_speakers() {
        ConferenceBridges x = line(8, 4);
        due("tick(99)", x.tick(99), 0);
        due("count(3)", x.count(3), 99);
        due("count(6)", x.count(6), 0);
    }

    static void promise12_all_twenty_can_be_speakers() {
        due("tick(1)", star(60).tick(1), 20);
    }

    // ---- step 1: loudness and quiet time

    static void promise12_step1_up_by_a_half_and_down_by_an_eighth() {
        ConferenceBridges x = phones(1, 30);
        x.tick(1);
        due("up", x.loudnessBits(0), bits(512.0f));
        x.setLevel(0, 24);
        x.tick(1);
        due("down", x.loudnessBits(0), bits(480.0f));
    }

    static void promise12_step1_a_power_equal_to_the_loudness_keeps_it() {
        ConferenceBridges x = phones(1, 30);
        x.tick(1);
        x.setLevel(0, 27);
        x.tick(9);
        due("loudness", x.loudnessBits(0), bits(512.0f));
    }

    static void promise12_step1_as_loud_as_the_threshold_the_quiet_time_is_0() {
        ConferenceBridges x = phones(2, 12);
        x.setLevel(1, 13);
        x.tick(1);
        due("below it", x.property(0, 6), 1);
        due("at it", x.property(1, 6), 0);
        x.tick(1);
        due("above it", x.property(0, 6), 0);
    }

    static void promise12_step1_quiet_times_add_up_while_nobody_speaks() {
        ConferenceBridges x = phones(1, 0);
        x.tick(99);
        x.tick(99);
        due("quiet time", x.property(0, 6), 198);
    }

    // ---- step 2 has its cases at promise 9; here is its order

    static void promise12_step2_floors_are_lost_before_they_are_given_and_speakers_change_after_that() {
        ConferenceBridges x = phones(2, 30);
        x.setFloor(true, 1, 10, 1);
        x.request(0, 1);
        x.tick(1);
        x.request(1, 1);
        x.tick(1);
        dueEvent(x, 5, 2, 0, 1);
        dueEvent(x, 4, 1, 0, 1);
        dueEvent(x, 3, 4, 0, 2);
        dueEvent(x, 2, 2, 1, 2);
        dueEvent(x, 1, 5, 0, 2);
        dueEvent(x, 0, 1, 1, 2);
    }

    // ---- step 3: who speaks

    static void promise12_step3a_quiet_as_long_as_the_hang_it_speaks() {
        ConferenceBridges x = phones(1, 13);
        x.tick(1);
        x.setLevel(0, 0);
        due("quiet time 3", x.tick(3), 1);
        due("quiet time 4", x.tick(1), 0);
        dueEvent(x, 0, 5, 0, 5);
        due("talk time", x.property(0, 5), 4);
    }

    static void promise12_step3a_several_are_dropped_in_the_order_of_their_numbers() {
        ConferenceBridges x = phones(3, 30);
        x.setLevel(0, 27);
        x.setSelection(3, 10, 6, 3);
        x.tick(1);
        for (int p = 0; p < 3; p++) {
            x.setMuted(p, true);
        }
        due("tick(1)", x.tick(1), 0);
        for (int p = 0; p < 3; p++) {
            dueEvent(x, 2 - p, 5, p, 2);
        }
    }

    static void promise12_step3b_the_least_loud_are_dropped_of_several_the_greatest_number() {
        ConferenceBridges x = phones(4, 30);
        x.setLevel(1, 27);
        x.setSelection(4, 10, 6, 3);
        due("tick(1)", x.tick(1), 4);
        x.setSelection(1, 10, 16, 3);
        due("tick(1)", x.tick(1), 1);
        dueEvent(x, 2, 5, 1, 2);
        dueEvent(x, 1, 5, 3, 2);
        dueEvent(x, 0, 5, 2, 2);
    }

    static void promise12_step3b_as_many_as_allowed_stay() {
        ConferenceBridges x = phones(3, 30);
        x.setSelection(4, 10, 6, 3);
        x.tick(1);
        x.setSelection(3, 10, 6, 3);
        due("tick(1)", x.tick(1), 3);
        due("count(6)", x.count(6), 3);
    }

    static void promise12_step3c_the_loudest_becomes_a_speaker_first_of_several_the_lowest_number() {
        ConferenceBridges x = phones(4, 30);
        x.setLevel(2, 33);
        x.setSelection(3, 10, 16, 3);
        due("tick(1)", x.tick(1), 3);
        dueEvent(x, 2, 1, 2, 1);
        dueEvent(x, 1, 1, 0, 1);
        dueEvent(x, 0, 1, 1, 1);
    }

    static void promise12_step3c_as_loud_as_the_threshold_it_is_a_candidate() {
        due("level 13", phones(1, 13).tick(1), 1);
        due("level 12", phones(1, 12).tick(1), 0);
    }

    static void promise12_step3c_a_speaker_of_another_bridge_is_no_candidate() {
        ConferenceBridges x = line(2, 1);
        x.join(1, 0);
        x.join(0, 0);
        x.setLevel(0, 60);
        x.setLevel(1, 20);
        x.setSelection(1, 10, 4, 3);
        x.tick(1);
        x.move(0, 0);
        due("tick(1)", x.tick(1), 1);
        due("not the one that moved", x.property(0, 4), 0);
        due("tick(1)", x.tick(1), 1);
        due("then it is", x.property(0, 4), 1);
    }

    static void promise12_step3d_as_loud_as_needed_is_not_enough() {
        ConferenceBridges x = phones(1, 30);
        x.setSelection(1, 10, 6, 3);
        x.tick(40);
        x.join(0, 0);
        x.setLevel(1, 33);
        x.tick(2);
        due("1536 is 1024 * 6 / 4", x.property(1, 4), 0);
        x.tick(1);
        due("1792 is more", x.property(1, 4), 1);
        dueEvent(x, 1, 5, 0, 43);
        dueEvent(x, 0, 1, 1, 43);
    }

    static void promise12_step3d_the_loudest_against_the_least_loud_of_several_the_lowest_and_the_greatest_number() {
        ConferenceBridges x = phones(6, 0);
        x.setSelection(3, 10, 6, 3);
        x.setLevel(0, 27);
        x.setLevel(1, 24);
        x.setLevel(2, 24);
        x.tick(1);
        x.setLevel(3, 33);
        x.setLevel(4, 36);
        x.setLevel(5, 36);
        due("tick(1)", x.tick(1), 3);
        dueEvent(x, 1, 5, 2, 2);
        dueEvent(x, 0, 1, 4, 2);
    }

    static void promise12_step3d_is_done_once_in_a_tick() {
        ConferenceBridges x = phones(4, 24);
        x.tick(1);
        x.setLevel(2, 60);
        x.setLevel(3, 60);
        x.tick(1);
        due("one of them", x.property(2, 4) * 10 + x.property(3, 4), 10);
        x.tick(1);
        due("both", x.property(2, 4) * 10 + x.property(3, 4), 11);
    }

    static void promise12_step3d_is_done_at_each_bridge() {
        ConferenceBridges x = line(2, 1);
        x.setSelection(1, 10, 6, 3);
        for (int p = 0; p < 4; p++) {
            x.join(p % 2, 0);
            x.setLevel(p, p < 2 ? 24 : 0);
        }
        x.tick(1);
        x.setLevel(2, 60);
        x.setLevel(3, 60);
        due("tick(1)", x.tick(1), 2);
        dueEvent(x, 3, 5, 0, 2);
        dueEvent(x, 2, 1, 2, 2);
        dueEvent(x, 1, 5, 1, 2);
        dueEvent(x, 0, 1, 3, 2);
    }

    static void promise12_step3d_with_room_nobody_is_dropped() {
        ConferenceBridges x = phones(2, 24);
        x.setLevel(1, 0);
        x.tick(1);
        x.setLevel(1, 60);
        due("tick(1)", x.tick(1), 2);
        due("count(6)", x.count(6), 2);
    }

    static void promise12_step3_talk_time_is_that_of_the_speakers_that_there_are_then() {
        ConferenceBridges x = phones(2, 24);
        x.setSelection(1, 10, 4, 3);
        x.tick(3);
        x.setLevel(1, 60);
        x.tick(1);
        due("the one that was dropped", x.property(0, 5), 3);
        due("the one that came", x.property(1, 5), 1);
    }

    static void promise12_step3_bridges_select_in_ascending_order() {
        ConferenceBridges x = line(3, 1);
        for (int p = 0; p < 3; p++) {
            x.join(2 - p, 0);
            x.setLevel(p, 30);
        }
        due("tick(1)", x.tick(1), 3);
        for (int p = 0; p < 3; p++) {
            dueEvent(x, p, 1, p, 1);
        }
    }

    // ---- step 4: who hears whom

    static void promise12_step4_nobody_hears_itself() {
        ConferenceBridges x = phones(1, 30);
        x.tick(5);
        due("property(0, 8)", x.property(0, 8), 0);
        due("mixBits(0)", x.mixBits(0), 0);
    }

    static void promise12_step4_its_own_stream_that_comes_after_it_is_not_heard() {
        ConferenceBridges x = line(2, 1);
        x.join(0, 0);
        x.setLevel(0, 30);
        x.tick(2);
        x.setMuted(0, true);
        x.move(0, 1);
        x.tick(1);
        due("property(0, 8)", x.property(0, 8), 0);
        due("mixBits(0)", x.mixBits(0), 0);
    }

    static void promise12_step4_at_the_bridge_at_once_over_a_link_a_tick_later() {
        ConferenceBridges x = phones(2, 0);
        x.addBridge(0, 1, false);
        x.join(1, 0);
        x.setLevel(0, 30);
        x.tick(1);
        due("at the bridge", x.mixBits(1), bits(512.0f));
        due("over the link", x.mixBits(2), 0);
        x.tick(1);
        due("at the bridge", x.mixBits(1), bits(768.0f));
        due("over the link", x.mixBits(2), bits(512.0f));
    }

    static void promise12_step4_one_that_is_muted_hears() {
        ConferenceBridges x = phones(2, 30);
        x.setMuted(1, true);
        x.tick(1);
        due("hears(1, 0)", x.hears(1, 0), 1);
    }

    static void promise12_step4_of_two_streams_of_a_speaker_the_one_with_the_least_age_is_heard() {
        ConferenceBridges x = line(2, 1);
        x.join(0, 0);
        x.join(1, 0);
        x.setLevel(0, 30);
        x.tick(1);
        x.move(0, 1);
        x.tick(1);
        due("the stream that has arrived has 512, its own one", x.mixBits(1), bits(768.0f));
        due("property(1, 8)", x.property(1, 8), 1);
    }

    static void promise12_step4_all_others_are_heard_where_all_streams_meet() {
        ConferenceBridges x = star(60);
        x.tick(40);
        x.tick(1);
        due("at bridge 0", x.property(0, 8), 19);
        due("mix", x.mixBits(0), bits(19 * 1048576.0f));
        due("at bridge 1", x.property(1, 8), 7);
    }

    static void promise12_step4_it_remains_until_the_next_tick() {
        ConferenceBridges x = phones(2, 30);
        x.tick(1);
        x.setMuted(0, true);
        x.setLevel(0, 0);
        due("hears(1, 0)", x.hears(1, 0), 1);
        due("mixBits(1)", x.mixBits(1), bits(512.0f));
        x.tick(1);
        due("hears(1, 0)", x.hears(1, 0), 0);
        due("mixBits(1)", x.mixBits(1), 0);
    }

    // ---- step 5: what is sent

    static void promise12_step5_the_loudest_are_sent_of_several_the_lowest_number_first() {
        ConferenceBridges x = line(2, 3);
        x.setSelection(4, 10, 16, 3);
        for (int p = 0; p < 4; p++) {
            x.join(0, 0);
            x.setLevel(p, p == 2 ? 33 : 30);
        }
        x.tick(1);
        due("first", x.stream(1, 0, 0, 0), 2);
        due("second", x.stream(1, 0, 1, 0), 0);
        due("third", x.stream(1, 0, 2, 0), 1);
        due("no fourth", x.stream(1, 0, 3, 0), NONE);
    }

    static void promise12_step5_fewer_streams_than_places_are_all_sent() {
        ConferenceBridges x = line(2, 4);
        x.join(0, 0);
        x.setLevel(0, 30);
        x.tick(1);
        due("the only one", x.stream(1, 0, 0, 0), 0);
        due("no second", x.stream(1, 0, 1, 0), NONE);
    }

    static void promise12_step5_nothing_goes_back_to_where_it_came_from() {
        ConferenceBridges x = line(3, 4);
        x.join(0, 0);
        x.setLevel(0, 30);
        x.tick(9);
        due("on", x.stream(2, 1, 0, 0), 0);
        due("back from bridge 1", x.stream(0, 1, 0, 0), NONE);
        due("back from bridge 2", x.stream(1, 2, 0, 0), NONE);
    }

    static void promise12_step5_it_keeps_its_loudness_and_its_age_grows_by_1() {
        ConferenceBridges x = line(8, 1);
        x.join(0, 0);
        x.setLevel(0, 30);
        x.tick(7);
        for (int bridge = 1; bridge < 8; bridge++) {
            due("age", x.stream(bridge, bridge - 1, 0, 1), bridge);
            float loudness = 1024.0f - 1024.0f / (1 << 8 - bridge);
            due("loudness", x.stream(bridge, bridge - 1, 0, 2), bits(loudness));
        }
    }

    static void promise12_step5_streams_go_one_link_in_a_tick() {
        ConferenceBridges x = line(4, 1);
        x.join(0, 0);
        x.setLevel(0, 30);
        for (int bridge = 1; bridge < 4; bridge++) {
            due("not yet", x.stream(bridge, bridge - 1, 0, 0), NONE);
            x.tick(1);
            due("now", x.stream(bridge, bridge - 1, 0, 0), 0);
        }
    }

    static void promise12_step5_what_is_not_sent_any_more_is_gone() {
        ConferenceBridges x = line(3, 1);
        x.join(0, 0);
        x.setLevel(0, 30);
        x.tick(1);
        x.leave(0);
        x.tick(1);
        due("at bridge 1", x.stream(1, 0, 0, 0), NONE);
        due("at bridge 2", x.stream(2, 1, 0, 0), 0);
        x.tick(1);
        due("at bridge 2", x.stream(2, 1, 0, 0), NONE);
    }

    static void promise12_step5_an_old_stream_that_is_louder_takes_the_place() {
        ConferenceBridges x = line(3, 1);
        x.join(0, 0);
        x.join(1, 0);
        x.setLevel(0, 36);
        x.setLevel(1, 30);
        x.tick(1);
        due("its own", x.stream(2, 1, 0, 0), 1);
        x.tick(1);
        due("the louder one", x.stream(2, 1, 0, 0), 0);
        due("its age", x.stream(2, 1, 0, 1), 2);
    }

    static void promise12_step5_as_loud_as_its_own_the_lowest_number_takes_the_place() {
        ConferenceBridges x = line(3, 1);
        x.join(1, 0);
        x.join(0, 0);
        x.setLevel(0, 30);
        x.setLevel(1, 30);
        x.tick(40);
        due("the lowest number", x.stream(2, 1, 0, 0), 0);
        x.leave(0);
        x.tick(1);
        due("the only one", x.stream(2, 1, 0, 0), 1);
    }

    static void promise12_step5_of_two_streams_of_a_speaker_only_one_is_sent() {
        ConferenceBridges x = line(3, 4);
        x.join(0, 0);
        x.setLevel(0, 30);
        x.tick(1);
        x.move(0, 1);
        x.tick(1);
        due("age", x.stream(2, 1, 0, 1), 1);
        due("loudness", x.stream(2, 1, 0, 2), bits(768.0f));
        due("no second", x.stream(2, 1, 1, 0), NONE);
    }

    static void promise12_step5_all_links_send_what_had_arrived_before_this_tick() {
        ConferenceBridges x = fresh();
        x.addBridge(0, 4, false);
        x.addBridge(0, 4, false);
        x.join(2, 0);
        x.setLevel(0, 30);
        x.tick(1);
        due("at bridge 0", x.stream(0, 2, 0, 0), 0);
        due("not yet at bridge 1", x.stream(1, 0, 0, 0), NONE);
        x.tick(1);
        due("at bridge 1", x.stream(1, 0, 0, 0), 0);
    }

    // ---- promise 13: undo

    static void promise13_an_empty_history_is_refused() {
        refused(BAD_STATE, Boundaries::fresh, x -> x.undo());
        refused(BAD_STATE, BoundaryTimeTest::allUndone, x -> x.undo());
    }

    private static ConferenceBridges allUndone() {
        ConferenceBridges x = lively();
        for (int i = 0; i < 5; i++) {
            x.undo();
        }
        return x;
    }

    static void promise13_one_state_is_brought_back() {
        ConferenceBridges x = fresh();
        long before = x.digest();
        x.join(0, 1);
        due("undo()", x.undo(), 0);
        due("digest()", x.digest(), before);
        due("undo()", x.undo(), BAD_STATE);
    }

    static void promise13_five_states_are_kept() {
        dueKept(5, 5);
    }

    static void promise13_a_sixth_drops_the_oldest() {
        dueKept(6, 5);
    }

    static void promise13_the_row_of_states_goes_round() {
        for (int calls = 7; calls <= 26; calls++) {
            dueKept(calls, 5);
        }
    }

    private static void dueKept(int calls, int kept) {
        ConferenceBridges x = phones(1, 20);
        x.undo();
        x.undo();
        long[] before = new long[calls];
        for (int call = 0; call < calls; call++) {
            before[call] = x.digest();
            due("a call", call == 0 ? x.join(0, 0) : x.setLevel(0, call), call == 0 ? 0 : call - 1);
        }
        for (int left = kept - 1; left >= 0; left--) {
            due("undo()", x.undo(), left);
            due("digest()", x.digest(), before[calls - kept + left]);
        }
        due("one more", x.undo(), BAD_STATE);
    }

    static void promise13_undo_is_not_undone() {
        ConferenceBridges x = phones(1, 20);
        x.setLevel(0, 30);
        due("undo()", x.undo(), 2);
        due("undo()", x.undo(), 1);
        due("property(0, 2)", x.property(0, 2), 0);
        due("undo()", x.undo(), 0);
        due("count(1)", x.count(1), 0);
    }

    static void promise13_after_undo_calls_are_recorded_again() {
        ConferenceBridges x = phones(1, 20);
        for (int level = 21; level <= 25; level++) {
            x.setLevel(0, level);
        }
        due("undo()", x.undo(), 4);
        due("undo()", x.undo(), 3);
        due("undo()", x.undo(), 2);
        for (int level = 40; level <= 44; level++) {
            x.setLevel(0, level);
        }
        for (int left = 4; left >= 0; left--) {
            due("undo()", x.undo(), left);
            due("property(0, 2)", x.property(0, 2), left == 0 ? 22 : 39 + left);
        }
        due("undo()", x.undo(), BAD_STATE);
    }

    static void promise13_every_undoable_call_is_recorded_once() {
        Call[] calls = {x -> x.addBridge(6, 4, true), x -> x.join(5, 1), x -> x.leave(4), x -> x.move(2, 0),
            x -> x.setLevel(3, 60), x -> x.setMuted(3, true), x -> x.setSelection(1, 1, 4, 0),
            x -> x.setFloor(false, 4, 50, 100), x -> x.request(0, 9), x -> x.giveUp(7), x -> x.tick(99), x -> x.run()};
        for (Call call : calls) {
            undoable(Boundaries::lively, call);
        }
    }

    static void promise13_a_call_that_changes_nothing_is_recorded() {
        Call[] calls = {x -> x.move(2, 2), x -> x.setLevel(18, 33), x -> x.setMuted(8, true),
            x -> x.setSelection(2, 12, 6, 3), x -> x.setFloor(true, 2, 4, 6)};
        for (Call call : calls) {
            ConferenceBridges x = lively();
            long before = x.digest();
            call.on(x);
            due("digest()", x.digest(), before);
            due("undo()", x.undo(), 4);
            due("digest()", x.digest(), before);
            due("undo() of the call before it", x.undo(), 3);
            due("which was the tick", x.count(3), 5);
        }
    }

    static void promise13_the_other_calls_are_not_recorded() {
        Call[] calls = {x -> x.textFault(), x -> x.count(0), x -> x.property(0, 0), x -> x.loudnessBits(0),
            x -> x.mixBits(0), x -> x.mix(0), x -> x.hears(0, 1), x -> x.stream(0, 1, 0, 0), x -> x.distance(0, 1),
            x -> x.waiting(0), x -> x.foretell(1, 99), x -> x.event(0, 0), x -> x.digest()};
        for (Call call : calls) {
            changesNothing(Boundaries::lively, call);
        }
        ConferenceBridges x = fresh();
        x.type(84);
        x.clearText();
        due("undo()", x.undo(), BAD_STATE);
    }

    static void promise13_a_refused_call_is_not_recorded() {
        Call[] calls = {x -> x.addBridge(7, 1, false), x -> x.join(7, 0), x -> x.leave(11), x -> x.move(0, 7),
            x -> x.setLevel(0, 61), x -> x.setMuted(11, true), x -> x.setSelection(0, 1, 4, 0),
            x -> x.setFloor(true, 0, 1, 0), x -> x.request(0, 10), x -> x.giveUp(0), x -> x.tick(0)};
        for (Call call : calls) {
            ConferenceBridges x = lively();
            due("an error", call.on(x) < NONE ? 1 : 0, 1);
            due("undo()", x.undo(), 4);
            due("which was the tick", x.count(3), 5);
        }
    }

    static void promise13_the_text_is_not_brought_back() {
        ConferenceBridges x = fresh();
        write(x, "T1");
        x.join(0, 0);
        write(x, "T12x");
        due("undo()", x.undo(), 0);
        due("textFault()", x.textFault(), 3);
        due("clearText()", x.clearText(), 4);
        x.join(0, 0);
        x.undo();
        due("clearText()", x.clearText(), 0);
    }

    static void promise13_all_settings_are_brought_back() {
        undoable(Boundaries::talking, x -> x.setSelection(3, 12, 6, 3));
        undoable(Boundaries::talking, x -> x.setSelection(2, 17, 6, 3));
        undoable(Boundaries::talking, x -> x.setSelection(2, 12, 9, 3));
        undoable(Boundaries::talking, x -> x.setSelection(2, 12, 6, 9));
        undoable(Boundaries::holding, x -> x.setFloor(false, 2, 6, 9));
        undoable(Boundaries::holding, x -> x.setFloor(true, 1, 6, 9));
        undoable(Boundaries::holding, x -> x.setFloor(true, 2, 3, 9));
        undoable(Boundaries::holding, x -> x.setFloor(true, 2, 6, 7));
    }

    static void promise13_the_times_of_holders_are_brought_back() {
        undoable(Boundaries::holding, x -> x.tick(1));
        undoable(Boundaries::holding, x -> x.tick(5));
    }

    /** The priority 3 comes back, so that 4 is before it; with 5 it would not be. */
    static void promise13_the_priority_of_a_request_is_brought_back() {
        for (int p : new int[] {0, 19}) {
            ConferenceBridges x = full();
            x.request(p, 3);
            x.giveUp(p);
            x.request(p, 5);
            x.undo();
            x.undo();
            x.request(1, 4);
            due("waiting(0)", x.waiting(0), 1);
            due("waiting(1)", x.waiting(1), p);
        }
    }

    static void promise13_the_twentieth_participant_is_brought_back() {
        Call[] calls = {x -> x.tick(1), x -> x.tick(99), x -> x.leave(19), x -> x.move(19, 7), x -> x.setLevel(19, 0),
            x -> x.setMuted(19, true), x -> x.request(19, 9)};
        for (Call call : calls) {
            undoable(Boundaries::full, call);
        }
    }

    static void promise13_the_twentieth_participant_gets_its_floor_back() {
        Call[] calls = {x -> x.tick(1), x -> x.tick(99), x -> x.leave(19), x -> x.giveUp(19)};
        for (Call call : calls) {
            undoable(() -> theTwentiethHoldsTheFloor(6, 0), call);
            undoable(() -> theTwentiethHoldsTheFloor(50, 6), call);
        }
    }

    /** Nobody is as loud as the threshold: it will lose the floor by its silence, or by the limit. */
    private static ConferenceBridges theTwentiethHoldsTheFloor(int patience, int limit) {
        ConferenceBridges x = full();
        x.setSelection(2, 60, 6, 3);
        x.setFloor(true, 1, patience, limit);
        x.request(19, 9);
        x.tick(3);
        for (int p = 0; p < 19; p++) {
            x.request(p, 5);
        }
        return x;
    }

    static void promise13_twenty_requests_are_brought_back() {
        Call[] calls = {x -> x.giveUp(19), x -> x.leave(0), x -> x.giveUp(7)};
        for (Call call : calls) {
            undoable(BoundaryTimeTest::allRequest, call);
        }
        ConferenceBridges x = allRequest();
        x.giveUp(0);
        x.request(0, 5);
        due("waiting(19)", x.waiting(19), 0);
        x.undo();
        x.undo();
        due("waiting(0)", x.waiting(0), 0);
        due("waiting(19)", x.waiting(19), 19);
    }

    private static ConferenceBridges allRequest() {
        ConferenceBridges x = full();
        for (int p = 0; p < 20; p++) {
            x.request(p, 5);
        }
        return x;
    }

    /** From the last bridge of the line the stream of 0; then 1 is loud, and takes the only place. */
    static void promise13_the_ages_of_streams_are_brought_back() {
        ConferenceBridges x = line(8, 1);
        x.join(7, 0);
        x.setLevel(0, 30);
        x.join(4, 0);
        x.tick(9);
        x.setLevel(1, 60);
        x.tick(1);
        due("age", x.stream(3, 4, 0, 1), 1);
        x.undo();
        due("age", x.stream(3, 4, 0, 1), 4);
    }

    static void promise13_the_first_event_is_taken_back() {
        ConferenceBridges x = phones(1, 30);
        x.tick(1);
        due("count(6)", x.count(6), 1);
        x.undo();
        due("count(6)", x.count(6), 0);
        due("event(0, 0)", x.event(0, 0), BAD_INDEX);
    }

    /** At each place of the row an event of participant 0 comes back where one of participant 1 was. */
    static void promise13_every_place_of_the_row_of_events_is_brought_back() {
        for (int many = 30; many < 60; many++) {
            int ticks = many;
            undoable(() -> oneEventInEachTick(ticks), x -> x.tick(1));
        }
    }

    /** Participant 1 is about to be the next one. */
    private static ConferenceBridges oneEventInEachTick(int many) {
        ConferenceBridges x = phones(2, 60);
        x.setMuted(1, true);
        for (int tick = 1; tick <= many; tick++) {
            x.setMuted(0, tick % 2 == 0);
            x.tick(1);
        }
        x.setMuted(1, false);
        return x;
    }

    static void promise13_a_bridge_that_is_gone_leaves_no_streams_to_the_next_one() {
        ConferenceBridges x = phones(1, 30);
        x.addBridge(0, 4, false);
        x.tick(3);
        due("stream", x.stream(1, 0, 0, 0), 0);
        x.undo();
        x.undo();
        x.tick(1);
        due("addBridge()", x.addBridge(0, 4, false), 1);
        due("stream", x.stream(1, 0, 0, 0), NONE);
    }

    static void promise13_a_participant_that_is_gone_leaves_nothing_to_the_next_one() {
        ConferenceBridges x = phones(1, 30);
        x.join(0, 0);
        x.setLevel(1, 30);
        x.request(1, 9);
        x.setMuted(1, true);
        x.tick(9);
        for (int i = 0; i < 5; i++) {
            x.undo();
        }
        due("join()", x.join(0, 1), 1);
        int[] first = {0, 1, 0, 0, 0, 0, 0, 0, 0};
        for (int what = 0; what <= 8; what++) {
            due("property(1, " + what + ")", x.property(1, what), first[what]);
        }
        due("loudnessBits(1)", x.loudnessBits(1), 0);
    }

    /** Two events in each tick: in 16 ticks two more than are kept. */
    static void promise13_the_row_of_events_is_brought_back_though_it_went_round() {
        ConferenceBridges x = phones(2, 60);
        for (int tick = 1; tick <= 16; tick++) {
            x.setMuted(0, tick % 2 == 0);
            x.setMuted(1, tick % 2 == 0);
            x.tick(1);
        }
        long before = x.digest();
        x.setMuted(0, false);
        x.setMuted(1, false);
        x.tick(1);
        dueEvent(x, 0, 1, 1, 17);
        for (int left = 4; left >= 2; left--) {
            due("undo()", x.undo(), left);
        }
        due("digest()", x.digest(), before);
        due("count(6)", x.count(6), 30);
        dueEvent(x, 29, 5, 0, 2);
        dueEvent(x, 0, 5, 1, 16);
    }
}
