/** The boundary cases of promises 1 to 7: a new object, bridges, participants. */
public final class BoundaryPeopleTest extends Boundaries {
    public static void main(String[] args) throws IllegalAccessException {
        runCases(BoundaryPeopleTest.class, 1, 7);
    }

    // ---- promise 1: a new object

    static void promise01_bridge_0_is_there() {
        due("count(0)", fresh().count(0), 1);
        due("join(0, 0)", fresh().join(0, 0), 0);
    }

    static void promise01_bridge_1_is_not_there() {
        refused(BAD_INDEX, Boundaries::fresh, x -> x.join(1, 0));
        refused(BAD_INDEX, Boundaries::fresh, x -> x.addBridge(1, 1, false));
        refused(BAD_INDEX, Boundaries::fresh, x -> x.stream(0, 1, 0, 0));
        refused(BAD_INDEX, Boundaries::fresh, x -> x.stream(1, 0, 0, 0));
    }

    static void promise01_bridge_0_is_not_for_phones_only() {
        due("join(0, 1)", fresh().join(0, 1), 0);
    }

    static void promise01_there_are_no_participants() {
        due("count(1)", fresh().count(1), 0);
        due("count(2)", fresh().count(2), 0);
        refused(BAD_INDEX, Boundaries::fresh, x -> x.property(0, 0));
    }

    static void promise01_there_are_no_ticks_requests_holders_events() {
        for (int what = 3; what <= 6; what++) {
            due("count(" + what + ")", fresh().count(what), 0);
        }
        due("waiting(0)", fresh().waiting(0), BAD_INDEX);
        due("event(0, 0)", fresh().event(0, 0), BAD_INDEX);
    }

    static void promise01_the_text_is_empty() {
        due("textFault()", fresh().textFault(), 0);
        due("run()", fresh().run(), BAD_STATE);
        due("clearText()", fresh().clearText(), 0);
        due("type(0)", fresh().type(0), 1);
    }

    static void promise01_the_history_is_empty() {
        refused(BAD_STATE, Boundaries::fresh, x -> x.undo());
    }

    static void promise01_the_number_of_speakers_is_2() {
        due("setSelection()", fresh().setSelection(4, 10, 6, 3), 2);
        due("one may speak", phones(1, 30).tick(1), 1);
        due("two may speak", phones(2, 30).tick(1), 2);
        due("three may not", phones(3, 30).tick(1), 2);
    }

    /** After one tick level 13 is as loud as POWER(10), and level 12 as POWER(9). */
    static void promise01_the_threshold_level_is_10() {
        due("as loud as POWER(10)", phones(1, 13).tick(1), 1);
        due("as loud as POWER(9)", phones(1, 12).tick(1), 0);
    }

    /** Against two of 1024, 2048 is at 1024, at 1536, which is not greater than 6 / 4 of 1024, and at 1792. */
    static void promise01_the_hysteresis_is_6() {
        ConferenceBridges x = phones(2, 30);
        x.tick(40);
        x.join(0, 0);
        x.setLevel(2, 33);
        due("6 quarters are not enough", x.foretell(2, 2), NONE);
        due("7 quarters are", x.foretell(2, 3), 3);
    }

    static void promise01_the_hang_is_3() {
        ConferenceBridges x = phones(1, 13);
        x.tick(1);
        x.setLevel(0, 0);
        due("quiet for 3 ticks", x.tick(3), 1);
        due("quiet for 4 ticks", x.tick(1), 0);
    }

    static void promise01_the_floor_is_off() {
        due("setFloor()", fresh().setFloor(true, 1, 1, 0), 0);
        ConferenceBridges x = phones(1, 30);
        x.request(0, 9);
        due("one without the floor speaks", x.tick(1), 1);
        due("nobody gets it", x.count(5), 0);
    }

    static void promise01_no_streams_have_arrived() {
        ConferenceBridges x = line(2, 4);
        due("stream(0, 1, 0, 0)", x.stream(0, 1, 0, 0), NONE);
        due("stream(1, 0, 0, 0)", x.stream(1, 0, 0, 0), NONE);
    }

    static void promise01_a_second_object_begins_anew() {
        lively();
        long hash = 17;
        for (int count : new int[] {1, 0, 0, 0, 0, 0, 0}) {
            hash = 31 * hash + count;
        }
        due("digest()", fresh().digest(), hash);
    }

    // ---- promise 2: addBridge

    static void promise02_parent_below_0_is_refused() {
        refused(BAD_INDEX, Boundaries::lively, x -> x.addBridge(-1, 1, false));
        refused(BAD_INDEX, Boundaries::lively, x -> x.addBridge(LEAST, 1, false));
    }

    static void promise02_parent_0_is_taken() {
        due("addBridge()", lively().addBridge(0, 1, false), 7);
        undoable(Boundaries::lively, x -> x.addBridge(0, 1, false));
    }

    static void promise02_the_last_bridge_as_parent_is_taken() {
        ConferenceBridges x = fresh();
        for (int bridge = 1; bridge < 8; bridge++) {
            due("addBridge()", x.addBridge(bridge - 1, 1, false), bridge);
        }
        due("its neighbour", x.stream(7, 6, 0, 0), NONE);
        due("not its neighbour", x.stream(7, 5, 0, 0), BAD_STATE);
    }

    static void promise02_parent_behind_the_last_bridge_is_refused() {
        refused(BAD_INDEX, Boundaries::fresh, x -> x.addBridge(1, 1, false));
        refused(BAD_INDEX, Boundaries::lively, x -> x.addBridge(7, 1, false));
        refused(BAD_INDEX, Boundaries::lively, x -> x.addBridge(8, 1, false));
        refused(BAD_INDEX, Boundaries::lively, x -> x.addBridge(MOST, 1, false));
    }

    static void promise02_a_parent_that_was_undone_is_refused() {
        ConferenceBridges x = line(3, 1);
        x.undo();
        due("addBridge(2, ..)", x.addBridge(2, 1, false), BAD_INDEX);
        due("addBridge(1, ..)", x.addBridge(1, 1, false), 2);
    }

    static void promise02_places_0_and_less_are_refused() {
        refused(BAD_VALUE, Boundaries::lively, x -> x.addBridge(0, 0, false));
        refused(BAD_VALUE, Boundaries::lively, x -> x.addBridge(0, -1, false));
        refused(BAD_VALUE, Boundaries::lively, x -> x.addBridge(0, LEAST, false));
    }

    static void promise02_place_1_is_taken_and_lets_one_stream_through() {
        dueThrough(1);
    }

    static void promise02_places_2_are_taken_and_let_two_streams_through() {
        dueThrough(2);
    }

    static void promise02_places_3_are_taken_and_let_three_streams_through() {
        dueThrough(3);
    }

    static void promise02_places_4_are_taken_and_let_four_streams_through() {
        dueThrough(4);
    }

    /** In either direction: four speak at each end, and one more stream comes from farther away on either side. */
    private static void dueThrough(int places) {
        ConferenceBridges x = fresh();
        due("addBridge()", x.addBridge(0, places, false), 1);
        x.addBridge(0, 4, false);
        x.addBridge(1, 4, false);
        x.setSelection(4, 10, 6, 3);
        for (int p = 0; p < 16; p++) {
            x.join(p % 4, 0);
            x.setLevel(p, 30);
        }
        x.tick(3);
        due("the last one down", x.stream(1, 0, places - 1, 1) > 0 ? 1 : 0, 1);
        due("no more down", x.stream(1, 0, places, 1), NONE);
        due("the last one up", x.stream(0, 1, places - 1, 1) > 0 ? 1 : 0, 1);
        due("no more up", x.stream(0, 1, places, 1), NONE);
    }

    static void promise02_places_5_and_more_are_refused() {
        refused(BAD_VALUE, Boundaries::lively, x -> x.addBridge(0, 5, false));
        refused(BAD_VALUE, Boundaries::lively, x -> x.addBridge(0, MOST, false));
    }

    static void promise02_the_eighth_bridge_is_taken() {
        ConferenceBridges x = line(7, 2);
        due("addBridge()", x.addBridge(3, 2, false), 7);
        due("count(0)", x.count(0), 8);
        due("join(7, 1)", x.join(7, 1), 0);
        undoable(() -> line(7, 2), y -> y.addBridge(3, 2, true));
    }

    static void promise02_a_ninth_bridge_is_refused() {
        refused(FULL, Boundaries::full, x -> x.addBridge(0, 1, false));
        refused(FULL, Boundaries::full, x -> x.addBridge(7, 4, true));
        refused(FULL, () -> line(8, 1), x -> x.addBridge(7, 1, false));
    }

    static void promise02_after_undo_the_eighth_bridge_is_taken_again() {
        ConferenceBridges x = line(8, 1);
        x.undo();
        due("addBridge()", x.addBridge(0, 4, true), 7);
        due("it is the new one", x.join(7, 1), WRONG_KIND);
        due("a ninth", x.addBridge(0, 4, true), FULL);
    }

    static void promise02_a_bad_parent_comes_before_bad_places() {
        refused(BAD_INDEX, Boundaries::lively, x -> x.addBridge(7, 0, false));
        refused(BAD_INDEX, Boundaries::lively, x -> x.addBridge(-1, 5, false));
    }

    static void promise02_a_bad_parent_comes_before_full() {
        refused(BAD_INDEX, Boundaries::full, x -> x.addBridge(8, 1, false));
    }

    static void promise02_bad_places_come_before_full() {
        refused(BAD_VALUE, Boundaries::full, x -> x.addBridge(0, 0, false));
        refused(BAD_VALUE, Boundaries::full, x -> x.addBridge(0, 5, false));
    }

    static void promise02_for_phones_only_it_takes_phones_and_no_rooms() {
        ConferenceBridges x = fresh();
        x.addBridge(0, 1, true);
        due("a room", x.join(1, 1), WRONG_KIND);
        due("a phone", x.join(1, 0), 0);
    }

    static void promise02_not_for_phones_only_it_takes_both() {
        ConferenceBridges x = fresh();
        x.addBridge(0, 1, true);
        x.addBridge(1, 1, false);
        due("a room", x.join(2, 1), 0);
        due("a phone", x.join(2, 0), 1);
    }

    // ---- promise 3: join

    static void promise03_bridge_below_0_is_refused() {
        refused(BAD_INDEX, Boundaries::lively, x -> x.join(-1, 0));
        refused(BAD_INDEX, Boundaries::lively, x -> x.join(LEAST, 0));
    }

    static void promise03_bridge_0_is_taken() {
        undoable(Boundaries::lively, x -> x.join(0, 0));
        due("join()", lively().join(0, 0), 19);
    }

    static void promise03_the_last_bridge_is_taken() {
        undoable(Boundaries::lively, x -> x.join(6, 1));
        ConferenceBridges x = line(8, 1);
        due("join()", x.join(7, 1), 0);
        due("property(0, 0)", x.property(0, 0), 7);
    }

    static void promise03_a_bridge_behind_the_last_is_refused() {
        refused(BAD_INDEX, Boundaries::lively, x -> x.join(7, 0));
        refused(BAD_INDEX, Boundaries::lively, x -> x.join(MOST, 0));
        refused(BAD_INDEX, () -> line(8, 1), x -> x.join(8, 0));
    }

    static void promise03_kind_below_0_is_refused() {
        refused(BAD_VALUE, Boundaries::lively, x -> x.join(0, -1));
        refused(BAD_VALUE, Boundaries::lively, x -> x.join(0, LEAST));
    }

    static void promise03_kinds_0_and_1_are_taken() {
        ConferenceBridges x = fresh();
        due("join(0, 0)", x.join(0, 0), 0);
        due("join(0, 1)", x.join(0, 1), 1);
        due("property(0, 1)", x.property(0, 1), 0);
        due("property(1, 1)", x.property(1, 1), 1);
    }

    static void promise03_kind_2_and_more_is_refused() {
        refused(BAD_VALUE, Boundaries::lively, x -> x.join(0, 2));
        refused(BAD_VALUE, Boundaries::lively, x -> x.join(0, MOST));
    }

    static void promise03_a_sixth_at_the_bridge_is_taken() {
        undoable(() -> phones(5, 20), x -> x.join(0, 0));
        ConferenceBridges x = phones(5, 20);
        due("join()", x.join(0, 1), 5);
        due("count(2)", x.count(2), 6);
    }

    static void promise03_a_seventh_at_the_bridge_is_refused() {
        refused(FULL, () -> phones(6, 20), x -> x.join(0, 0));
        refused(FULL, () -> phones(6, 20), x -> x.join(0, 1));
    }

    static void promise03_six_are_counted_at_each_bridge_by_itself() {
        ConferenceBridges x = phones(6, 20);
        x.addBridge(0, 1, false);
        for (int p = 6; p < 12; p++) {
            due("join(1, 0)", x.join(1, 0), p);
        }
        due("a seventh", x.join(1, 0), FULL);
    }

    static void promise03_one_that_has_left_makes_room() {
        ConferenceBridges x = phones(6, 20);
        x.leave(0);
        due("a sixth", x.join(0, 0), 6);
        due("a seventh", x.join(0, 0), FULL);
    }

    static void promise03_one_that_has_moved_away_makes_room() {
        ConferenceBridges x = phones(6, 20);
        x.addBridge(0, 1, false);
        x.move(3, 1);
        due("a sixth", x.join(0, 0), 6);
        due("a seventh", x.join(0, 0), FULL);
    }

    static void promise03_one_that_has_moved_here_takes_room() {
        ConferenceBridges x = phones(5, 20);
        x.addBridge(0, 1, false);
        x.join(1, 0);
        x.move(5, 0);
        due("a seventh", x.join(0, 0), FULL);
    }

    static void promise03_the_twentieth_is_taken() {
        due("join()", lively().join(0, 0), 19);
        undoable(Boundaries::lively, x -> x.join(3, 1));
    }

    static void promise03_a_twenty_first_is_refused() {
        refused(FULL, Boundaries::full, x -> x.join(7, 0));
        refused(FULL, Boundaries::full, x -> x.join(0, 0));
    }

    static void promise03_a_twenty_first_is_refused_though_all_have_left() {
        refused(FULL, BoundaryPeopleTest::allHaveLeft, x -> x.join(0, 0));
    }

    private static ConferenceBridges allHaveLeft() {
        ConferenceBridges x = full();
        for (int p = 0; p < 20; p++) {
            x.leave(p);
        }
        return x;
    }

    static void promise03_after_undo_the_twentieth_is_taken_again() {
        ConferenceBridges x = lively();
        x.join(0, 1);
        due("a twenty-first", x.join(0, 0), FULL);
        x.undo();
        due("join()", x.join(0, 0), 19);
        due("its kind", x.property(19, 1), 0);
    }

    static void promise03_a_room_at_a_bridge_for_phones_only_is_refused() {
        refused(WRONG_KIND, Boundaries::lively, x -> x.join(2, 1));
    }

    static void promise03_a_phone_at_a_bridge_for_phones_only_is_taken() {
        undoable(Boundaries::lively, x -> x.join(2, 0));
    }

    static void promise03_a_bad_bridge_comes_before_a_bad_kind() {
        refused(BAD_INDEX, Boundaries::lively, x -> x.join(7, 2));
        refused(BAD_INDEX, Boundaries::lively, x -> x.join(-1, -1));
    }

    static void promise03_a_bad_bridge_comes_before_full() {
        refused(BAD_INDEX, Boundaries::full, x -> x.join(8, 0));
    }

    static void promise03_a_bad_kind_comes_before_full() {
        refused(BAD_VALUE, Boundaries::full, x -> x.join(0, 2));
        refused(BAD_VALUE, () -> phones(6, 20), x -> x.join(0, -1));
    }

    static void promise03_full_comes_before_the_wrong_kind() {
        // Bridge 1 has six, bridge 7 has none, but twenty have joined.
        refused(FULL, Boundaries::full, x -> x.join(1, 1));
        refused(FULL, Boundaries::full, x -> x.join(7, 1));
        refused(FULL, BoundaryPeopleTest::sixPhonesOnly, x -> x.join(1, 1));
    }

    private static ConferenceBridges sixPhonesOnly() {
        ConferenceBridges x = fresh();
        x.addBridge(0, 1, true);
        for (int p = 0; p < 6; p++) {
            x.join(1, 0);
        }
        x.join(0, 1);
        return x;
    }

    static void promise03_one_that_joins_begins_with_nothing() {
        ConferenceBridges x = phones(2, 30);
        x.setMuted(1, true);
        x.request(1, 4);
        x.tick(5);
        due("join()", x.join(0, 1), 2);
        int[] first = {0, 1, 0, 0, 0, 0, 0, 0, 0};
        for (int what = 0; what <= 8; what++) {
            due("property(2, " + what + ")", x.property(2, what), first[what]);
        }
        due("loudnessBits(2)", x.loudnessBits(2), 0);
        due("mixBits(2)", x.mixBits(2), 0);
        due("hears(2, 0)", x.hears(2, 0), 0);
    }

    // ---- promise 4: leave

    static void promise04_participant_below_0_is_refused() {
        refused(BAD_INDEX, Boundaries::lively, x -> x.leave(-1));
        refused(BAD_INDEX, Boundaries::lively, x -> x.leave(LEAST));
    }

    static void promise04_participant_0_is_taken() {
        undoable(Boundaries::lively, x -> x.leave(0));
        due("leave(0)", lively().leave(0), 14);
    }

    static void promise04_the_last_participant_is_taken() {
        undoable(Boundaries::lively, x -> x.leave(18));
        due("leave(18)", lively().leave(18), 14);
        due("leave(19)", full().leave(19), 19);
    }

    static void promise04_a_participant_behind_the_last_is_refused() {
        refused(BAD_INDEX, Boundaries::fresh, x -> x.leave(0));
        refused(BAD_INDEX, Boundaries::lively, x -> x.leave(19));
        refused(BAD_INDEX, Boundaries::full, x -> x.leave(20));
        refused(BAD_INDEX, Boundaries::full, x -> x.leave(MOST));
    }

    static void promise04_one_that_has_left_is_refused() {
        refused(BAD_INDEX, Boundaries::lively, x -> x.leave(11));
        refused(BAD_INDEX, Boundaries::lively, x -> x.leave(14));
    }

    static void promise04_the_last_that_is_present_leaves_nobody() {
        ConferenceBridges x = phones(2, 30);
        due("leave(0)", x.leave(0), 1);
        due("leave(1)", x.leave(1), 0);
        due("count(1)", x.count(1), 2);
        due("count(2)", x.count(2), 0);
        due("tick(1)", x.tick(1), 0);
    }

    static void promise04_all_twenty_leave_one_after_the_other() {
        ConferenceBridges x = full();
        for (int p = 0; p < 20; p++) {
            due("leave(" + p + ")", x.leave(p), 19 - p);
        }
    }

    static void promise04_its_request_is_gone() {
        ConferenceBridges x = phones(3, 30);
        x.request(0, 5);
        x.request(1, 5);
        x.request(2, 5);
        x.leave(1);
        due("count(4)", x.count(4), 2);
        due("waiting(1)", x.waiting(1), 2);
        due("waiting(2)", x.waiting(2), BAD_INDEX);
    }

    static void promise04_its_floor_is_gone() {
        ConferenceBridges x = phones(2, 30);
        x.setFloor(true, 1, 50, 0);
        x.request(0, 5);
        x.request(1, 5);
        x.tick(1);
        x.leave(0);
        due("count(5)", x.count(5), 0);
        x.tick(1);
        due("the next one gets it", x.property(1, 7), 2);
        due("no event 3 or 4", x.event(2, 0), 2);
    }

    static void promise04_it_is_a_speaker_until_the_next_tick_drops_it() {
        ConferenceBridges x = phones(2, 30);
        x.tick(1);
        x.leave(0);
        due("no event yet", x.count(6), 2);
        due("heard until then", x.hears(1, 0), 1);
        due("tick(1)", x.tick(1), 1);
        dueEvent(x, 0, 5, 0, 2);
        due("not heard any more", x.hears(1, 0), 0);
    }

    // ---- promise 5: move

    static void promise05_participant_below_0_is_refused() {
        refused(BAD_INDEX, Boundaries::lively, x -> x.move(-1, 0));
        refused(BAD_INDEX, Boundaries::lively, x -> x.move(LEAST, 0));
    }

    static void promise05_the_first_and_the_last_participant_are_taken() {
        due("move(0, 6)", lively().move(0, 6), 1);
        due("move(18, 6)", lively().move(18, 6), 0);
        undoable(Boundaries::lively, x -> x.move(0, 6));
        undoable(Boundaries::lively, x -> x.move(18, 6));
    }

    static void promise05_a_participant_behind_the_last_is_refused() {
        refused(BAD_INDEX, Boundaries::lively, x -> x.move(19, 0));
        refused(BAD_INDEX, Boundaries::full, x -> x.move(20, 0));
        refused(BAD_INDEX, Boundaries::full, x -> x.move(MOST, 0));
    }

    static void promise05_one_that_has_left_is_refused() {
        refused(BAD_INDEX, Boundaries::lively, x -> x.move(12, 0));
    }

    static void promise05_bridge_below_0_is_refused() {
        refused(BAD_INDEX, Boundaries::lively, x -> x.move(0, -1));
        refused(BAD_INDEX, Boundaries::lively, x -> x.move(0, LEAST));
    }

    static void promise05_the_first_and_the_last_bridge_are_taken() {
        ConferenceBridges x = line(8, 1);
        x.join(3, 1);
        due("move(0, 7)", x.move(0, 7), 3);
        due("move(0, 0)", x.move(0, 0), 7);
        due("property(0, 0)", x.property(0, 0), 0);
    }

    static void promise05_a_bridge_behind_the_last_is_refused() {
        refused(BAD_INDEX, Boundaries::lively, x -> x.move(0, 7));
        refused(BAD_INDEX, Boundaries::full, x -> x.move(0, 8));
        refused(BAD_INDEX, Boundaries::full, x -> x.move(0, MOST));
    }

    static void promise05_to_five_others_is_taken() {
        undoable(() -> othersAtBridge0(5), x -> x.move(5, 0));
        due("move()", othersAtBridge0(5).move(5, 0), 1);
    }

    static void promise05_to_six_others_is_refused() {
        refused(FULL, () -> othersAtBridge0(6), x -> x.move(6, 0));
    }

    /** So many phones at bridge 0, and behind them a room at bridge 1. */
    private static ConferenceBridges othersAtBridge0(int many) {
        ConferenceBridges x = phones(many, 30);
        x.addBridge(0, 1, false);
        x.join(1, 1);
        return x;
    }

    static void promise05_within_a_full_bridge_is_taken() {
        undoable(() -> phones(6, 20), x -> x.move(5, 0));
        due("move()", phones(6, 20).move(0, 0), 0);
    }

    static void promise05_one_that_has_left_is_no_other() {
        ConferenceBridges x = othersAtBridge0(6);
        x.leave(2);
        due("move()", x.move(6, 0), 1);
    }

    static void promise05_a_room_to_a_bridge_for_phones_only_is_refused() {
        refused(WRONG_KIND, Boundaries::lively, x -> x.move(1, 2));
    }

    static void promise05_a_phone_to_a_bridge_for_phones_only_is_taken() {
        due("move(0, 2)", lively().move(0, 2), 1);
        undoable(Boundaries::lively, x -> x.move(0, 2));
    }

    static void promise05_a_bad_index_comes_before_full() {
        refused(BAD_INDEX, () -> phones(6, 20), x -> x.move(6, 0));
        refused(BAD_INDEX, BoundaryPeopleTest::sixPhonesOnly, x -> x.move(7, 1));
    }

    static void promise05_full_comes_before_the_wrong_kind() {
        refused(FULL, BoundaryPeopleTest::sixPhonesOnly, x -> x.move(6, 1));
    }

    static void promise05_loudness_talk_time_and_quiet_time_stay() {
        ConferenceBridges x = phones(1, 13);
        x.addBridge(0, 1, false);
        x.tick(1);
        x.setLevel(0, 0);
        x.tick(2);
        int loudness = x.loudnessBits(0);
        x.move(0, 1);
        due("loudness", x.loudnessBits(0), loudness);
        due("talk time", x.property(0, 5), 3);
        due("quiet time", x.property(0, 6), 2);
    }

    static void promise05_the_holding_time_stays() {
        ConferenceBridges x = phones(2, 30);
        x.addBridge(0, 1, false);
        x.setFloor(true, 1, 50, 3);
        x.request(0, 5);
        x.tick(3);
        x.move(0, 1);
        x.request(1, 5);
        due("it holds the floor", x.property(0, 7), 2);
        x.tick(1);
        dueEvent(x, 3, 4, 0, 4);
    }

    static void promise05_the_silent_time_stays() {
        ConferenceBridges x = phones(1, 0);
        x.addBridge(0, 1, false);
        x.setFloor(true, 1, 2, 0);
        x.request(0, 5);
        x.tick(3);
        x.move(0, 1);
        x.tick(1);
        dueEvent(x, 0, 3, 0, 4);
    }

    static void promise05_to_the_same_bridge_it_stays_a_speaker() {
        ConferenceBridges x = phones(1, 30);
        x.tick(1);
        due("move()", x.move(0, 0), 0);
        x.tick(1);
        due("count(6)", x.count(6), 1);
        due("talk time", x.property(0, 5), 2);
    }

    static void promise05_to_a_later_bridge_it_speaks_there_in_the_next_tick() {
        ConferenceBridges x = phones(1, 30);
        x.addBridge(0, 1, false);
        x.tick(1);
        x.move(0, 1);
        due("a speaker until then", x.property(0, 4), 1);
        due("tick(1)", x.tick(1), 1);
        dueEvent(x, 1, 5, 0, 2);
        dueEvent(x, 0, 1, 0, 2);
    }

    static void promise05_to_an_earlier_bridge_it_speaks_there_a_tick_later() {
        ConferenceBridges x = line(2, 1);
        x.join(1, 0);
        x.setLevel(0, 30);
        x.tick(1);
        x.move(0, 0);
        due("tick(1)", x.tick(1), 0);
        dueEvent(x, 0, 5, 0, 2);
        due("tick(1)", x.tick(1), 1);
        dueEvent(x, 0, 1, 0, 3);
    }

    // ---- promise 6: setLevel

    static void promise06_participant_below_0_is_refused() {
        refused(BAD_INDEX, Boundaries::lively, x -> x.setLevel(-1, 1));
        refused(BAD_INDEX, Boundaries::lively, x -> x.setLevel(LEAST, 1));
    }

    static void promise06_the_first_and_the_last_participant_are_taken() {
        due("setLevel(0, 1)", full().setLevel(0, 1), 24);
        due("setLevel(19, 1)", full().setLevel(19, 1), 43);
        undoable(Boundaries::full, x -> x.setLevel(19, 1));
    }

    static void promise06_a_participant_behind_the_last_is_refused() {
        refused(BAD_INDEX, Boundaries::fresh, x -> x.setLevel(0, 1));
        refused(BAD_INDEX, Boundaries::lively, x -> x.setLevel(19, 1));
        refused(BAD_INDEX, Boundaries::full, x -> x.setLevel(20, 1));
        refused(BAD_INDEX, Boundaries::full, x -> x.setLevel(MOST, 1));
    }

    static void promise06_one_that_has_left_is_refused() {
        refused(BAD_INDEX, Boundaries::lively, x -> x.setLevel(13, 1));
    }

    static void promise06_level_below_0_is_refused() {
        refused(BAD_VALUE, Boundaries::lively, x -> x.setLevel(0, -1));
        refused(BAD_VALUE, Boundaries::lively, x -> x.setLevel(0, LEAST));
    }

    static void promise06_level_0_is_taken_and_is_the_power_0() {
        ConferenceBridges x = phones(1, 0);
        due("setLevel(0, 0)", x.setLevel(0, 0), 0);
        x.tick(1);
        due("not POWER(0)", x.loudnessBits(0), 0);
    }

    static void promise06_level_1_is_taken() {
        ConferenceBridges x = phones(1, 1);
        x.tick(1);
        due("loudness", x.loudnessBits(0), bits(1.2599211f * 0.5f));
    }

    static void promise06_levels_2_and_3_are_taken() {
        ConferenceBridges x = phones(1, 2);
        x.join(0, 0);
        x.setLevel(1, 3);
        x.tick(1);
        due("level 2", x.loudnessBits(0), bits(1.587401f * 0.5f));
        due("level 3", x.loudnessBits(1), bits(1.0f));
    }

    static void promise06_level_60_is_taken() {
        due("setLevel(0, 60)", phones(1, 59).setLevel(0, 60), 59);
        undoable(Boundaries::lively, x -> x.setLevel(0, 60));
        ConferenceBridges x = phones(1, 60);
        x.tick(1);
        due("loudness", x.loudnessBits(0), bits(524288.0f));
    }

    static void promise06_level_61_and_more_is_refused() {
        refused(BAD_VALUE, Boundaries::lively, x -> x.setLevel(0, 61));
        refused(BAD_VALUE, Boundaries::lively, x -> x.setLevel(0, MOST));
    }

    static void promise06_a_bad_participant_comes_before_a_bad_level() {
        refused(BAD_INDEX, Boundaries::lively, x -> x.setLevel(19, 61));
        refused(BAD_INDEX, Boundaries::lively, x -> x.setLevel(13, -1));
    }

    static void promise06_the_same_level_again_is_recorded() {
        ConferenceBridges x = phones(1, 30);
        due("setLevel(0, 30)", x.setLevel(0, 30), 30);
        due("undo()", x.undo(), 2);
        due("property(0, 2)", x.property(0, 2), 30);
    }

    // ---- promise 7: setMuted

    static void promise07_participant_below_0_is_refused() {
        refused(BAD_INDEX, Boundaries::lively, x -> x.setMuted(-1, true));
        refused(BAD_INDEX, Boundaries::lively, x -> x.setMuted(LEAST, false));
    }

    static void promise07_the_first_and_the_last_participant_are_taken() {
        due("setMuted(0, true)", full().setMuted(0, true), 0);
        due("setMuted(19, true)", full().setMuted(19, true), 0);
        undoable(Boundaries::full, x -> x.setMuted(0, true));
        undoable(Boundaries::full, x -> x.setMuted(19, true));
    }

    static void promise07_a_participant_behind_the_last_is_refused() {
        refused(BAD_INDEX, Boundaries::fresh, x -> x.setMuted(0, true));
        refused(BAD_INDEX, Boundaries::lively, x -> x.setMuted(19, true));
        refused(BAD_INDEX, Boundaries::full, x -> x.setMuted(20, true));
        refused(BAD_INDEX, Boundaries::full, x -> x.setMuted(MOST, false));
    }

    static void promise07_one_that_has_left_is_refused() {
        refused(BAD_INDEX, Boundaries::lively, x -> x.setMuted(14, true));
        refused(BAD_INDEX, Boundaries::lively, x -> x.setMuted(14, false));
    }

    static void promise07_muted_twice_and_unmuted_twice() {
        ConferenceBridges x = phones(1, 30);
        due("setMuted(0, false)", x.setMuted(0, false), 0);
        due("setMuted(0, true)", x.setMuted(0, true), 0);
        due("setMuted(0, true)", x.setMuted(0, true), 1);
        due("setMuted(0, false)", x.setMuted(0, false), 1);
        due("undo()", x.undo(), 4);
        due("property(0, 3)", x.property(0, 3), 1);
        due("undo() of what changed nothing", x.undo(), 3);
        due("property(0, 3)", x.property(0, 3), 1);
    }

    static void promise07_one_that_is_muted_has_the_power_0_and_keeps_its_level() {
        ConferenceBridges x = phones(1, 60);
        x.setMuted(0, true);
        due("tick(1)", x.tick(1), 0);
        due("loudness", x.loudnessBits(0), 0);
        due("level", x.property(0, 2), 60);
        x.setMuted(0, false);
        due("tick(1)", x.tick(1), 1);
        due("loudness", x.loudnessBits(0), bits(524288.0f));
    }

    static void promise07_a_speaker_that_is_muted_is_dropped_in_the_next_tick_though_it_is_loud() {
        ConferenceBridges x = phones(1, 60);
        x.tick(1);
        x.setMuted(0, true);
        due("until then", x.property(0, 4), 1);
        due("tick(1)", x.tick(1), 0);
        dueEvent(x, 0, 5, 0, 2);
    }
}
