/** The boundary cases of promises 8 to 11: how speakers are selected, and the floor. */
public final class BoundaryFloorTest extends Boundaries {
    public static void main(String[] args) throws IllegalAccessException {
        runCases(BoundaryFloorTest.class, 8, 11);
    }

    // ---- promise 8: setSelection

    static void promise08_speakers_0_and_less_are_refused() {
        refused(BAD_VALUE, Boundaries::talking, x -> x.setSelection(0, 13, 8, 9));
        refused(BAD_VALUE, Boundaries::talking, x -> x.setSelection(-1, 13, 8, 9));
        refused(BAD_VALUE, Boundaries::talking, x -> x.setSelection(LEAST, 13, 8, 9));
    }

    static void promise08_speaker_1_is_taken() {
        ConferenceBridges x = phones(2, 30);
        due("setSelection()", x.setSelection(1, 10, 6, 3), 2);
        due("tick(1)", x.tick(1), 1);
        undoable(Boundaries::talking, y -> y.setSelection(1, 13, 8, 9));
    }

    static void promise08_speakers_4_are_taken() {
        ConferenceBridges x = phones(5, 30);
        due("setSelection()", x.setSelection(4, 10, 6, 3), 2);
        due("tick(1)", x.tick(1), 4);
        due("the number of before", x.setSelection(3, 10, 6, 3), 4);
        undoable(Boundaries::talking, y -> y.setSelection(4, 13, 8, 9));
    }

    static void promise08_speakers_5_and_more_are_refused() {
        refused(BAD_VALUE, Boundaries::talking, x -> x.setSelection(5, 13, 8, 9));
        refused(BAD_VALUE, Boundaries::talking, x -> x.setSelection(MOST, 13, 8, 9));
    }

    static void promise08_threshold_0_and_less_is_refused() {
        refused(BAD_VALUE, Boundaries::talking, x -> x.setSelection(3, 0, 8, 9));
        refused(BAD_VALUE, Boundaries::talking, x -> x.setSelection(3, -1, 8, 9));
        refused(BAD_VALUE, Boundaries::talking, x -> x.setSelection(3, LEAST, 8, 9));
    }

    /** After one tick level 4 is as loud as POWER(1), and level 3 as POWER(0). */
    static void promise08_threshold_1_is_taken() {
        ConferenceBridges x = phones(1, 4);
        due("setSelection()", x.setSelection(2, 1, 6, 3), 2);
        due("as loud as POWER(1)", x.tick(1), 1);
        x = phones(1, 3);
        x.setSelection(2, 1, 6, 3);
        due("as loud as POWER(0)", x.tick(1), 0);
    }

    /** Level 60 comes up to its power, which is POWER(60), in the 25th tick; level 59 does not. */
    static void promise08_threshold_60_is_taken() {
        ConferenceBridges x = phones(2, 60);
        due("setSelection()", x.setSelection(2, 60, 6, 3), 2);
        x.setLevel(1, 59);
        due("a tick too early", x.foretell(0, 24), NONE);
        due("as loud as POWER(60)", x.foretell(0, 25), 25);
        due("as loud as POWER(59)", x.foretell(1, 99), NONE);
    }

    static void promise08_threshold_61_and_more_is_refused() {
        refused(BAD_VALUE, Boundaries::talking, x -> x.setSelection(3, 61, 8, 9));
        refused(BAD_VALUE, Boundaries::talking, x -> x.setSelection(3, MOST, 8, 9));
    }

    static void promise08_hysteresis_3_and_less_is_refused() {
        refused(BAD_VALUE, Boundaries::talking, x -> x.setSelection(3, 13, 3, 9));
        refused(BAD_VALUE, Boundaries::talking, x -> x.setSelection(3, 13, 0, 9));
        refused(BAD_VALUE, Boundaries::talking, x -> x.setSelection(3, 13, LEAST, 9));
    }

    /** A speaker of 1024, against which another one of this level rises. */
    private static ConferenceBridges against1024(int level, int hysteresis) {
        ConferenceBridges x = phones(1, 30);
        due("setSelection()", x.setSelection(1, 10, hysteresis, 3), 2);
        x.tick(40);
        x.join(0, 0);
        x.setLevel(1, level);
        return x;
    }

    static void promise08_hysteresis_4_is_taken() {
        due("1024 is not greater than 1024", against1024(30, 4).foretell(1, 99), NONE);
        due("1024, 1536", against1024(33, 4).foretell(1, 99), 2);
        due("645, 967, 1128", against1024(31, 4).foretell(1, 99), 3);
    }

    static void promise08_hysteresis_is_in_quarters() {
        due("1024, 1536, 1792 are not greater than 1792", against1024(33, 7).foretell(1, 99), 4);
        due("2048 is not greater than 2048", against1024(36, 8).foretell(1, 99), 2);
        due("2048, 3072, 3584, 3840 are not greater than 3840", against1024(36, 15).foretell(1, 99), 5);
    }

    static void promise08_hysteresis_16_is_taken() {
        due("4096 is not greater than 4096", against1024(39, 16).foretell(1, 99), 2);
        due("it never is", against1024(36, 16).foretell(1, 99), NONE);
    }

    static void promise08_hysteresis_17_and_more_is_refused() {
        refused(BAD_VALUE, Boundaries::talking, x -> x.setSelection(3, 13, 17, 9));
        refused(BAD_VALUE, Boundaries::talking, x -> x.setSelection(3, 13, MOST, 9));
    }

    static void promise08_hang_below_0_is_refused() {
        refused(BAD_VALUE, Boundaries::talking, x -> x.setSelection(3, 13, 8, -1));
        refused(BAD_VALUE, Boundaries::talking, x -> x.setSelection(3, 13, 8, LEAST));
    }

    /** A speaker that was as loud as the threshold in one tick, and falls from then on. */
    private static ConferenceBridges falling(int hang) {
        ConferenceBridges x = phones(1, 13);
        due("setSelection()", x.setSelection(1, 10, 6, hang), 2);
        due("tick(1)", x.tick(1), 1);
        x.setLevel(0, 0);
        return x;
    }

    static void promise08_hang_0_is_taken() {
        due("the first quiet tick", falling(0).tick(1), 0);
    }

    static void promise08_hang_1_is_taken() {
        due("one quiet tick", falling(1).tick(1), 1);
        due("two quiet ticks", falling(1).tick(2), 0);
    }

    static void promise08_hang_20_is_taken() {
        due("20 quiet ticks", falling(20).tick(20), 1);
        due("21 quiet ticks", falling(20).tick(21), 0);
    }

    static void promise08_hang_21_and_more_is_refused() {
        refused(BAD_VALUE, Boundaries::talking, x -> x.setSelection(3, 13, 8, 21));
        refused(BAD_VALUE, Boundaries::talking, x -> x.setSelection(3, 13, 8, MOST));
    }

    static void promise08_several_bad_arguments_are_refused() {
        refused(BAD_VALUE, Boundaries::talking, x -> x.setSelection(0, 0, 0, -1));
        refused(BAD_VALUE, Boundaries::talking, x -> x.setSelection(5, 61, 17, 21));
    }

    static void promise08_the_least_and_the_most_of_all_at_once_are_taken() {
        ConferenceBridges x = fresh();
        due("the least", x.setSelection(1, 1, 4, 0), 2);
        due("the most", x.setSelection(4, 60, 16, 20), 1);
        due("the same again", x.setSelection(4, 60, 16, 20), 4);
        due("undo()", x.undo(), 2);
    }

    // ---- promise 9: setFloor

    static void promise09_tokens_0_and_less_are_refused() {
        refused(BAD_VALUE, Boundaries::holding, x -> x.setFloor(false, 0, 3, 7));
        refused(BAD_VALUE, Boundaries::holding, x -> x.setFloor(true, -1, 3, 7));
        refused(BAD_VALUE, Boundaries::holding, x -> x.setFloor(true, LEAST, 3, 7));
    }

    static void promise09_token_1_is_taken() {
        dueHolders(1);
        undoable(Boundaries::holding, x -> x.setFloor(false, 1, 3, 7));
    }

    static void promise09_tokens_4_are_taken() {
        dueHolders(4);
        undoable(Boundaries::holding, x -> x.setFloor(true, 4, 3, 7));
    }

    /** Of five with requests so many get the floor. */
    private static void dueHolders(int tokens) {
        ConferenceBridges x = phones(5, 30);
        due("setFloor()", x.setFloor(true, tokens, 10, 0), 0);
        for (int p = 0; p < 5; p++) {
            x.request(p, 3);
        }
        x.tick(1);
        due("holders", x.count(5), tokens);
        due("requests", x.count(4), 5 - tokens);
        due("the last one that holds it", x.property(tokens - 1, 7), 2);
        due("the first one that does not", x.property(tokens, 7), 1);
    }

    static void promise09_tokens_5_and_more_are_refused() {
        refused(BAD_VALUE, Boundaries::holding, x -> x.setFloor(false, 5, 3, 7));
        refused(BAD_VALUE, Boundaries::holding, x -> x.setFloor(true, MOST, 3, 7));
    }

    static void promise09_patience_0_and_less_is_refused() {
        refused(BAD_VALUE, Boundaries::holding, x -> x.setFloor(false, 1, 0, 7));
        refused(BAD_VALUE, Boundaries::holding, x -> x.setFloor(true, 1, -1, 7));
        refused(BAD_VALUE, Boundaries::holding, x -> x.setFloor(true, 1, LEAST, 7));
    }

    static void promise09_patience_1_is_taken() {
        duePatience(1);
    }

    static void promise09_patience_50_is_taken() {
        duePatience(50);
    }

    /** The floor comes in the first tick, and is lost when the silent time is greater than the patience. */
    private static void duePatience(int patience) {
        ConferenceBridges x = phones(1, 0);
        due("setFloor()", x.setFloor(true, 1, patience, 0), 0);
        x.request(0, 0);
        x.tick(1);
        x.tick(patience);
        due("silent as long as the patience", x.property(0, 7), 2);
        x.tick(1);
        due("silent for a tick longer", x.property(0, 7), 0);
        dueEvent(x, 0, 3, 0, patience + 2);
    }

    static void promise09_patience_51_and_more_is_refused() {
        refused(BAD_VALUE, Boundaries::holding, x -> x.setFloor(false, 1, 51, 7));
        refused(BAD_VALUE, Boundaries::holding, x -> x.setFloor(true, 1, MOST, 7));
    }

    static void promise09_limit_below_0_is_refused() {
        refused(BAD_VALUE, Boundaries::holding, x -> x.setFloor(false, 1, 3, -1));
        refused(BAD_VALUE, Boundaries::holding, x -> x.setFloor(true, 1, 3, LEAST));
    }

    static void promise09_limit_0_is_taken_and_is_none() {
        ConferenceBridges x = limited(0);
        x.tick(99);
        x.tick(99);
        due("it still holds the floor", x.property(0, 7), 2);
    }

    static void promise09_limit_1_is_taken() {
        dueLimit(1);
    }

    static void promise09_limit_100_is_taken() {
        dueLimit(100);
    }

    /** A loud one got the floor in the first tick, and another one has a request. */
    private static ConferenceBridges limited(int limit) {
        ConferenceBridges x = phones(2, 30);
        due("setFloor()", x.setFloor(true, 1, 50, limit), 0);
        x.request(0, 0);
        x.tick(1);
        x.request(1, 0);
        return x;
    }

    private static void dueLimit(int limit) {
        ConferenceBridges x = limited(limit);
        if (limit > 1) {
            x.tick(limit - 1);
        }
        due("below the limit", x.property(0, 7), 2);
        x.tick(1);
        due("at the limit", x.property(0, 7), 0);
        due("the other one has it", x.property(1, 7), 2);
        dueEvent(x, 3, 4, 0, limit + 1);
        dueEvent(x, 2, 2, 1, limit + 1);
    }

    static void promise09_limit_101_and_more_is_refused() {
        refused(BAD_VALUE, Boundaries::holding, x -> x.setFloor(false, 1, 3, 101));
        refused(BAD_VALUE, Boundaries::holding, x -> x.setFloor(true, 1, 3, MOST));
    }

    static void promise09_several_bad_arguments_are_refused() {
        refused(BAD_VALUE, Boundaries::holding, x -> x.setFloor(false, 0, 0, -1));
        refused(BAD_VALUE, Boundaries::holding, x -> x.setFloor(false, 5, 51, 101));
    }

    static void promise09_on_and_off_twice() {
        ConferenceBridges x = fresh();
        due("on", x.setFloor(true, 1, 1, 0), 0);
        due("on again", x.setFloor(true, 4, 50, 100), 1);
        due("off", x.setFloor(false, 4, 50, 100), 1);
        due("off again", x.setFloor(false, 4, 50, 100), 0);
        due("undo()", x.undo(), 3);
        due("undo()", x.undo(), 2);
        due("on, after undo", x.setFloor(true, 1, 1, 0), 1);
    }

    static void promise09_fewer_tokens_than_holders_take_it_from_nobody() {
        ConferenceBridges x = phones(4, 30);
        x.setFloor(true, 4, 50, 0);
        for (int p = 0; p < 4; p++) {
            x.request(p, 0);
        }
        x.tick(1);
        x.setFloor(true, 1, 50, 0);
        x.tick(1);
        due("holders", x.count(5), 4);
    }

    static void promise09_as_many_holders_as_tokens_give_it_to_nobody_more() {
        ConferenceBridges x = phones(3, 30);
        x.setFloor(true, 2, 50, 0);
        x.request(0, 0);
        x.request(1, 0);
        x.tick(1);
        x.request(2, 9);
        x.tick(5);
        due("holders", x.count(5), 2);
        due("the third", x.property(2, 7), 1);
        x.giveUp(0);
        x.tick(1);
        due("when a token is free", x.property(2, 7), 2);
    }

    static void promise09_fewer_requests_than_tokens_leave_tokens_over() {
        ConferenceBridges x = phones(2, 30);
        x.setFloor(true, 4, 50, 0);
        x.tick(1);
        due("no request", x.count(5), 0);
        x.request(1, 0);
        x.tick(1);
        due("one request", x.count(5), 1);
        due("no event more", x.count(6), 2);
    }

    static void promise09_without_requests_the_limit_takes_nothing() {
        ConferenceBridges x = phones(2, 30);
        x.setFloor(true, 1, 50, 1);
        x.request(0, 0);
        x.tick(99);
        due("long past the limit", x.property(0, 7), 2);
        x.request(1, 0);
        x.tick(1);
        dueEvent(x, 3, 4, 0, 100);
    }

    static void promise09_one_request_takes_the_floor_from_all_at_the_limit() {
        ConferenceBridges x = phones(3, 30);
        x.setFloor(true, 2, 50, 2);
        x.request(0, 0);
        x.request(1, 0);
        x.tick(2);
        x.request(2, 0);
        x.tick(1);
        due("holders", x.count(5), 1);
        dueEvent(x, 5, 4, 0, 3);
        dueEvent(x, 4, 4, 1, 3);
        dueEvent(x, 3, 2, 2, 3);
    }

    static void promise09_silence_comes_before_the_limit() {
        ConferenceBridges x = phones(2, 0);
        x.setFloor(true, 1, 1, 2);
        x.request(0, 0);
        x.tick(1);
        x.request(1, 0);
        x.tick(2);
        dueEvent(x, 1, 3, 0, 3);
        dueEvent(x, 0, 2, 1, 3);
    }

    /** After one tick level 13 is as loud as the threshold: not silent. */
    static void promise09_as_loud_as_the_threshold_is_not_silent() {
        ConferenceBridges x = phones(1, 0);
        x.setFloor(true, 1, 2, 0);
        x.request(0, 0);
        x.tick(3);
        x.setLevel(0, 13);
        x.tick(1);
        due("its silent time was 2", x.property(0, 7), 2);
        x.setLevel(0, 0);
        x.tick(2);
        due("it is 2 again", x.property(0, 7), 2);
        x.tick(1);
        dueEvent(x, 1, 3, 0, 7);
    }

    static void promise09_the_one_that_gets_it_begins_with_the_times_0() {
        ConferenceBridges x = phones(2, 0);
        x.setFloor(true, 1, 2, 0);
        x.request(0, 0);
        x.tick(3);
        x.giveUp(0);
        x.request(0, 0);
        x.tick(3);
        due("silent for 2", x.property(0, 7), 2);
        x = limited(3);
        x.tick(2);
        x.giveUp(0);
        x.giveUp(1);
        x.request(0, 0);
        x.tick(1);
        x.request(1, 0);
        x.tick(2);
        due("holding for 2", x.property(0, 7), 2);
    }

    static void promise09_while_it_is_off_times_stand_still_and_it_is_not_given() {
        ConferenceBridges x = limited(3);
        x.setFloor(false, 4, 1, 1);
        x.tick(99);
        due("the holder", x.property(0, 7), 2);
        due("the request", x.property(1, 7), 1);
        due("all may speak", x.tick(1), 2);
        x.setFloor(true, 1, 50, 3);
        x.tick(2);
        due("holding for 2", x.property(0, 7), 2);
        x.tick(1);
        due("holding for 3", x.property(0, 7), 0);
    }

    static void promise09_while_it_is_off_the_silent_time_stands_still() {
        ConferenceBridges x = phones(1, 0);
        x.setFloor(true, 1, 2, 0);
        x.request(0, 0);
        x.tick(2);
        x.setFloor(false, 1, 2, 0);
        x.tick(99);
        x.setFloor(true, 1, 2, 0);
        x.tick(1);
        due("silent for 2", x.property(0, 7), 2);
        x.tick(1);
        due("silent for 3", x.property(0, 7), 0);
    }

    static void promise09_while_it_is_on_only_holders_speak() {
        ConferenceBridges x = limited(0);
        due("tick(1)", x.tick(1), 1);
        due("the one with a request", x.property(1, 4), 0);
        x.giveUp(0);
        x.giveUp(1);
        due("without holders", x.tick(1), 0);
    }

    // ---- promise 10: request

    static void promise10_participant_below_0_is_refused() {
        refused(BAD_INDEX, Boundaries::lively, x -> x.request(-1, 0));
        refused(BAD_INDEX, Boundaries::lively, x -> x.request(LEAST, 0));
    }

    static void promise10_the_first_and_the_last_participant_are_taken() {
        due("request(0, 0)", full().request(0, 0), 1);
        due("request(19, 0)", full().request(19, 0), 1);
        undoable(Boundaries::full, x -> x.request(0, 0));
        undoable(Boundaries::full, x -> x.request(19, 0));
    }

    static void promise10_a_participant_behind_the_last_is_refused() {
        refused(BAD_INDEX, Boundaries::fresh, x -> x.request(0, 0));
        refused(BAD_INDEX, Boundaries::lively, x -> x.request(19, 0));
        refused(BAD_INDEX, Boundaries::full, x -> x.request(20, 0));
        refused(BAD_INDEX, Boundaries::full, x -> x.request(MOST, 0));
    }

    static void promise10_one_that_has_left_is_refused() {
        refused(BAD_INDEX, Boundaries::lively, x -> x.request(11, 0));
    }

    static void promise10_priority_below_0_is_refused() {
        refused(BAD_VALUE, Boundaries::lively, x -> x.request(0, -1));
        refused(BAD_VALUE, Boundaries::lively, x -> x.request(0, LEAST));
    }

    static void promise10_priority_0_is_taken_and_is_the_last() {
        ConferenceBridges x = phones(3, 30);
        due("request(0, 0)", x.request(0, 0), 1);
        due("request(1, 1)", x.request(1, 1), 2);
        due("request(2, 0)", x.request(2, 0), 3);
        due("waiting(0)", x.waiting(0), 1);
        due("waiting(1)", x.waiting(1), 0);
        due("waiting(2)", x.waiting(2), 2);
    }

    static void promise10_priority_9_is_taken_and_is_the_first() {
        ConferenceBridges x = phones(3, 30);
        due("request(0, 8)", x.request(0, 8), 1);
        due("request(1, 9)", x.request(1, 9), 2);
        due("request(2, 9)", x.request(2, 9), 3);
        due("waiting(0)", x.waiting(0), 1);
        due("waiting(1)", x.waiting(1), 2);
        due("waiting(2)", x.waiting(2), 0);
    }

    static void promise10_priority_10_and_more_is_refused() {
        refused(BAD_VALUE, Boundaries::lively, x -> x.request(0, 10));
        refused(BAD_VALUE, Boundaries::lively, x -> x.request(0, MOST));
    }

    static void promise10_one_that_has_a_request_is_refused() {
        refused(BAD_STATE, () -> requestsOfTwo(false), x -> x.request(0, 9));
        refused(BAD_STATE, () -> requestsOfTwo(false), x -> x.request(1, 3));
    }

    static void promise10_one_that_holds_the_floor_is_refused() {
        refused(BAD_STATE, () -> requestsOfTwo(true), x -> x.request(1, 9));
    }

    static void promise10_one_that_holds_the_floor_while_it_is_off_is_refused() {
        ConferenceBridges x = requestsOfTwo(true);
        x.setFloor(false, 1, 10, 0);
        due("request(1, 9)", x.request(1, 9), BAD_STATE);
    }

    /** Participant 0 with the priority 3, participant 1 with 5, 2 without; if the floor is on, 1 holds it. */
    private static ConferenceBridges requestsOfTwo(boolean on) {
        ConferenceBridges x = phones(3, 30);
        x.setFloor(on, 1, 10, 4);
        x.request(0, 3);
        x.request(1, 5);
        x.tick(1);
        return x;
    }

    static void promise10_after_it_lost_the_floor_it_is_taken() {
        ConferenceBridges x = requestsOfTwo(true);
        x.tick(4);
        due("it lost the floor", x.property(1, 7), 0);
        due("request(1, 9)", x.request(1, 9), 1);
    }

    static void promise10_a_bad_participant_comes_before_a_bad_priority() {
        refused(BAD_INDEX, Boundaries::lively, x -> x.request(19, 10));
        refused(BAD_INDEX, Boundaries::lively, x -> x.request(11, -1));
    }

    static void promise10_a_bad_priority_comes_before_a_bad_state() {
        refused(BAD_VALUE, () -> requestsOfTwo(true), x -> x.request(0, 10));
        refused(BAD_VALUE, () -> requestsOfTwo(true), x -> x.request(1, -1));
    }

    static void promise10_all_twenty_can_have_requests() {
        ConferenceBridges x = full();
        for (int p = 0; p < 20; p++) {
            due("request(" + p + ", ..)", x.request(p, p % 10), p + 1);
        }
        for (int p = 0; p < 20; p++) {
            due("waiting(" + p + ")", x.waiting(p), 9 - p / 2 + p % 2 * 10);
        }
        due("one more", x.request(19, 0), BAD_STATE);
    }

    static void promise10_of_the_same_priority_the_earliest_gets_it() {
        ConferenceBridges x = phones(3, 30);
        x.request(2, 4);
        x.request(0, 4);
        x.request(1, 4);
        x.setFloor(true, 1, 10, 1);
        for (int p : new int[] {2, 0, 1}) {
            x.tick(1);
            due("who holds it", x.property(p, 7), 2);
        }
    }

    static void promise10_while_the_floor_is_off_it_is_taken_and_not_given() {
        ConferenceBridges x = phones(1, 30);
        due("request(0, 0)", x.request(0, 0), 1);
        x.tick(5);
        due("property(0, 7)", x.property(0, 7), 1);
        x.setFloor(true, 1, 10, 0);
        due("not before a tick", x.property(0, 7), 1);
        x.tick(1);
        due("in a tick", x.property(0, 7), 2);
    }

    // ---- promise 11: giveUp

    static void promise11_participant_below_0_is_refused() {
        refused(BAD_INDEX, Boundaries::lively, x -> x.giveUp(-1));
        refused(BAD_INDEX, Boundaries::lively, x -> x.giveUp(LEAST));
    }

    static void promise11_the_first_and_the_last_participant_are_taken() {
        undoable(BoundaryFloorTest::firstAndLastRequest, x -> x.giveUp(0));
        undoable(BoundaryFloorTest::firstAndLastRequest, x -> x.giveUp(19));
        due("giveUp(0)", firstAndLastRequest().giveUp(0), 0);
        due("giveUp(19)", firstAndLastRequest().giveUp(19), 0);
    }

    private static ConferenceBridges firstAndLastRequest() {
        ConferenceBridges x = full();
        x.request(19, 5);
        x.request(0, 5);
        return x;
    }

    static void promise11_a_participant_behind_the_last_is_refused() {
        refused(BAD_INDEX, Boundaries::fresh, x -> x.giveUp(0));
        refused(BAD_INDEX, Boundaries::lively, x -> x.giveUp(19));
        refused(BAD_INDEX, Boundaries::full, x -> x.giveUp(20));
        refused(BAD_INDEX, Boundaries::full, x -> x.giveUp(MOST));
    }

    static void promise11_one_that_has_left_is_refused() {
        refused(BAD_INDEX, Boundaries::lively, x -> x.giveUp(14));
        ConferenceBridges x = requestsOfTwo(true);
        x.leave(1);
        due("one that had the floor", x.giveUp(1), BAD_INDEX);
    }

    static void promise11_one_that_has_neither_is_refused() {
        refused(BAD_STATE, Boundaries::lively, x -> x.giveUp(0));
        refused(BAD_STATE, () -> phones(1, 30), x -> x.giveUp(0));
    }

    static void promise11_a_request_is_given_up_once() {
        ConferenceBridges x = requestsOfTwo(false);
        due("giveUp(1)", x.giveUp(1), 0);
        due("count(4)", x.count(4), 1);
        due("waiting(0)", x.waiting(0), 0);
        due("giveUp(1) again", x.giveUp(1), BAD_STATE);
    }

    static void promise11_the_floor_is_given_up_once() {
        ConferenceBridges x = requestsOfTwo(true);
        undoable(() -> requestsOfTwo(true), y -> y.giveUp(1));
        due("giveUp(1)", x.giveUp(1), 1);
        due("count(5)", x.count(5), 0);
        due("no event", x.count(6), 2);
        due("giveUp(1) again", x.giveUp(1), BAD_STATE);
        x.tick(1);
        due("the next one gets it", x.property(0, 7), 2);
    }

    static void promise11_while_the_floor_is_off_it_is_taken() {
        ConferenceBridges x = requestsOfTwo(true);
        x.setFloor(false, 1, 10, 0);
        due("the floor", x.giveUp(1), 1);
        due("the request", x.giveUp(0), 0);
    }

    static void promise11_the_first_the_last_and_one_between_of_the_row_of_requests() {
        ConferenceBridges x = phones(5, 30);
        for (int p = 0; p < 5; p++) {
            x.request(p, 5);
        }
        due("one between", x.giveUp(2), 0);
        due("the first", x.giveUp(0), 0);
        due("the last", x.giveUp(4), 0);
        due("waiting(0)", x.waiting(0), 1);
        due("waiting(1)", x.waiting(1), 3);
        due("waiting(2)", x.waiting(2), BAD_INDEX);
    }

    static void promise11_a_request_after_it_is_the_latest() {
        ConferenceBridges x = phones(2, 30);
        x.request(0, 5);
        x.request(1, 5);
        x.giveUp(0);
        due("request(0, 5)", x.request(0, 5), 2);
        due("waiting(0)", x.waiting(0), 1);
        due("waiting(1)", x.waiting(1), 0);
    }
}
