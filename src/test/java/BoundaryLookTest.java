import java.util.ArrayList;
import java.util.List;

/** The boundary cases of promises 18 to 29: what there is. */
public final class BoundaryLookTest extends Boundaries {
    public static void main(String[] args) throws IllegalAccessException {
        runCases(BoundaryLookTest.class, 18, 29);
    }

    /** A call for which a participant is looked up, as its only argument that counts. */
    interface Look {
        long at(ConferenceBridges x, int participant);
    }

    private static void dueBelow0(Look look) {
        refused(BAD_INDEX, Boundaries::lively, x -> look.at(x, -1));
        refused(BAD_INDEX, Boundaries::lively, x -> look.at(x, LEAST));
    }

    private static void dueBehindTheLast(Look look) {
        refused(BAD_INDEX, Boundaries::fresh, x -> look.at(x, 0));
        refused(BAD_INDEX, Boundaries::lively, x -> look.at(x, 19));
        refused(BAD_INDEX, Boundaries::full, x -> look.at(x, 20));
        refused(BAD_INDEX, Boundaries::full, x -> look.at(x, MOST));
    }

    private static void dueHasLeft(Look look) {
        refused(BAD_INDEX, Boundaries::lively, x -> look.at(x, 11));
        refused(BAD_INDEX, Boundaries::lively, x -> look.at(x, 14));
    }

    // ---- promise 18: count

    static void promise18_what_below_0_is_refused() {
        refused(BAD_VALUE, Boundaries::lively, x -> x.count(-1));
        refused(BAD_VALUE, Boundaries::lively, x -> x.count(LEAST));
    }

    static void promise18_what_0_to_6_is_taken() {
        int[] want = {7, 19, 15, 6, 5, 2, 30};
        for (int what = 0; what <= 6; what++) {
            due("count(" + what + ")", lively().count(what), want[what]);
        }
    }

    static void promise18_what_7_and_more_is_refused() {
        refused(BAD_VALUE, Boundaries::lively, x -> x.count(7));
        refused(BAD_VALUE, Boundaries::lively, x -> x.count(MOST));
    }

    static void promise18_the_least_of_each_number() {
        int[] want = {1, 0, 0, 0, 0, 0, 0};
        for (int what = 0; what <= 6; what++) {
            due("count(" + what + ")", fresh().count(what), want[what]);
        }
    }

    static void promise18_the_most_bridges_and_participants() {
        due("count(0)", full().count(0), 8);
        due("count(1)", full().count(1), 20);
        due("count(2)", full().count(2), 20);
    }

    static void promise18_those_that_have_left_have_joined_and_are_not_present() {
        ConferenceBridges x = phones(2, 30);
        x.leave(0);
        x.leave(1);
        due("count(1)", x.count(1), 2);
        due("count(2)", x.count(2), 0);
    }

    static void promise18_the_most_requests_and_holders() {
        ConferenceBridges x = full();
        for (int p = 0; p < 20; p++) {
            x.request(p, 0);
        }
        due("count(4)", x.count(4), 20);
        x.setFloor(true, 4, 50, 0);
        x.tick(1);
        due("count(4)", x.count(4), 16);
        due("count(5)", x.count(5), 4);
    }

    static void promise18_the_first_and_the_last_number_as_holders() {
        ConferenceBridges x = full();
        x.setFloor(true, 2, 50, 0);
        x.request(0, 0);
        x.request(19, 0);
        x.tick(1);
        due("count(5)", x.count(5), 2);
        x.giveUp(0);
        due("count(5)", x.count(5), 1);
    }

    static void promise18_the_thirtieth_and_the_thirty_first_event() {
        due("29 events", events(29).count(6), 29);
        due("30 events", events(30).count(6), 30);
        due("31 events", events(31).count(6), 30);
        due("90 events", events(90).count(6), 30);
    }

    /** One event in each tick: participant 0 becomes a speaker, and is none any more. */
    private static ConferenceBridges events(int many) {
        ConferenceBridges x = phones(1, 60);
        for (int tick = 1; tick <= many; tick++) {
            x.setMuted(0, tick % 2 == 0);
            x.tick(1);
        }
        return x;
    }

    // ---- promise 19: property

    static void promise19_participant_below_0_is_refused() {
        dueBelow0((x, p) -> x.property(p, 0));
    }

    static void promise19_the_first_and_the_last_participant_are_taken() {
        due("property(0, 2)", full().property(0, 2), 24);
        due("property(19, 2)", full().property(19, 2), 43);
    }

    static void promise19_a_participant_behind_the_last_is_refused() {
        dueBehindTheLast((x, p) -> x.property(p, 0));
    }

    static void promise19_one_that_has_left_is_refused() {
        for (int what = 0; what <= 8; what++) {
            int property = what;
            dueHasLeft((x, p) -> x.property(p, property));
        }
    }

    static void promise19_what_below_0_is_refused() {
        refused(BAD_VALUE, Boundaries::lively, x -> x.property(0, -1));
        refused(BAD_VALUE, Boundaries::lively, x -> x.property(0, LEAST));
    }

    static void promise19_what_0_to_8_is_taken() {
        ConferenceBridges x = line(2, 1);
        x.join(0, 0);
        x.join(1, 1);
        x.join(1, 0);
        x.setLevel(1, 33);
        x.setLevel(2, 30);
        x.tick(4);
        x.setMuted(2, true);
        x.request(1, 3);
        x.tick(2);
        int[][] want = {{0, 0, 0, 0, 0, 0, 6, 0, 1}, {1, 1, 33, 0, 1, 6, 0, 1, 0}, {1, 0, 30, 1, 0, 4, 0, 0, 1}};
        for (int p = 0; p < 3; p++) {
            for (int what = 0; what <= 8; what++) {
                due("property(" + p + ", " + what + ")", x.property(p, what), want[p][what]);
            }
        }
    }

    static void promise19_what_9_and_more_is_refused() {
        refused(BAD_VALUE, Boundaries::lively, x -> x.property(0, 9));
        refused(BAD_VALUE, Boundaries::lively, x -> x.property(0, MOST));
    }

    static void promise19_a_bad_participant_comes_before_a_bad_what() {
        refused(BAD_INDEX, Boundaries::lively, x -> x.property(19, 9));
        refused(BAD_INDEX, Boundaries::lively, x -> x.property(11, -1));
    }

    static void promise19_a_speaker_of_the_bridge_that_it_has_left_is_a_speaker() {
        ConferenceBridges x = phones(1, 30);
        x.addBridge(0, 1, false);
        x.tick(1);
        x.move(0, 1);
        due("property(0, 4)", x.property(0, 4), 1);
    }

    static void promise19_the_floor_comes_before_nothing_and_a_request_is_1() {
        ConferenceBridges x = phones(1, 30);
        due("neither", x.property(0, 7), 0);
        x.request(0, 0);
        due("a request", x.property(0, 7), 1);
        x.setFloor(true, 1, 10, 0);
        x.tick(1);
        due("the floor", x.property(0, 7), 2);
        x.giveUp(0);
        due("neither", x.property(0, 7), 0);
    }

    static void promise19_it_hears_nobody_or_all_19_others() {
        ConferenceBridges x = star(60);
        due("before the first tick", x.property(0, 8), 0);
        x.tick(2);
        for (int p = 0; p < 20; p += 5) {
            due("property(" + p + ", 8)", x.property(p, 8), 19);
        }
    }

    static void promise19_one_that_has_left_counts_among_those_that_are_heard_until_the_next_tick() {
        ConferenceBridges x = phones(3, 30);
        x.tick(1);
        x.leave(0);
        due("property(2, 8)", x.property(2, 8), 2);
        x.setLevel(2, 0);
        x.tick(1);
        due("property(2, 8)", x.property(2, 8), 1);
    }

    // ---- promise 20: loudnessBits

    static void promise20_participant_below_0_is_refused() {
        dueBelow0((x, p) -> x.loudnessBits(p));
    }

    static void promise20_the_first_and_the_last_participant_are_taken() {
        ConferenceBridges x = star(30);
        x.setLevel(19, 33);
        x.tick(1);
        due("loudnessBits(0)", x.loudnessBits(0), bits(512.0f));
        due("loudnessBits(19)", x.loudnessBits(19), bits(1024.0f));
    }

    static void promise20_a_participant_behind_the_last_is_refused() {
        dueBehindTheLast((x, p) -> x.loudnessBits(p));
    }

    static void promise20_one_that_has_left_is_refused() {
        dueHasLeft((x, p) -> x.loudnessBits(p));
    }

    static void promise20_the_loudness_0_is_0() {
        due("at first", phones(1, 60).loudnessBits(0), 0);
        ConferenceBridges x = phones(1, 0);
        x.tick(99);
        due("after ticks", x.loudnessBits(0), 0);
    }

    static void promise20_the_greatest_loudness() {
        ConferenceBridges x = phones(1, 60);
        x.tick(24);
        due("below it", x.loudnessBits(0), bits(1048575.9375f));
        x.tick(1);
        due("at it", x.loudnessBits(0), bits(1048576.0f));
        x.tick(99);
        due("it stays", x.loudnessBits(0), bits(1048576.0f));
    }

    static void promise20_just_below_and_at_and_above_powers_of_two() {
        for (int level : new int[] {3, 6, 30, 57}) {
            float power = 1 << level / 3;
            ConferenceBridges x = phones(1, level);
            float loud = 0.0f;
            for (int tick = 1; tick <= 30; tick++) {
                x.tick(1);
                loud = loud + (power - loud) * 0.5f;
                due("level " + level + " in tick " + tick, x.loudnessBits(0), bits(loud));
            }
            x.setLevel(0, level + 1);
            x.tick(1);
            loud = loud + (1.2599211f * power - loud) * 0.5f;
            due("above level " + level, x.loudnessBits(0), bits(loud));
        }
    }

    static void promise20_every_level() {
        float[] third = {1.0f, 1.2599211f, 1.587401f};
        for (int level = 1; level <= 60; level++) {
            ConferenceBridges x = phones(1, level);
            x.tick(1);
            due("level " + level, x.loudnessBits(0), bits(third[level % 3] * (1 << level / 3) * 0.5f));
        }
    }

    /** Less than the least float with a leading one, down to where an eighth of it is nothing any more. */
    static void promise20_the_least_loudnesses() {
        ConferenceBridges x = phones(1, 1);
        x.tick(1);
        x.setLevel(0, 0);
        float loud = 1.2599211f * 0.5f;
        for (int round = 0; round < 120; round++) {
            x.tick(7);
            for (int tick = 0; tick < 7; tick++) {
                loud = loud + (0.0f - loud) * 0.125f;
            }
            due("after " + (round + 1) * 7 + " ticks", x.loudnessBits(0), bits(loud));
        }
        due("it is that small", loud < Float.MIN_NORMAL && loud > 0.0f ? 1 : 0, 1);
    }

    // ---- promise 21: mixBits

    static void promise21_participant_below_0_is_refused() {
        dueBelow0((x, p) -> x.mixBits(p));
    }

    static void promise21_the_first_and_the_last_participant_are_taken() {
        ConferenceBridges x = phones(6, 0);
        x.setLevel(2, 30);
        x.tick(1);
        due("mixBits(0)", x.mixBits(0), bits(512.0f));
        due("mixBits(5)", x.mixBits(5), bits(512.0f));
        ConferenceBridges y = star(30);
        y.tick(1);
        due("mixBits(19)", y.mixBits(19), bits(1536.0f));
    }

    static void promise21_a_participant_behind_the_last_is_refused() {
        dueBehindTheLast((x, p) -> x.mixBits(p));
    }

    static void promise21_one_that_has_left_is_refused() {
        dueHasLeft((x, p) -> x.mixBits(p));
    }

    static void promise21_before_the_first_tick_and_where_nobody_is_heard_it_is_0() {
        due("before the first tick", phones(2, 30).mixBits(1), 0);
        ConferenceBridges x = phones(2, 0);
        x.tick(5);
        due("nobody speaks", x.mixBits(1), 0);
        x.setLevel(0, 30);
        x.tick(1);
        due("only itself", x.mixBits(0), 0);
    }

    static void promise21_for_one_that_joins_it_is_0_until_the_next_tick() {
        ConferenceBridges x = phones(1, 30);
        x.tick(1);
        x.join(0, 0);
        due("mixBits(1)", x.mixBits(1), 0);
        x.tick(1);
        due("mixBits(1)", x.mixBits(1), bits(768.0f));
    }

    /** With these levels the sum is another one in every other order: from the last, from the loudest, from the quietest. */
    static void promise21_the_sum_is_in_ascending_order_of_the_speakers() {
        ConferenceBridges x = phones(5, 0);
        x.setSelection(4, 1, 16, 3);
        int[] levels = {50, 4, 45, 7};
        for (int p = 0; p < 4; p++) {
            x.setLevel(p, levels[p]);
        }
        due("tick(1)", x.tick(1), 4);
        float[] loud = {1.587401f * 32768.0f, 1.2599211f, 16384.0f, 1.2599211f * 2.0f};
        float sum = 0.0f + loud[0] + loud[1] + loud[2] + loud[3];
        due("mixBits(4)", x.mixBits(4), bits(sum));
        due("from the last", bits(0.0f + loud[3] + loud[2] + loud[1] + loud[0]) != bits(sum) ? 1 : 0, 1);
        due("from the loudest", bits(0.0f + loud[0] + loud[2] + loud[3] + loud[1]) != bits(sum) ? 1 : 0, 1);
        due("from the quietest", bits(0.0f + loud[1] + loud[3] + loud[2] + loud[0]) != bits(sum) ? 1 : 0, 1);
    }

    static void promise21_the_greatest_mix() {
        ConferenceBridges x = star(60);
        x.tick(40);
        due("mixBits(0)", x.mixBits(0), bits(19922944.0f));
    }

    static void promise21_the_mix_of_streams_that_came_from_several_sides() {
        ConferenceBridges x = fresh();
        x.addBridge(0, 1, false);
        x.addBridge(0, 1, false);
        x.join(0, 0);
        x.join(1, 0);
        x.join(2, 0);
        x.setLevel(1, 30);
        x.setLevel(2, 33);
        x.tick(2);
        due("mixBits(0)", x.mixBits(0), bits(1536.0f));
        x.tick(1);
        due("mixBits(1)", x.mixBits(1), bits(1024.0f));
        due("mixBits(2)", x.mixBits(2), bits(512.0f));
    }

    // ---- promise 22: mix

    static void promise22_participant_below_0_is_refused() {
        dueBelow0((x, p) -> x.mix(p));
    }

    static void promise22_the_first_and_the_last_participant_are_taken() {
        ConferenceBridges x = phones(6, 0);
        x.setLevel(2, 30);
        x.tick(1);
        due("mix(0)", x.mix(0), 4096);
        due("mix(5)", x.mix(5), 4096);
        ConferenceBridges y = star(30);
        y.tick(1);
        due("mix(19)", y.mix(19), 12288);
    }

    static void promise22_a_participant_behind_the_last_is_refused() {
        dueBehindTheLast((x, p) -> x.mix(p));
    }

    static void promise22_one_that_has_left_is_refused() {
        dueHasLeft((x, p) -> x.mix(p));
    }

    static void promise22_where_nobody_is_heard_it_is_0() {
        due("mix(0)", phones(1, 30).mix(0), 0);
    }

    /** 8 times 10.07.. is 80.63.., and 8 times 15.11.. is 120.95..: both are cut, not rounded. */
    static void promise22_what_is_behind_the_point_is_cut_off() {
        ConferenceBridges x = phones(2, 0);
        x.setLevel(0, 13);
        x.tick(1);
        due("mix(1)", x.mix(1), 80);
        x.tick(1);
        due("mix(1)", x.mix(1), 120);
    }

    static void promise22_the_greatest_mix() {
        ConferenceBridges x = star(60);
        x.tick(40);
        due("mix(0)", x.mix(0), 159383552);
    }

    /** A speaker that hangs on though it has all but vanished. */
    static void promise22_less_than_an_eighth_is_0() {
        ConferenceBridges x = phones(2, 0);
        x.setSelection(1, 1, 4, 20);
        x.setLevel(0, 4);
        x.tick(1);
        x.setLevel(0, 0);
        x.tick(17);
        due("1.2599211 * 0.875 to the power of 17 is 0.130..", x.mix(1), 1);
        x.tick(1);
        due("and of 18 is 0.113..", x.mix(1), 0);
        due("it is heard", x.hears(1, 0), 1);
    }

    // ---- promise 23: hears

    static void promise23_listener_below_0_is_refused() {
        dueBelow0((x, p) -> x.hears(p, 0));
    }

    static void promise23_a_listener_behind_the_last_is_refused() {
        dueBehindTheLast((x, p) -> x.hears(p, 0));
    }

    static void promise23_a_listener_that_has_left_is_refused() {
        dueHasLeft((x, p) -> x.hears(p, 0));
        dueHasLeft((x, p) -> x.hears(p, p));
    }

    static void promise23_speaker_below_0_is_refused() {
        dueBelow0((x, p) -> x.hears(0, p));
    }

    static void promise23_a_speaker_behind_the_last_is_refused() {
        dueBehindTheLast((x, p) -> x.hears(0, p));
    }

    static void promise23_a_speaker_that_has_left_is_taken() {
        for (int speaker = 11; speaker <= 14; speaker++) {
            due("hears(0, " + speaker + ")", lively().hears(0, speaker) >= 0 ? 1 : 0, 1);
        }
        ConferenceBridges x = phones(2, 30);
        x.tick(1);
        x.leave(1);
        due("heard until the next tick", x.hears(0, 1), 1);
        x.tick(1);
        due("and not any more", x.hears(0, 1), 0);
    }

    static void promise23_a_speaker_that_has_left_as_the_last_number_is_taken() {
        ConferenceBridges x = phones(2, 30);
        x.leave(1);
        due("hears(0, 1)", x.hears(0, 1), 0);
        due("hears(0, 2)", x.hears(0, 2), BAD_INDEX);
    }

    static void promise23_the_first_and_the_last_number() {
        ConferenceBridges x = star(60);
        x.tick(1);
        due("hears(0, 19)", x.hears(0, 19), 0);
        x.tick(39);
        due("hears(0, 19)", x.hears(0, 19), 1);
        due("hears(15, 19)", x.hears(15, 19), 1);
        due("hears(19, 0)", x.hears(19, 0), 1);
    }

    static void promise23_nobody_hears_itself() {
        ConferenceBridges x = star(60);
        x.tick(40);
        for (int p = 0; p < 20; p++) {
            due("hears(" + p + ", " + p + ")", x.hears(p, p), 0);
        }
    }

    static void promise23_before_the_first_tick_nobody_is_heard() {
        due("hears(0, 1)", phones(2, 60).hears(0, 1), 0);
    }

    static void promise23_one_that_joins_hears_nobody_until_the_next_tick() {
        ConferenceBridges x = phones(1, 60);
        x.tick(1);
        x.join(0, 0);
        due("hears(1, 0)", x.hears(1, 0), 0);
        x.tick(1);
        due("hears(1, 0)", x.hears(1, 0), 1);
    }

    // ---- promise 24: stream

    static void promise24_bridge_below_0_is_refused() {
        refused(BAD_INDEX, Boundaries::lively, x -> x.stream(-1, 0, 0, 0));
        refused(BAD_INDEX, Boundaries::lively, x -> x.stream(LEAST, 0, 0, 0));
    }

    static void promise24_a_bridge_behind_the_last_is_refused() {
        refused(BAD_INDEX, Boundaries::lively, x -> x.stream(7, 0, 0, 0));
        refused(BAD_INDEX, Boundaries::full, x -> x.stream(8, 7, 0, 0));
        refused(BAD_INDEX, Boundaries::full, x -> x.stream(MOST, 0, 0, 0));
    }

    static void promise24_neighbour_below_0_is_refused() {
        refused(BAD_INDEX, Boundaries::lively, x -> x.stream(0, -1, 0, 0));
        refused(BAD_INDEX, Boundaries::lively, x -> x.stream(1, LEAST, 0, 0));
    }

    static void promise24_a_neighbour_behind_the_last_is_refused() {
        refused(BAD_INDEX, Boundaries::lively, x -> x.stream(0, 7, 0, 0));
        refused(BAD_INDEX, Boundaries::full, x -> x.stream(7, 8, 0, 0));
        refused(BAD_INDEX, Boundaries::full, x -> x.stream(0, MOST, 0, 0));
    }

    static void promise24_the_first_and_the_last_bridge_are_taken() {
        ConferenceBridges x = line(8, 1);
        x.join(0, 0);
        x.join(7, 0);
        x.setLevel(0, 30);
        x.setLevel(1, 30);
        x.tick(1);
        due("stream(1, 0, 0, 0)", x.stream(1, 0, 0, 0), 0);
        due("stream(6, 7, 0, 0)", x.stream(6, 7, 0, 0), 1);
        due("stream(0, 1, 0, 0)", x.stream(0, 1, 0, 0), NONE);
        due("stream(7, 6, 0, 0)", x.stream(7, 6, 0, 0), NONE);
    }

    static void promise24_an_index_below_0_is_refused() {
        refused(BAD_VALUE, Boundaries::lively, x -> x.stream(0, 1, -1, 0));
        refused(BAD_VALUE, Boundaries::lively, x -> x.stream(0, 1, LEAST, 0));
    }

    static void promise24_what_below_0_is_refused() {
        refused(BAD_VALUE, Boundaries::lively, x -> x.stream(0, 1, 0, -1));
        refused(BAD_VALUE, Boundaries::lively, x -> x.stream(0, 1, 0, LEAST));
    }

    static void promise24_what_0_to_2_is_taken() {
        ConferenceBridges x = line(2, 1);
        x.join(0, 0);
        x.join(0, 0);
        x.setLevel(1, 30);
        x.tick(2);
        due("its speaker", x.stream(1, 0, 0, 0), 1);
        due("its age", x.stream(1, 0, 0, 1), 1);
        due("its loudness", x.stream(1, 0, 0, 2), bits(768.0f));
    }

    static void promise24_what_3_and_more_is_refused() {
        refused(BAD_VALUE, Boundaries::lively, x -> x.stream(0, 1, 0, 3));
        refused(BAD_VALUE, Boundaries::lively, x -> x.stream(0, 1, 0, MOST));
    }

    static void promise24_before_the_first_tick_there_is_none() {
        due("stream(0, 1, 0, 0)", line(2, 4).stream(0, 1, 0, 0), NONE);
        due("stream(1, 0, 3, 2)", line(2, 4).stream(1, 0, 3, 2), NONE);
    }

    static void promise24_the_last_index_and_one_behind_it() {
        ConferenceBridges x = star(30);
        x.tick(1);
        due("stream(0, 4, 3, 0)", x.stream(0, 4, 3, 0), 19);
        for (int what = 0; what <= 2; what++) {
            due("stream(0, 4, 4, " + what + ")", x.stream(0, 4, 4, what), NONE);
        }
        due("stream(0, 3, 4, 0)", x.stream(0, 3, 4, 0), NONE);
        due("a far index", x.stream(0, 4, MOST, 0), NONE);
    }

    static void promise24_bridges_that_are_not_neighbours_are_refused() {
        refused(BAD_STATE, () -> line(4, 1), x -> x.stream(0, 2, 0, 0));
        refused(BAD_STATE, () -> line(4, 1), x -> x.stream(3, 1, 0, 0));
        refused(BAD_STATE, Boundaries::lively, x -> x.stream(1, 2, 0, 0));
        refused(BAD_STATE, Boundaries::full, x -> x.stream(7, 0, 99, 2));
    }

    static void promise24_a_bridge_is_not_its_own_neighbour() {
        for (int bridge = 0; bridge < 7; bridge++) {
            int own = bridge;
            refused(BAD_STATE, Boundaries::lively, x -> x.stream(own, own, 0, 0));
        }
    }

    static void promise24_a_bad_bridge_comes_before_bad_values() {
        refused(BAD_INDEX, Boundaries::lively, x -> x.stream(7, 0, -1, 0));
        refused(BAD_INDEX, Boundaries::lively, x -> x.stream(0, 7, 0, 3));
        refused(BAD_INDEX, Boundaries::lively, x -> x.stream(-1, -1, -1, -1));
    }

    static void promise24_bad_values_come_before_no_neighbours() {
        refused(BAD_VALUE, Boundaries::lively, x -> x.stream(1, 2, -1, 0));
        refused(BAD_VALUE, Boundaries::lively, x -> x.stream(1, 2, 0, 3));
        refused(BAD_VALUE, Boundaries::lively, x -> x.stream(0, 0, 0, -1));
    }

    static void promise24_bad_values_and_no_neighbours_come_before_no_such_stream() {
        due("what 3", line(2, 1).stream(0, 1, 9, 3), BAD_VALUE);
        due("no neighbours", line(3, 1).stream(0, 2, 9, 0), BAD_STATE);
    }

    static void promise24_the_loudest_one_has_the_index_0() {
        ConferenceBridges x = line(2, 4);
        x.setSelection(4, 10, 6, 3);
        for (int p = 0; p < 4; p++) {
            x.join(0, 0);
            x.setLevel(p, 24 + p);
        }
        x.tick(1);
        for (int i = 0; i < 4; i++) {
            due("index " + i, x.stream(1, 0, i, 0), 3 - i);
        }
    }

    static void promise24_a_stream_will_be_heard_in_the_next_tick() {
        ConferenceBridges x = line(2, 1);
        x.join(0, 0);
        x.join(1, 0);
        x.setLevel(0, 30);
        x.tick(1);
        due("it has arrived", x.stream(1, 0, 0, 0), 0);
        due("it is not heard", x.hears(1, 0), 0);
        int loudness = x.stream(1, 0, 0, 2);
        x.tick(1);
        due("it is heard", x.hears(1, 0), 1);
        due("its loudness", x.mixBits(1), loudness);
    }

    // ---- promise 25: distance

    static void promise25_participants_below_0_are_refused() {
        dueBelow0((x, p) -> x.distance(p, 0));
        dueBelow0((x, p) -> x.distance(0, p));
    }

    static void promise25_participants_behind_the_last_are_refused() {
        dueBehindTheLast((x, p) -> x.distance(p, 0));
        dueBehindTheLast((x, p) -> x.distance(0, p));
    }

    static void promise25_participants_that_have_left_are_refused() {
        dueHasLeft((x, p) -> x.distance(p, 0));
        dueHasLeft((x, p) -> x.distance(0, p));
        dueHasLeft((x, p) -> x.distance(p, p));
    }

    static void promise25_at_the_same_bridge_and_to_itself_it_is_0() {
        due("distance(0, 1)", phones(2, 0).distance(0, 1), 0);
        due("distance(0, 0)", phones(2, 0).distance(0, 0), 0);
        due("distance(19, 19)", full().distance(19, 19), 0);
    }

    static void promise25_from_the_first_to_the_last_of_a_line_of_eight_it_is_7() {
        ConferenceBridges x = line(8, 1);
        x.join(0, 0);
        x.join(7, 0);
        due("distance(0, 1)", x.distance(0, 1), 7);
        due("distance(1, 0)", x.distance(1, 0), 7);
        x.setLevel(0, 30);
        x.tick(7);
        due("a tick too early", x.hears(1, 0), 0);
        x.tick(1);
        due("a stream needs as many ticks", x.hears(1, 0), 1);
    }

    static void promise25_neighbours_and_bridges_with_the_same_parent() {
        ConferenceBridges x = fresh();
        for (int bridge = 1; bridge < 8; bridge++) {
            x.addBridge(0, 1, false);
        }
        x.join(0, 0);
        x.join(1, 0);
        x.join(7, 0);
        due("distance(0, 2)", x.distance(0, 2), 1);
        due("distance(2, 0)", x.distance(2, 0), 1);
        due("distance(1, 2)", x.distance(1, 2), 2);
    }

    static void promise25_over_a_bridge_that_both_ways_share() {
        ConferenceBridges x = fresh();
        for (int parent : new int[] {0, 1, 1, 2, 3, 4, 5}) {
            x.addBridge(parent, 1, false);
        }
        for (int bridge : new int[] {6, 7, 0, 1}) {
            x.join(bridge, 0);
        }
        due("6, 4, 2, 1, 3, 5, 7", x.distance(0, 1), 6);
        due("6, 4, 2, 1, 0", x.distance(0, 2), 4);
        due("1, 3, 5, 7", x.distance(3, 1), 3);
    }

    // ---- promise 26: waiting

    static void promise26_an_index_below_0_is_refused() {
        refused(BAD_INDEX, Boundaries::lively, x -> x.waiting(-1));
        refused(BAD_INDEX, Boundaries::lively, x -> x.waiting(LEAST));
    }

    static void promise26_without_requests_the_index_0_is_refused() {
        refused(BAD_INDEX, Boundaries::fresh, x -> x.waiting(0));
        refused(BAD_INDEX, Boundaries::full, x -> x.waiting(0));
    }

    static void promise26_with_one_request_the_index_0_is_taken_and_1_is_refused() {
        ConferenceBridges x = phones(2, 0);
        x.request(1, 0);
        due("waiting(0)", x.waiting(0), 1);
        due("waiting(1)", x.waiting(1), BAD_INDEX);
        x.giveUp(1);
        due("waiting(0)", x.waiting(0), BAD_INDEX);
    }

    static void promise26_the_last_request_and_one_behind_it() {
        due("waiting(4)", lively().waiting(4) >= 0 ? 1 : 0, 1);
        refused(BAD_INDEX, Boundaries::lively, x -> x.waiting(5));
        refused(BAD_INDEX, Boundaries::lively, x -> x.waiting(MOST));
    }

    static void promise26_twenty_requests() {
        ConferenceBridges x = full();
        for (int p = 19; p >= 0; p--) {
            x.request(p, 5);
        }
        due("waiting(0)", x.waiting(0), 19);
        due("waiting(19)", x.waiting(19), 0);
        due("waiting(20)", x.waiting(20), BAD_INDEX);
    }

    static void promise26_the_highest_priority_first_of_several_the_earliest() {
        ConferenceBridges x = phones(6, 0);
        int[] priorities = {0, 9, 5, 9, 0, 5};
        for (int p = 0; p < 6; p++) {
            x.request(p, priorities[p]);
        }
        int[] want = {1, 3, 2, 5, 0, 4};
        for (int i = 0; i < 6; i++) {
            due("waiting(" + i + ")", x.waiting(i), want[i]);
        }
        x.setFloor(true, 1, 50, 1);
        for (int i = 0; i < 6; i++) {
            due("waiting(0)", x.waiting(0), want[i]);
            x.tick(1);
            due("it is granted", x.property(want[i], 7), 2);
        }
    }

    // ---- promise 27: foretell

    static void promise27_participant_below_0_is_refused() {
        dueBelow0((x, p) -> x.foretell(p, 1));
    }

    static void promise27_a_participant_behind_the_last_is_refused() {
        dueBehindTheLast((x, p) -> x.foretell(p, 1));
    }

    static void promise27_one_that_has_left_is_refused() {
        dueHasLeft((x, p) -> x.foretell(p, 1));
        ConferenceBridges x = phones(1, 30);
        x.tick(1);
        x.leave(0);
        due("a speaker that has left", x.foretell(0, 1), BAD_INDEX);
    }

    static void promise27_many_0_and_less_is_refused() {
        refused(BAD_VALUE, Boundaries::lively, x -> x.foretell(0, 0));
        refused(BAD_VALUE, Boundaries::lively, x -> x.foretell(0, -1));
        refused(BAD_VALUE, Boundaries::lively, x -> x.foretell(0, LEAST));
    }

    static void promise27_many_1_is_taken() {
        due("in the first tick", phones(1, 13).foretell(0, 1), 1);
        due("not in the first tick", phones(1, 12).foretell(0, 1), NONE);
        due("in the second", phones(1, 12).foretell(0, 2), 2);
    }

    /** The floor goes on after 98 ticks, in tick 99, or after 99, in tick 100. */
    static void promise27_many_99_is_taken() {
        due("in tick 99", second(98).foretell(1, 99), 99);
        due("not in tick 98", second(98).foretell(1, 98), NONE);
        due("not in tick 99", second(99).foretell(1, 99), NONE);
    }

    private static ConferenceBridges second(int limit) {
        ConferenceBridges x = phones(2, 30);
        x.setFloor(true, 1, 50, limit);
        x.request(0, 5);
        x.request(1, 5);
        return x;
    }

    static void promise27_many_100_and_more_is_refused() {
        refused(BAD_VALUE, Boundaries::lively, x -> x.foretell(0, 100));
        refused(BAD_VALUE, Boundaries::lively, x -> x.foretell(0, MOST));
    }

    static void promise27_a_bad_participant_comes_before_a_bad_many() {
        refused(BAD_INDEX, Boundaries::lively, x -> x.foretell(19, 0));
        refused(BAD_INDEX, Boundaries::lively, x -> x.foretell(11, 100));
    }

    static void promise27_one_that_is_a_speaker_now_is_foretold_0() {
        ConferenceBridges x = phones(1, 30);
        x.tick(1);
        due("foretell(0, 1)", x.foretell(0, 1), 0);
        x.setMuted(0, true);
        due("also if the next tick drops it", x.foretell(0, 99), 0);
    }

    static void promise27_a_bad_many_is_refused_for_a_speaker_too() {
        ConferenceBridges x = phones(1, 30);
        x.tick(1);
        due("foretell(0, 0)", x.foretell(0, 0), BAD_VALUE);
        due("foretell(0, 100)", x.foretell(0, 100), BAD_VALUE);
    }

    static void promise27_one_that_never_speaks() {
        due("level 0", phones(1, 0).foretell(0, 99), NONE);
        ConferenceBridges x = phones(1, 60);
        x.setMuted(0, true);
        due("muted", x.foretell(0, 99), NONE);
    }

    static void promise27_the_first_time_counts_though_it_does_not_last() {
        ConferenceBridges x = phones(3, 30);
        x.setFloor(true, 1, 50, 2);
        x.request(0, 5);
        x.request(1, 5);
        x.request(2, 5);
        due("foretell(1, 99)", x.foretell(1, 99), 3);
        x.tick(3);
        due("a speaker", x.property(1, 4), 1);
        x.tick(2);
        due("no speaker any more", x.property(1, 4), 0);
    }

    static void promise27_it_changes_nothing() {
        changesNothing(Boundaries::lively, x -> x.foretell(1, 99));
        changesNothing(Boundaries::full, x -> x.foretell(19, 99));
        changesNothing(() -> second(98), x -> x.foretell(1, 99));
    }

    // ---- promise 28: event

    static void promise28_an_event_below_0_is_refused() {
        refused(BAD_INDEX, Boundaries::lively, x -> x.event(-1, 0));
        refused(BAD_INDEX, Boundaries::lively, x -> x.event(LEAST, 0));
    }

    static void promise28_without_events_event_0_is_refused() {
        refused(BAD_INDEX, Boundaries::fresh, x -> x.event(0, 0));
    }

    static void promise28_with_one_event_0_is_taken_and_1_is_refused() {
        ConferenceBridges x = events(1);
        dueEvent(x, 0, 1, 0, 1);
        due("event(1, 0)", x.event(1, 0), BAD_INDEX);
    }

    static void promise28_the_thirtieth_event_is_kept() {
        ConferenceBridges x = events(30);
        dueEvent(x, 29, 1, 0, 1);
        dueEvent(x, 0, 5, 0, 30);
        due("event(30, 0)", x.event(30, 0), BAD_INDEX);
    }

    static void promise28_the_thirty_first_event_drops_the_oldest() {
        ConferenceBridges x = events(31);
        dueEvent(x, 29, 5, 0, 2);
        dueEvent(x, 0, 1, 0, 31);
        refused(BAD_INDEX, () -> events(31), y -> y.event(30, 0));
        refused(BAD_INDEX, () -> events(31), y -> y.event(MOST, 0));
    }

    static void promise28_the_row_of_events_goes_round() {
        for (int many : new int[] {59, 60, 61, 91}) {
            ConferenceBridges x = events(many);
            for (int event = 0; event < 30; event++) {
                int tick = many - event;
                dueEvent(x, event, tick % 2 == 0 ? 5 : 1, 0, tick);
            }
        }
    }

    static void promise28_what_below_0_is_refused() {
        refused(BAD_VALUE, Boundaries::lively, x -> x.event(0, -1));
        refused(BAD_VALUE, Boundaries::lively, x -> x.event(0, LEAST));
    }

    static void promise28_what_3_and_more_is_refused() {
        refused(BAD_VALUE, Boundaries::lively, x -> x.event(29, 3));
        refused(BAD_VALUE, Boundaries::lively, x -> x.event(0, MOST));
    }

    static void promise28_a_bad_event_comes_before_a_bad_what() {
        refused(BAD_INDEX, Boundaries::fresh, x -> x.event(0, 3));
        refused(BAD_INDEX, Boundaries::lively, x -> x.event(30, -1));
        refused(BAD_INDEX, Boundaries::lively, x -> x.event(-1, 3));
    }

    static void promise28_the_participant_of_an_event_can_have_left() {
        ConferenceBridges x = phones(6, 30);
        x.setLevel(5, 33);
        x.tick(1);
        x.leave(5);
        dueEvent(x, 1, 1, 5, 1);
    }

    // ---- promise 29: digest

    /** From the answers of the other calls, as the document tells it. */
    private static long digestOf(ConferenceBridges x) {
        List<Integer> all = new ArrayList<>();
        for (int what = 0; what <= 6; what++) {
            all.add(x.count(what));
        }
        int joined = x.count(1);
        for (int p = 0; p < joined; p++) {
            if (x.property(p, 0) >= 0) {
                for (int what = 0; what <= 8; what++) {
                    all.add(x.property(p, what));
                }
                all.add(x.loudnessBits(p));
                all.add(x.mixBits(p));
            }
        }
        return hash(all);
    }

    private static long hash(List<Integer> all) {
        long hash = 17;
        for (int v : all) {
            hash = 31 * hash + v;
        }
        return hash;
    }

    static void promise29_of_a_new_object() {
        due("digest()", fresh().digest(), hash(List.of(1, 0, 0, 0, 0, 0, 0)));
    }

    static void promise29_the_hash_goes_over_the_range_of_long() {
        due("digest()", phones(1, 3).digest(),
                hash(List.of(1, 1, 1, 0, 0, 0, 0, 0, 0, 3, 0, 0, 0, 0, 0, 0, 0, 0)));
        due("it went over", Math.pow(31, 18) > Long.MAX_VALUE ? 1 : 0, 1);
    }

    static void promise29_of_twenty_participants_without_events_and_streams() {
        ConferenceBridges x = star(0);
        x.tick(9);
        due("digest()", x.digest(), digestOf(x));
    }

    static void promise29_without_those_that_have_left() {
        ConferenceBridges x = star(0);
        x.leave(0);
        x.leave(7);
        x.leave(19);
        due("digest()", x.digest(), digestOf(x));
    }

    static void promise29_the_neighbours_in_ascending_order_and_the_streams_in_theirs() {
        ConferenceBridges x = fresh();
        x.addBridge(0, 2, false);
        x.addBridge(1, 1, false);
        x.addBridge(1, 2, false);
        int[] bridges = {2, 3, 3, 0};
        int[] levels = {30, 30, 33, 30};
        for (int p = 0; p < 4; p++) {
            x.join(bridges[p], 0);
            x.setLevel(p, levels[p]);
        }
        x.tick(1);
        // Bridge 1 has 3 from bridge 0, 0 from bridge 2, 2 and 1 from bridge 3; no other bridge has any.
        long hash = digestOf(x);
        for (int speaker : new int[] {3, 0, 2, 1}) {
            hash = 31 * hash + speaker;
        }
        // Bridges select in ascending order, the loudest one first.
        for (int speaker : new int[] {3, 0, 2, 1}) {
            hash = 31 * (31 * (31 * hash + 1) + speaker) + 1;
        }
        due("digest()", x.digest(), hash);
    }

    static void promise29_the_bridges_in_ascending_order() {
        ConferenceBridges x = line(3, 1);
        x.join(1, 0);
        x.join(2, 0);
        x.setLevel(0, 30);
        x.setLevel(1, 33);
        x.tick(2);
        // Bridge 0 has 1 from bridge 1, bridge 1 has 1 from bridge 2, bridge 2 has 0 from bridge 1.
        long hash = digestOf(x);
        for (int speaker : new int[] {1, 1, 0}) {
            hash = 31 * hash + speaker;
        }
        for (int speaker : new int[] {0, 1}) {
            hash = 31 * (31 * (31 * hash + 1) + speaker) + 1;
        }
        due("digest()", x.digest(), hash);
    }

    static void promise29_thirty_events_the_oldest_first_though_the_row_went_round() {
        for (int many : new int[] {1, 29, 30, 31, 47}) {
            ConferenceBridges x = events(many);
            long hash = digestOf(x);
            for (int tick = Math.max(1, many - 29); tick <= many; tick++) {
                hash = 31 * (31 * (31 * hash + (tick % 2 == 0 ? 5 : 1)) + 0) + tick;
            }
            due("digest() with " + many + " events", x.digest(), hash);
        }
    }

    static void promise29_it_changes_nothing() {
        changesNothing(Boundaries::fresh, x -> x.digest());
        changesNothing(Boundaries::lively, x -> x.digest());
        changesNothing(Boundaries::full, x -> x.digest());
    }

    static void promise29_the_text_and_the_history_have_no_part_in_it() {
        ConferenceBridges x = lively();
        long before = x.digest();
        x.type('x');
        due("after type()", x.digest(), before);
        x.clearText();
        due("after clearText()", x.digest(), before);
        x.move(2, 2);
        due("after a call that changed nothing", x.digest(), before);
    }
}
