/** The edges of promises 16 to 18 and of AN HOUR and BILLS of Terms III. */
public final class EdgesHoursTest {
    private static final Check CHECK = new Check();
    private static final Twin LIVELY = new Twin(CHECK, Twin::lively);

    public static void main(String[] args) {
        goNumbers();
        goToTheEnd();
        aheadRefusals();
        aheadNumbers();
        aheadIsAsGo();
        aheadChangesNothing();
        aheadFirstHour();
        aheadOfRefusals();
        aheadOfTheLatest();
        wholePipes();
        longestPipes();
        remainders();
        pipesThenHouses();
        least();
        coldByOne();
        backToThePlant();
        losses();
        bills();
        billsForLost();
        CHECK.finish();
    }

    private static void goNumbers() {
        CHECK.promise(16, "So many HOURS (1 .. 48) go by: HOUR. -2: another number");
        int[] refused = {0, -1, 49, Integer.MIN_VALUE, Integer.MAX_VALUE};
        for (int hours : refused) {
            LIVELY.refused("go(" + hours + ")", t -> t.go(hours), -2);
        }
        HeatTown town = new HeatTown();
        CHECK.due("go(1)", town.go(1), 1);
        CHECK.due("go(48)", town.go(48), 49);
        CHECK.due("count(0)", town.count(0), 49);
    }

    private static HeatTown atHour(int hour) {
        HeatTown town = Check.nodes(2);
        town.house(1, 1, 0);
        while (town.count(0) + 48 <= hour) {
            town.go(48);
        }
        if (town.count(0) < hour) {
            town.go(hour - town.count(0));
        }
        return town;
    }

    private static void goToTheEnd() {
        CHECK.promise(16, "-3: it would be above 5000");
        CHECK.due("from 4952 by 48", atHour(4952).go(48), 5000);
        HeatTown town = atHour(4953);
        CHECK.due("from 4953 by 48", town.go(48), -3);
        CHECK.due("count(0)", town.count(0), 4953);
        CHECK.due("cold hours", town.houseOf(0, 5), 4953);
        CHECK.due("from 4953 by 47", town.go(47), 5000);
        CHECK.due("by 1 more", town.go(1), -3);
        CHECK.due("cold hours", town.houseOf(0, 5), 5000);
        CHECK.promise(16, "-2 is told ahead of -3");
        CHECK.due("go(49)", town.go(49), -2);
        CHECK.due("go(0)", town.go(0), -2);
        CHECK.due("go(greatest)", town.go(Integer.MAX_VALUE), -2);
        CHECK.due("from 4999 by 1", atHour(4999).go(1), 5000);
        CHECK.due("from 4999 by 2", atHour(4999).go(2), -3);
        CHECK.promise(17, "What would be in so many HOURS, at HOUR 5000 too");
        CHECK.due("ahead(1, 0)", town.ahead(1, 0), 2000);
        CHECK.due("ahead(48, 1)", town.ahead(48, 1), 5000);
    }

    private static void aheadRefusals() {
        CHECK.promise(17, "-2: something is not as told");
        int[][] refused = {{0, 0}, {-1, 0}, {49, 0}, {1, -1}, {1, 4}, {0, 4}, {49, -1}, {Integer.MIN_VALUE, 0},
            {Integer.MAX_VALUE, 0}, {1, Integer.MIN_VALUE}, {1, Integer.MAX_VALUE}};
        for (int[] r : refused) {
            LIVELY.refused("ahead(" + r[0] + ", " + r[1] + ")", t -> t.ahead(r[0], r[1]), -2);
        }
    }

    private static void aheadNumbers() {
        CHECK.promise(17, "in so many HOURS (1 .. 48), what 0 .. 3");
        HeatTown town = Check.nodes(2);
        town.pipe(0, 1, 4, 1, 1, false, false);
        town.house(1, 1, 0);
        town.boiler(200000, 1);
        Check.air(town, -20);
        CHECK.due("ahead(1, 0)", town.ahead(1, 0), 4000 - 3500);
        CHECK.due("ahead(1, 1)", town.ahead(1, 1), 0);
        // (7000 - 800) * 1 / 1000 is 6, three of 6000 lose 5, three of 3000 and one of 2500 back lose 2 and 1.
        CHECK.due("ahead(1, 2)", town.ahead(1, 2), 6 + 15 + 6 + 1);
        CHECK.due("ahead(1, 3)", town.ahead(1, 3), 4);
        CHECK.due("ahead(48, 3) is more", town.ahead(48, 3) > 4, true);
        HeatTown still = Check.nodes(2);
        for (int what = 0; what < 4; what++) {
            CHECK.due("nothing: ahead(48, " + what + ")", still.ahead(48, what), what == 1 ? -1 : 0);
        }
    }

    private static void aheadIsAsGo() {
        CHECK.promise(17, "What would be .., nothing else being done");
        int[] hours = {1, 2, 3, 47, 48};
        for (int n : hours) {
            HeatTown town = Twin.lively();
            long cold = town.sum(5);
            long lost = town.sum(3);
            long costs = town.sum(4);
            long[] told = {town.ahead(n, 0), town.ahead(n, 1), town.ahead(n, 2), town.ahead(n, 3)};
            long[] of = {town.aheadOf(0, 0), town.aheadOf(1, 0), town.aheadOf(2, 0)};
            long[] was = {town.sums(0, 1), town.sums(1, 1), town.sums(2, 1)};
            town.go(n);
            CHECK.due("cold in " + n, told[0], town.sum(5) - cold);
            CHECK.due("lost in " + n, told[2], town.sum(3) - lost);
            CHECK.due("costs in " + n, told[3], town.sum(4) - costs);
            for (int h = 0; h < 3; h++) {
                CHECK.due("cold of " + h + " in " + n, of[h], town.sums(h, 1) - was[h]);
            }
        }
    }

    private static void aheadChangesNothing() {
        CHECK.promise(17, "What would be");
        for (int what = 0; what < 4; what++) {
            int w = what;
            Twin twin = new Twin(CHECK, () -> {
                HeatTown town = Twin.lively();
                town.ahead(48, 0);
                return town;
            });
            long due = Twin.lively().ahead(48, w);
            twin.refused("ahead(48, " + w + ")", t -> t.ahead(48, w), due);
        }
    }

    private static void aheadFirstHour() {
        CHECK.promise(17, "1 the first HOUR in which some HOUSE is COLD (NONE)");
        HeatTown town = Check.nodes(2);
        town.house(1, 1, 0);
        town.house(1, 2, 0);
        Check.numbers(town, 0, 0, 20, 20, 20, 19, 20);
        town.air(0);
        CHECK.due("up to the hour ahead of it", town.ahead(3, 1), -1);
        CHECK.due("COLD", town.ahead(3, 0), 0);
        CHECK.due("aheadOf(0, 1)", town.aheadOf(0, 1), -1);
        CHECK.due("up to it", town.ahead(4, 1), 3);
        CHECK.due("COLD of both", town.ahead(4, 0), 300);
        CHECK.due("aheadOf(0, 0)", town.aheadOf(0, 0), 100);
        CHECK.due("aheadOf(1, 0)", town.aheadOf(1, 0), 200);
        CHECK.due("aheadOf(1, 1)", town.aheadOf(1, 1), 3);
        CHECK.due("beyond it", town.ahead(48, 1), 3);
        CHECK.due("COLD", town.ahead(48, 0), 300);
        town.go(3);
        CHECK.due("this hour", town.ahead(1, 1), 3);
        town.go(1);
        CHECK.due("it has gone", town.ahead(48, 1), -1);
        CHECK.due("COLD to come", town.ahead(48, 0), 0);
    }

    private static void aheadOfRefusals() {
        CHECK.promise(18, "-2: there was none such then, or no ahead()");
        HeatTown town = Check.nodes(2);
        town.house(1, 1, 0);
        CHECK.due("no ahead()", town.aheadOf(0, 0), -2);
        CHECK.due("no ahead()", town.aheadOf(0, 1), -2);
        town.ahead(49, 0);
        town.ahead(1, 4);
        CHECK.due("none that was not -2", town.aheadOf(0, 0), -2);
        town.ahead(2, 0);
        int[][] none = {{-1, 0}, {1, 0}, {16, 0}, {0, -1}, {0, 2}, {1, 2}, {Integer.MIN_VALUE, 0}, {Integer.MAX_VALUE, 0},
            {0, Integer.MIN_VALUE}, {0, Integer.MAX_VALUE}};
        for (int[] n : none) {
            CHECK.due("aheadOf(" + n[0] + ", " + n[1] + ")", town.aheadOf(n[0], n[1]), -2);
        }
        CHECK.due("aheadOf(0, 0)", town.aheadOf(0, 0), 4000);
        CHECK.due("aheadOf(0, 1)", town.aheadOf(0, 1), 0);
        HeatTown bare = Check.nodes(2);
        bare.ahead(1, 0);
        CHECK.due("no houses then", bare.aheadOf(0, 0), -2);
        bare.house(1, 1, 0);
        CHECK.due("there was none such then", bare.aheadOf(0, 0), -2);
        for (int h = 1; h < 16; h++) {
            bare.house(1, 1, 0);
        }
        bare.ahead(1, 0);
        CHECK.due("the 16th", bare.aheadOf(15, 0), 2000);
        CHECK.due("behind it", bare.aheadOf(16, 0), -2);
    }

    private static void aheadOfTheLatest() {
        CHECK.promise(18, "By the latest ahead() that was not -2");
        HeatTown town = Check.nodes(2);
        town.house(1, 1, 0);
        town.ahead(3, 2);
        CHECK.due("by any what", town.aheadOf(0, 0), 6000);
        town.ahead(0, 0);
        town.ahead(2, -1);
        CHECK.due("refused ones do not count", town.aheadOf(0, 0), 6000);
        town.ahead(1, 3);
        CHECK.due("the latest", town.aheadOf(0, 0), 2000);
        town.go(5);
        CHECK.due("as it was told then", town.aheadOf(0, 0), 2000);
        CHECK.due("as it was told then", town.aheadOf(0, 1), 0);
        Check.air(town, 20);
        CHECK.due("as it was told then", town.aheadOf(0, 0), 2000);
        town.ahead(1, 0);
        CHECK.due("not cold", town.aheadOf(0, 0), 0);
        CHECK.promise(18, "its first COLD HOUR (1; NONE)");
        CHECK.due("none", town.aheadOf(0, 1), -1);
        Check.air(town, 19);
        town.ahead(1, 0);
        CHECK.due("this one", town.aheadOf(0, 1), 5);
    }

    private static void units(HeatTown town, String when, int pipe, int what, int... warms) {
        for (int k = 0; k < warms.length; k++) {
            CHECK.due(when + ": unit(" + pipe + ", " + k + ", " + what + ")", town.unit(pipe, k, what), warms[k]);
        }
    }

    private static void wholePipes() {
        CHECK.terms("III", "(1) Out of each PIPE in which f units go the last f of the water that goes out");
        boolean[] ways = {true, false};
        for (boolean fromA : ways) {
            HeatTown town = Check.nodes(2);
            town.pipe(fromA ? 0 : 1, fromA ? 1 : 0, 4, 4, 0, false, false);
            town.house(1, 50, 0);
            town.boiler(200000, 0);
            town.go(1);
            units(town, "all of it", 0, 0, 7000, 7000, 7000, 7000);
            units(town, "all of it", 0, 1, 2500, 2500, 2500, 2500);
            CHECK.due("came", town.houseOf(0, 4), 24000);
            HeatTown one = Check.nodes(2);
            one.pipe(fromA ? 0 : 1, fromA ? 1 : 0, 4, 1, 0, false, false);
            one.house(1, 50, 0);
            one.boiler(200000, 0);
            one.go(1);
            int[] out = {7000, 6000, 6000, 6000};
            int[] back = {3000, 3000, 3000, 2500};
            for (int k = 0; k < 4; k++) {
                CHECK.due("one of it", one.unit(0, fromA ? k : 3 - k, 0), out[k]);
                CHECK.due("one of it", one.unit(0, fromA ? k : 3 - k, 1), back[k]);
            }
            one.go(3);
            CHECK.due("the first comes in the fifth hour", one.houseOf(0, 4), 6000);
            one.go(1);
            CHECK.due("the first comes in the fifth hour", one.houseOf(0, 4), 7000);
        }
    }

    /** The longest pipes, beside one another: what moves in one leaves the others as they are. */
    private static void longestPipes() {
        CHECK.terms("III", "(1) .. come to its further end: of LONG 60, both ways");
        boolean[] ways = {true, false};
        for (boolean fromA : ways) {
            HeatTown town = Check.nodes(2);
            for (int p = 0; p < 20; p++) {
                town.pipe(fromA ? 0 : 1, fromA ? 1 : 0, 60, 7, 0, true, false);
                town.valve(p, 0, p != 9 && p != 19);
            }
            town.house(1, 50, 0);
            town.boiler(200000, 0);
            for (int hour = 1; hour <= 9; hour++) {
                town.go(1);
                // 7 units an hour in each of the two; after 9 hours 60 of 63 have come through.
                int fresh = Math.min(60, 7 * hour);
                for (int p = 8; p < 20; p++) {
                    boolean goes = p == 9 || p == 19;
                    int near = fromA ? 0 : 59;
                    CHECK.due("out, near", town.unit(p, near, 0), goes ? 7000 : 6000);
                    CHECK.due("out, far", town.unit(p, 59 - near, 0), goes && fresh == 60 ? 7000 : 6000);
                    CHECK.due("back, far", town.unit(p, 59 - near, 1), goes ? 2500 : 3000);
                    CHECK.due("back, near", town.unit(p, near, 1), goes && fresh == 60 ? 2500 : 3000);
                }
                long out = 2 * (fresh * 7000 + (60 - fresh) * 6000L);
                long back = 2 * (fresh * 2500 + (60 - fresh) * 3000L);
                CHECK.due("what stands", town.sum(6), 18 * 60 * 9000L + out + back);
            }
        }
    }

    private static void remainders() {
        CHECK.terms("III", "each of W * (k + 1) / U less W * k / U (cut both); the first one ahead");
        int[][] cases = {{0, 3000, 3000, 3000}, {1, 3000, 3000, 3001}, {2, 3000, 3001, 3001}, {3, 3001, 3001, 3001},
            {1001, 3333, 3334, 3334}, {1000, 3333, 3333, 3334}, {999, 3333, 3333, 3333}};
        for (int[] c : cases) {
            HeatTown town = Check.nodes(2);
            town.pipe(0, 1, 4, 3, 0, false, false);
            town.house(1, 50, 0);
            if (c[0] > 0) {
                town.boiler(c[0], 0);
            }
            town.go(1);
            units(town, "made " + c[0], 0, 0, c[3], c[2], c[1], 6000);
            CHECK.due("made " + c[0], town.count(10), (9000 + c[0]) / 3);
        }
    }

    private static void pipesThenHouses() {
        CHECK.terms("III", "by PIPES (numbers) that go away from there, then HOUSES there, each as many as it has");
        HeatTown town = Check.nodes(4);
        town.pipe(1, 3, 4, 1, 0, false, false);
        town.pipe(0, 1, 6, 6, 0, false, false);
        town.pipe(2, 1, 4, 1, 0, false, false);
        town.house(1, 1, 0);
        town.house(1, 1, 9);
        town.house(2, 1, 0);
        town.house(3, 1, 0);
        town.boiler(200000, 0);
        Check.rules(town, "send 70 when hour=0;send 40");
        // Four units an hour, six in pipe 1: the second hour takes 2 of 6000 and 2 of 7000; 26000 by 4 is 6500 each.
        town.go(2);
        units(town, "to node 3", 0, 0, 6500, 6000, 6000, 6000);
        units(town, "to node 2", 2, 0, 6000, 6000, 6000, 6500);
        CHECK.due("house 0", town.houseOf(0, 4), 6500);
        CHECK.due("house 1", town.houseOf(1, 4), 6500);
        HeatTown odd = Check.nodes(3);
        odd.pipe(0, 1, 4, 3, 0, false, false);
        odd.pipe(1, 2, 4, 1, 0, false, false);
        odd.house(1, 1, 5);
        odd.house(1, 1, 9);
        odd.house(2, 1, 0);
        odd.boiler(1001, 0);
        odd.go(1);
        // 10001 by 3: one unit of 3333 and two of 3334 follow the one of 6000 in pipe 0, the 3333 ahead.
        odd.go(1);
        CHECK.due("6000, 3333 and 3334 by 3: the pipe has the first", odd.unit(1, 0, 0), 12667 / 3);
        CHECK.due("then house 0", odd.houseOf(0, 4), 25334 / 3 - 12667 / 3);
        CHECK.due("then house 1", odd.houseOf(1, 4), 12667 - 25334 / 3);
    }

    private static void least() {
        CHECK.terms("III", "at most what all that is above LEAST times 100 times its units (0 at least)");
        int[][] cases = {{15, 3000}, {29, 200}, {30, 0}, {31, 0}, {50, 0}};
        for (int[] c : cases) {
            HeatTown town = Check.nodes(2);
            town.pipe(0, 1, 4, 4, 0, false, false);
            // A first hour of great need lets 4 units of 3000 into the pipe.
            town.house(1, 50, 0);
            town.go(1);
            town.terms(8, c[0]);
            long used = town.sums(0, 0);
            long cold = town.sums(0, 1);
            town.go(1);
            CHECK.due("came", town.houseOf(0, 4), 12000);
            CHECK.due("used above " + c[0], town.sums(0, 0) - used, 2 * c[1]);
            CHECK.due("COLD by the rest", town.sums(0, 1) - cold, 100000 - 2 * c[1]);
            CHECK.due("all is left", town.unit(0, 3, 1), 3000 - c[1] / 2);
        }
    }

    private static void coldByOne() {
        CHECK.terms("III", "it is COLD by what it lacks");
        // One unit of 6000 comes: 3500 are above LEAST.
        int[][] cases = {{-14, 0}, {-15, 0}, {-16, 100}, {-17, 200}};
        for (int[] c : cases) {
            HeatTown town = Check.nodes(2);
            town.pipe(0, 1, 4, 1, 0, false, false);
            town.house(1, 1, 0);
            Check.air(town, c[0]);
            town.go(1);
            CHECK.due("COLD at " + c[0], town.sums(0, 1), c[1]);
            CHECK.due("hours at " + c[0], town.houseOf(0, 5), c[1] > 0 ? 1 : 0);
            CHECK.due("used at " + c[0], town.sums(0, 0), Math.min(3500, 100 * (20 - c[0])));
            CHECK.due("sum(5)", town.sum(5), c[1]);
        }
        CHECK.terms("III", "it is COLD by what it lacks, be it 1");
        HeatTown one = Check.nodes(2);
        one.pipe(0, 1, 4, 1, 58, false, false);
        one.house(1, 1, 0);
        Check.numbers(one, 0, 0, 20, -12);
        one.air(0);
        one.go(1);
        // (6000 - 800) * 58 / 1000 = 301 were lost: 5699 less 2500 is one less than 3200.
        CHECK.due("ahead(1, 0)", one.ahead(1, 0), 1);
        CHECK.due("ahead(1, 1)", one.ahead(1, 1), 1);
        CHECK.due("aheadOf(0, 0)", one.aheadOf(0, 0), 1);
        CHECK.due("aheadOf(0, 1)", one.aheadOf(0, 1), 1);
        one.go(1);
        CHECK.due("COLD by 1", one.sums(0, 1), 1);
        CHECK.due("one hour", one.houseOf(0, 5), 1);
        HeatTown none = Check.nodes(2);
        none.house(1, 3, 0);
        Check.air(none, 20);
        none.go(1);
        CHECK.due("no need, not COLD", none.houseOf(0, 5), 0);
    }

    private static void backToThePlant() {
        CHECK.terms("III", "(4) What is left comes back .., mixed likewise, into PIPES .. by numbers");
        HeatTown town = Check.nodes(2);
        town.pipe(1, 0, 5, 1, 0, false, false);
        town.pipe(0, 1, 4, 2, 0, false, false);
        town.house(1, 4, 0);
        // Three units of 6000, 8000 used: 10000 by 3 are 3333 into pipe 0, 3333 and 3334 into pipe 1.
        town.go(1);
        units(town, "pipe 0, from b to a", 0, 1, 3333, 3000, 3000, 3000, 3000);
        units(town, "pipe 1, from a to b", 1, 1, 3000, 3000, 3333, 3334);
        CHECK.due("count(10)", town.count(10), 3000);
        town.go(2);
        // The two of pipe 1 come to the plant in the third hour, with one of 3000 out of pipe 0.
        CHECK.due("count(10)", town.count(10), (3000 + 3333 + 3334) / 3);
    }

    private static void losses() {
        CHECK.terms("III", "(5) Each unit in each PIPE loses (WARM less GROUND times 100) * LOSS / 1000 (cut, 0 at least)");
        int[][] cases = {{0, 0, 0}, {1, 5, 2}, {5, 26, 11}, {199, 1034, 437}, {200, 1040, 440}};
        for (int[] c : cases) {
            HeatTown town = Check.nodes(2);
            town.pipe(0, 1, 4, 1, c[0], true, false);
            town.valve(0, 0, true);
            town.go(1);
            CHECK.due("LOSS " + c[0] + ", out", town.unit(0, 2, 0), 6000 - c[1]);
            CHECK.due("LOSS " + c[0] + ", back", town.unit(0, 2, 1), 3000 - c[2]);
            CHECK.due("LOSS " + c[0] + ", in all", town.sum(3), 4 * (c[1] + c[2]));
            CHECK.due("what stands", town.sum(6), 36000 - town.sum(3));
        }
        HeatTown ground = Check.nodes(2);
        ground.pipe(0, 1, 4, 1, 200, false, false);
        ground.burst(0, true);
        ground.terms(20, 25);
        ground.go(48);
        CHECK.due("4 above the ground lose nothing", ground.unit(0, 0, 1), 2004);
        ground.go(1);
        CHECK.due("nor later", ground.unit(0, 0, 1), 2004);
        ground.terms(19, 25);
        ground.go(1);
        CHECK.due("104 above it lose 20", ground.unit(0, 0, 1), 2004 - 20);
        ground.terms(20, 25);
        long lost = ground.sum(3);
        ground.go(1);
        CHECK.due("below the ground nothing is lost", ground.unit(0, 0, 1), 1984);
        CHECK.due("nor won", ground.sum(3), lost);
    }

    private static void bills() {
        CHECK.terms("III", "price times what a HOUSE used by 1000 (cut)");
        int[][] cases = {{11, 1, 0}, {10, 1, 1}, {1, 1, 1}, {0, 1, 2}, {19, 9, 0}, {19, 10, 1}, {19, 1000, 100}, {0, 0, 0}};
        for (int[] c : cases) {
            HeatTown town = Check.nodes(2);
            town.pipe(0, 1, 60, 60, 0, false, false);
            town.house(1, 1, 0);
            Check.air(town, c[0]);
            Check.rules(town, "price " + c[1]);
            town.go(1);
            CHECK.due("used " + 100 * (20 - c[0]) + " for " + c[1], town.sums(0, 2), c[2]);
            town.go(1);
            CHECK.due("each hour is cut", town.sums(0, 2), 2 * c[2]);
        }
    }

    /** House 0 pays for pipes 0 to 2, and by two ways for pipe 0; house 1 pays for pipe 3 alone. */
    private static void billsOfManyPipes() {
        HeatTown town = Check.nodes(4);
        town.pipe(0, 1, 4, 4, 10, false, false);
        town.pipe(1, 2, 4, 1, 10, false, false);
        town.pipe(1, 2, 5, 1, 10, false, false);
        town.pipe(3, 0, 4, 1, 100, false, false);
        town.house(2, 3, 0);
        town.house(3, 1, 0);
        Check.rules(town, "lost 1000");
        CHECK.due("two ways", town.flow(0), 2);
        town.go(1);
        // Out in pipe 0: two of 3000 lose 22, two of 6000 lose 52; back: all have 3000.
        long first = 2 * 22 + 2 * 52 + 4 * 22;
        // Pipes 1 and 2 hold 6000; of 12000 house 0 used 6000, so 3000 come back.
        long others = 4 * 52 + 4 * 22 + 5 * 52 + 5 * 22;
        // Pipe 3: three of 6000 lose 520, one of 3000 loses 220; house 1 left 4000, which loses 320, three of 3000 220.
        long last = 3 * 520 + 220 + 320 + 3 * 220;
        CHECK.due("sum(3)", town.sum(3), first + others + last);
        CHECK.due("all of pipes 0 to 2", town.sums(0, 3), first + others);
        CHECK.due("all of pipe 3", town.sums(1, 3), last);
    }

    private static void billsForLost() {
        CHECK.terms("III", "that times its units by all units there (cut), times lost by 1000 (cut)");
        HeatTown town = Check.nodes(3);
        town.pipe(0, 1, 4, 3, 1, false, false);
        town.house(1, 1, 9);
        town.house(1, 3, 5);
        town.house(2, 1, 99);
        town.house(1, 1, 0);
        Check.rules(town, "lost 1000");
        town.go(1);
        // Out: three of 3000 lose 2 each, one of 6000 loses 5. Back: one of 3000 loses 2; 18000 less 2000 and 6000 by 3 are
        // 3333, 3333, 3334, which lose 2 each. All: 19, of which 19 / 3 and 19 * 2 / 3.
        CHECK.due("sum(3)", town.sum(3), 6 + 5 + 2 + 6);
        CHECK.due("one of three units", town.sums(0, 3), 6);
        CHECK.due("two of three units", town.sums(1, 3), 12);
        CHECK.due("no unit went to it", town.sums(2, 3), 0);
        CHECK.due("it got none", town.sums(3, 3), 0);
        int[][] cases = {{999, 18}, {1000, 19}, {52, 0}, {53, 1}, {105, 1}, {106, 2}};
        for (int[] c : cases) {
            HeatTown one = Check.nodes(2);
            one.pipe(0, 1, 4, 3, 1, false, false);
            one.house(1, 4, 0);
            Check.rules(one, "lost " + c[0]);
            one.go(1);
            CHECK.due("sum(3)", one.sum(3), 19);
            CHECK.due("lost " + c[0], one.sums(0, 3), c[1]);
        }
        billsOfManyPipes();
        HeatTown none = Check.nodes(2);
        none.pipe(0, 1, 4, 3, 100, true, false);
        none.house(1, 4, 0);
        none.valve(0, 0, true);
        Check.rules(none, "lost 1000");
        none.go(1);
        CHECK.due("nothing went through it", none.sums(0, 3), 0);
        CHECK.due("though it lost", none.sum(3) > 0, true);
    }
}
