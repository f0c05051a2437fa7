/** The edges of promises 28 to 33, of Terms I, and of the 512 calls of an object: what is told of all that is there. */
public final class EdgesLooksTest {
    private static final Check CHECK = new Check();
    private static final Twin LIVELY = new Twin(CHECK, Twin::lively);

    public static void main(String[] args) {
        unitsOfNone();
        unitsAtFirst();
        houseOfOthers();
        houseOfHours();
        sumsOfOthers();
        sumsOfHours();
        pipeOfOthers();
        openPipes();
        pipeOfHours();
        sumOfOthers();
        sumOfHours();
        countOfOthers();
        countsAtFull();
        sends();
        manyCalls();
        twoObjects();
        CHECK.finish();
    }

    private static void unitsOfNone() {
        CHECK.promise(28, "NONE: there is none such");
        int[][] none = {{-1, 0, 0}, {2, 0, 0}, {20, 0, 0}, {0, -1, 0}, {0, 5, 0}, {0, 5, 1}, {1, 4, 0}, {0, 60, 0}, {0, 0, -1}, {0, 0, 2},
            {Integer.MIN_VALUE, 0, 0}, {Integer.MAX_VALUE, 0, 0}, {0, Integer.MIN_VALUE, 0}, {0, Integer.MAX_VALUE, 0},
            {0, 0, Integer.MIN_VALUE}, {0, 0, Integer.MAX_VALUE}};
        for (int[] n : none) {
            LIVELY.refused("unit(" + n[0] + ", " + n[1] + ", " + n[2] + ")", t -> t.unit(n[0], n[1], n[2]), -1);
        }
    }

    private static void unitsAtFirst() {
        CHECK.promise(28, "WARM of its k-th unit from a on (what 0: out, 1: back)");
        CHECK.terms("I", "LONG units of water that goes out and LONG units that come back (6000 out, 3000 back at first)");
        int[] longs = {4, 5, 59, 60};
        HeatTown town = Check.nodes(2);
        for (int p = 0; p < longs.length; p++) {
            // A pipe that is laid after hours have gone begins with the same.
            town.pipe(0, 1, longs[p], 1, 200, false, false);
            int[] ks = {0, 1, longs[p] - 1};
            for (int k : ks) {
                CHECK.due("out, LONG " + longs[p] + ", " + k, town.unit(p, k, 0), 6000);
                CHECK.due("back, LONG " + longs[p] + ", " + k, town.unit(p, k, 1), 3000);
            }
            CHECK.due("behind the last, LONG " + longs[p], town.unit(p, longs[p], 0), -1);
            CHECK.due("behind the last, LONG " + longs[p], town.unit(p, longs[p], 1), -1);
            CHECK.due("ahead of the first", town.unit(p, -1, 0), -1);
            town.go(3);
        }
        CHECK.due("a later one has lost less", town.unit(3, 0, 0) > town.unit(0, 0, 0), true);
    }

    private static void houseOfOthers() {
        CHECK.promise(29, "-2 for others");
        int[][] none = {{-1, 0}, {3, 0}, {16, 0}, {0, -1}, {0, 6}, {3, 6}, {Integer.MIN_VALUE, 0}, {Integer.MAX_VALUE, 0},
            {0, Integer.MIN_VALUE}, {0, Integer.MAX_VALUE}};
        for (int[] n : none) {
            LIVELY.refused("houseOf(" + n[0] + ", " + n[1] + ")", t -> t.houseOf(n[0], n[1]), -2);
        }
    }

    private static void houseOfHours() {
        HeatTown town = Check.nodes(3);
        town.pipe(0, 2, 60, 60, 0, true, false);
        town.house(2, 3, 7);
        CHECK.promise(29, "0 NODE, 1 SIZE, 2 RANK, 3 units it got in the latest HOUR, 4 WARM (NONE: none came), 5 COLD");
        int[] first = {2, 3, 7, 0, -1, 0};
        for (int what = 0; what < 6; what++) {
            CHECK.due("ahead of any hour: " + what, town.houseOf(0, what), first[what]);
        }
        town.go(1);
        int[] second = {2, 3, 7, 2, 12000, 0};
        for (int what = 0; what < 6; what++) {
            CHECK.due("after one: " + what, town.houseOf(0, what), second[what]);
        }
        town.house(2, 1, 0);
        CHECK.due("a new one got none yet", town.houseOf(1, 3), 0);
        CHECK.due("none came to it yet", town.houseOf(1, 4), -1);
        town.gets(1, 1);
        town.ahead(1, 0);
        CHECK.due("ahead() is no hour", town.houseOf(1, 3), 0);
        town.valve(0, 0, true);
        CHECK.due("the latest hour, though it is shut", town.houseOf(0, 3), 2);
        town.go(1);
        int[] third = {2, 3, 7, 0, -1, 1};
        for (int what = 0; what < 6; what++) {
            CHECK.due("shut: " + what, town.houseOf(0, what), third[what]);
        }
        Check.air(town, 20);
        town.go(1);
        CHECK.due("no need, not cold", town.houseOf(0, 5), 1);
        town.valve(0, 0, false);
        town.go(1);
        CHECK.due("no need, no units", town.houseOf(0, 3), 0);
        CHECK.due("none came", town.houseOf(0, 4), -1);
    }

    private static void sumsOfOthers() {
        CHECK.promise(30, "-2 for others");
        int[][] none = {{-1, 0}, {3, 0}, {16, 0}, {0, -1}, {0, 4}, {3, 4}, {Integer.MIN_VALUE, 0}, {Integer.MAX_VALUE, 0},
            {0, Integer.MIN_VALUE}, {0, Integer.MAX_VALUE}};
        for (int[] n : none) {
            LIVELY.refused("sums(" + n[0] + ", " + n[1] + ")", t -> t.sums(n[0], n[1]), -2);
        }
    }

    private static void sumsOfHours() {
        CHECK.promise(30, "0 what it used, 1 COLD, 2 what it was billed for that, 3 for what was lost");
        HeatTown town = Check.nodes(2);
        town.pipe(0, 1, 4, 2, 1, false, false);
        town.house(1, 4, 0);
        for (int what = 0; what < 4; what++) {
            CHECK.due("ahead of any hour: " + what, town.sums(0, what), 0);
        }
        Check.rules(town, "price 100;lost 500");
        town.go(1);
        // 12000 came, 7000 are above LEAST, 8000 are needed. Lost: 2 of 6000 and 2 of 3000 out, 2 of 3000 and 2 of 2500 back.
        long[] due = {7000, 1000, 700, (2 * 5 + 2 * 2 + 2 * 2 + 2 * 1) / 2};
        for (int what = 0; what < 4; what++) {
            CHECK.due("after one: " + what, town.sums(0, what), due[what]);
        }
        town.ahead(48, 0);
        CHECK.due("ahead() adds nothing", town.sums(0, 0), 7000);
        town.house(1, 4, 9);
        for (int what = 0; what < 4; what++) {
            CHECK.due("a new one: " + what, town.sums(1, what), 0);
        }
        HeatTown most = Check.nodes(2);
        most.house(1, 50, 0);
        Check.air(most, -40);
        for (int i = 0; i < 104; i++) {
            most.go(48);
        }
        most.go(8);
        CHECK.due("5000 hours of 300000", most.sums(0, 1), 1500000000L);
        for (int h = 1; h < 16; h++) {
            most.house(1, 50, 0);
        }
        CHECK.due("what would lack, of 16", most.ahead(48, 0), 16 * 48 * 300000L);
    }

    private static void pipeOfOthers() {
        CHECK.promise(31, "-1000 for others");
        int[][] none = {{-1, 0}, {2, 0}, {20, 0}, {0, -1}, {0, 8}, {2, 8}, {Integer.MIN_VALUE, 0}, {Integer.MAX_VALUE, 0},
            {0, Integer.MIN_VALUE}, {0, Integer.MAX_VALUE}};
        for (int[] n : none) {
            LIVELY.refused("pipeOf(" + n[0] + ", " + n[1] + ")", t -> t.pipeOf(n[0], n[1]), -1000);
        }
    }

    private static void openPipes() {
        CHECK.promise(31, "5 whether it is OPEN, 6 whether it has BURST (1, 0)");
        CHECK.terms("I", "OPEN if it has not BURST and no valve of it is shut (all are open at first)");
        for (int bits = 0; bits < 8; bits++) {
            HeatTown town = Check.nodes(2);
            town.pipe(0, 1, 4, 4, 0, true, true);
            town.pipe(0, 1, 4, 4, 0, true, true);
            town.valve(0, 0, (bits & 1) != 0);
            town.valve(0, 1, (bits & 2) != 0);
            town.burst(0, (bits & 4) != 0);
            CHECK.due("open by " + bits, town.pipeOf(0, 5), bits == 0 ? 1 : 0);
            CHECK.due("burst by " + bits, town.pipeOf(0, 6), bits >> 2);
            CHECK.due("the other one", town.pipeOf(1, 5), 1);
            CHECK.due("the other one", town.pipeOf(1, 6), 0);
        }
    }

    private static void pipeOfHours() {
        CHECK.promise(31, "7 units in the latest HOUR (from a to b: above 0)");
        HeatTown town = Check.nodes(3);
        town.pipe(0, 1, 60, 60, 0, true, false);
        town.pipe(2, 1, 60, 60, 0, false, false);
        town.house(2, 3, 0);
        CHECK.due("ahead of any", town.pipeOf(0, 7), 0);
        CHECK.due("though it would go", town.flow(0), 2);
        town.go(1);
        CHECK.due("from a to b", town.pipeOf(0, 7), 2);
        CHECK.due("from b to a", town.pipeOf(1, 7), -2);
        town.ahead(1, 0);
        town.valve(0, 0, true);
        CHECK.due("the latest hour", town.pipeOf(0, 7), 2);
        town.pipe(0, 2, 4, 4, 0, false, false);
        CHECK.due("a new one", town.pipeOf(2, 7), 0);
        town.go(1);
        CHECK.due("shut", town.pipeOf(0, 7), 0);
        CHECK.due("nothing by it", town.pipeOf(1, 7), 0);
        CHECK.due("by the new one", town.pipeOf(2, 7), 2);
    }

    private static void sumOfOthers() {
        CHECK.promise(32, "0 for others");
        int[] none = {-1, 8, 9, Integer.MIN_VALUE, Integer.MAX_VALUE};
        for (int what : none) {
            LIVELY.refused("sum(" + what + ")", t -> t.sum(what), 0);
        }
    }

    private static void sumOfHours() {
        CHECK.promise(32, "In all HOURS: 0 BOILERS, 1 the mill, 2 used, 3 lost, 4 cost, 5 COLD; now: 6 in all PIPES, 7 the STORE");
        HeatTown town = Check.nodes(2);
        town.pipe(0, 1, 4, 2, 1, false, false);
        CHECK.due("sum(6)", town.sum(6), 36000);
        town.house(1, 4, 0);
        town.house(1, 1, 0);
        town.store(500, 500);
        town.boiler(9000, 10);
        Check.numbers(town, 0, 1, 300);
        town.mill(0, 20);
        Check.numbers(town, 0, 2, 0, 9500);
        CHECK.due("plan(0)", town.plan(0), 6 + 2 + 90);
        // Two units: 14000 less 6000 are needed and 500 for the store, 300 by the mill and 8200 by the boiler.
        town.go(1);
        // Lost: 2 of 7000 (6), 2 of 6000 (5), 2 of 3000 (2), 2 of 2500 (1).
        long lost = 12 + 10 + 4 + 2;
        long[] due = {8200, 300, 7000, lost, 6 + 82, 1000 + 2000, 14000 + 12000 + 6000 + 5000 - lost, 500};
        for (int what = 0; what < 8; what++) {
            CHECK.due("sum(" + what + ")", town.sum(what), due[what]);
        }
        town.ahead(48, 0);
        for (int what = 0; what < 8; what++) {
            CHECK.due("behind ahead(): sum(" + what + ")", town.sum(what), due[what]);
        }
        HeatTown most = Check.nodes(2);
        for (int p = 0; p < 20; p++) {
            most.pipe(0, 1, 60, 60, 0, false, false);
        }
        CHECK.due("20 pipes of 60", most.sum(6), 20 * 60 * 9000);
    }

    private static void countOfOthers() {
        CHECK.promise(33, "NONE for others");
        int[] none = {-1, 11, 12, Integer.MIN_VALUE, Integer.MAX_VALUE};
        for (int what : none) {
            LIVELY.refused("count(" + what + ")", t -> t.count(what), -1);
        }
    }

    private static void countsAtFull() {
        CHECK.promise(33, "0 HOUR, 1 NODES, 2 PIPES, 3 HOUSES, 4 BOILERS, 5 RULES, 6 TAPE, 7 AIR, 8 FACTS, 9 PLACES, 10 SEND");
        HeatTown town = Check.nodes(12);
        for (int p = 0; p < 20; p++) {
            town.pipe(0, 1, 4, 4, 0, false, false);
        }
        for (int h = 0; h < 16; h++) {
            town.house(1, 1, 0);
        }
        for (int b = 0; b < 4; b++) {
            town.boiler(200000, 0);
        }
        Check.rules(town, "drop 30" + ";send 80".repeat(11));
        Check.tape(town, "x".repeat(300));
        for (int place = 0; place < 4; place++) {
            Check.numbers(town, place, 0, -40);
        }
        town.air(0);
        for (int f = 0; f < 150; f++) {
            town.meter(0, 0, 0, 0);
        }
        town.go(48);
        int[] due = {48, 12, 20, 16, 4, 12, 300, -40, 150, 4, 8000};
        for (int what = 0; what < due.length; what++) {
            CHECK.due("count(" + what + ")", town.count(what), due[what]);
        }
        Twin full = new Twin(CHECK, Twin::lively);
        full.taken("row(3, 0, 0)", t -> t.row(3, 0, 0), 0);
        HeatTown places = new HeatTown();
        places.row(1, 0, 0);
        places.row(1, 3, 5);
        CHECK.due("one place twice", places.count(9), 1);
        places.tear(1);
        CHECK.due("torn", places.count(9), 0);
    }

    private static void sends() {
        CHECK.promise(33, "10 SEND of the latest HOUR (as it was, in hundredths; NONE ahead of any, or if nothing went)");
        HeatTown town = Check.nodes(2);
        town.pipe(0, 1, 60, 60, 0, true, false);
        town.house(1, 4, 0);
        CHECK.due("ahead of any", town.count(10), -1);
        town.ahead(3, 0);
        CHECK.due("ahead() is none", town.count(10), -1);
        town.go(1);
        CHECK.due("three units of 3000", town.count(10), 3000);
        town.boiler(2, 0);
        town.go(1);
        CHECK.due("9002 by 3, cut", town.count(10), 3000);
        town.boiler(1, 0);
        town.go(1);
        CHECK.due("9003 by 3", town.count(10), 3001);
        town.boiler(200000, 0);
        town.go(1);
        CHECK.due("as it was to be", town.count(10), 7000);
        town.valve(0, 0, true);
        CHECK.due("of the latest hour", town.count(10), 7000);
        town.go(1);
        CHECK.due("nothing went", town.count(10), -1);
        town.valve(0, 0, false);
        town.go(1);
        CHECK.due("again", town.count(10), 7000);
        Check.air(town, 20);
        town.go(1);
        CHECK.due("nobody wanted", town.count(10), -1);
    }

    private static void manyCalls() {
        CHECK.promise(33, "at most 512 calls after it has been made: the 512th is answered as the first");
        HeatTown town = new HeatTown();
        for (int call = 1; call <= 510; call++) {
            CHECK.due("call " + call, town.count(1), 1);
        }
        CHECK.due("call 511", town.node(), 1);
        CHECK.due("call 512", town.count(1), 2);
        HeatTown dear = Check.nodes(2);
        dear.pipe(0, 1, 60, 60, 200, false, false);
        dear.house(1, 50, 0);
        for (int call = 4; call < 108; call++) {
            dear.go(48);
        }
        long cold = dear.ahead(48, 0);
        for (int call = 109; call <= 512; call++) {
            CHECK.due("call " + call, dear.ahead(48, 0), cold);
        }
    }

    /** One object knows nothing of another one. */
    private static void twoObjects() {
        CHECK.promise(1, "A new object, beside another one");
        HeatTown one = Twin.lively();
        HeatTown other = new HeatTown();
        int[] counts = {0, 1, 0, 0, 0, 0, 0, 0, 0, 0, -1};
        for (int what = 0; what < counts.length; what++) {
            CHECK.due("count(" + what + ")", other.count(what), counts[what]);
        }
        long before = one.sum(6);
        other.node();
        other.pipe(0, 1, 4, 4, 100, false, false);
        other.go(5);
        CHECK.due("sum(6) of the first", one.sum(6), before);
        CHECK.due("count(0) of the first", one.count(0), 2);
    }
}
