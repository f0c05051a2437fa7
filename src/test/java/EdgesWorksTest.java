/** The edges of promises 9, 10, 24 and 25 and of Terms V: boilers, the store, the plan, what is made. */
public final class EdgesWorksTest {
    private static final Check CHECK = new Check();
    private static final Twin LIVELY = new Twin(CHECK, Twin::lively);

    public static void main(String[] args) {
        boilers();
        boilersFull();
        storeNumbers();
        storeSteps();
        fortySteps();
        storeTooLate();
        planRefusals();
        planLengths();
        planNumbers();
        planStays();
        planned();
        levels();
        bounds();
        ties();
        needed();
        mill();
        boilerOrder();
        costs();
        storeAtWork();
        behindThePlan();
        CHECK.finish();
    }

    private static void boilers() {
        CHECK.promise(9, "-2: MOST is not 1 .. 200000, COST not 0 .. 1000");
        int[][] refused = {{0, 5}, {-1, 5}, {200001, 5}, {5, -1}, {5, 1001}, {Integer.MIN_VALUE, 5}, {Integer.MAX_VALUE, 5},
            {5, Integer.MIN_VALUE}, {5, Integer.MAX_VALUE}, {0, 1001}};
        for (int[] r : refused) {
            LIVELY.refused("boiler(" + r[0] + ", " + r[1] + ")", t -> t.boiler(r[0], r[1]), -2);
        }
        CHECK.promise(9, "A BOILER more: its number");
        int[][] taken = {{1, 5}, {200000, 5}, {5000, 0}, {5000, 1000}};
        for (int[] b : taken) {
            HeatTown town = new HeatTown();
            CHECK.due("boiler(" + b[0] + ", " + b[1] + ")", town.boiler(b[0], b[1]), 0);
            CHECK.due("count(4)", town.count(4), 1);
            CHECK.due("it makes its MOST for its COST", need(town, b[0]), (long) b[0] * b[1] / 1000);
            CHECK.due("and no more", need(town, b[0] + 1), -1);
        }
    }

    /** What it costs if this is needed in this hour. */
    private static long need(HeatTown town, long... needs) {
        Check.numbers(town, 2, 3, needs);
        return town.plan(2);
    }

    private static void boilersFull() {
        CHECK.promise(9, "-3: there are 4");
        HeatTown town = new HeatTown();
        for (int b = 0; b < 4; b++) {
            CHECK.due("boiler " + b, town.boiler(10, 1000), b);
        }
        CHECK.due("a fifth", town.boiler(10, 1000), -3);
        CHECK.due("count(4)", town.count(4), 4);
        CHECK.due("four make 40", need(town, 40), 40);
        CHECK.due("41", need(town, 41), -1);
        CHECK.promise(9, "-2 is told ahead of -3");
        CHECK.due("MOST 0", town.boiler(0, 0), -2);
        CHECK.due("MOST 200001", town.boiler(200001, 0), -2);
        CHECK.due("COST -1", town.boiler(1, -1), -2);
        CHECK.due("COST 1001", town.boiler(1, 1001), -2);
    }

    private static void storeNumbers() {
        CHECK.promise(10, "-2: they are not as told: so much (0 .. 1000000), STEPS (1 .. 200000)");
        int[][] refused = {{-1, 1}, {1000001, 200000}, {10, 0}, {10, -1}, {10, 200001}, {Integer.MIN_VALUE, 1},
            {Integer.MAX_VALUE, 200000}, {10, Integer.MIN_VALUE}, {10, Integer.MAX_VALUE}, {-1, 0}};
        for (int[] r : refused) {
            HeatTown town = filled(30, 10);
            CHECK.due("store(" + r[0] + ", " + r[1] + ")", town.store(r[0], r[1]), -2);
            CHECK.due("it holds 30 still, in steps of 10", need(town, 0, 130), 130);
            CHECK.due("it holds 30 still, in steps of 10", town.planned(0), 30);
            CHECK.due("no more", need(town, 0, 131), -1);
        }
        CHECK.promise(10, "The STORE holds so much, goes in STEPS: 0");
        HeatTown none = filled(0, 1);
        CHECK.due("store(0, 1) keeps nothing", need(none, 0, 101), -1);
        CHECK.due("store(0, 200000)", new HeatTown().store(0, 200000), 0);
        CHECK.due("store(1, 1)", new HeatTown().store(1, 1), 0);
        HeatTown most = new HeatTown();
        CHECK.due("store(1000000, 200000)", most.store(1000000, 200000), 0);
        most.boiler(200000, 1);
        // Five hours fill it; 600000 and 400000 of it are used then.
        CHECK.due("a million is kept", need(most, 0, 0, 0, 0, 0, 800000, 600000), 7 * 200);
        CHECK.due("planned(0)", most.planned(0), 200000);
        CHECK.due("planned(4)", most.planned(4), 1000000);
        CHECK.due("planned(5)", most.planned(5), 400000);
        CHECK.due("no more", need(most, 0, 0, 0, 0, 0, 0, 800000, 600001), -1);
        HeatTown twice = filled(30, 10);
        CHECK.due("another one in its place", twice.store(20, 20), 0);
        CHECK.due("20 are kept", need(twice, 0, 120), 120);
        CHECK.due("no more", need(twice, 0, 121), -1);
    }

    /** A town with a store, and a boiler that makes 100 an hour, 1 for 1. */
    private static HeatTown filled(int most, int step) {
        HeatTown town = new HeatTown();
        town.store(most, step);
        town.boiler(100, 1000);
        return town;
    }

    private static void storeSteps() {
        CHECK.promise(10, "-9: more than 40 STEPS would be");
        int[][] taken = {{40, 1}, {80, 2}, {81, 2}, {1000000, 25000}, {1000000, 24999}, {1000000, 24391}, {2000, 49}};
        for (int[] s : taken) {
            CHECK.due("store(" + s[0] + ", " + s[1] + ")", new HeatTown().store(s[0], s[1]), 0);
        }
        int[][] refused = {{41, 1}, {82, 2}, {1000000, 24390}, {1000000, 1}, {2000, 48}};
        for (int[] s : refused) {
            HeatTown town = filled(30, 10);
            CHECK.due("store(" + s[0] + ", " + s[1] + ")", town.store(s[0], s[1]), -9);
            CHECK.due("it holds 30 still", need(town, 0, 130), 130);
            CHECK.due("no more", need(town, 0, 131), -1);
        }
    }

    /** Forty steps are all used: up in one hour and down in another, or one by one. */
    private static void fortySteps() {
        CHECK.promise(10, "40 STEPS are not too many");
        HeatTown town = new HeatTown();
        town.store(40, 1);
        town.boiler(100, 1000);
        CHECK.due("up and down at once", need(town, 60, 140, 60, 140), 400);
        int[] atOnce = {40, 0, 40, 0};
        for (int k = 0; k < 4; k++) {
            CHECK.due("planned(" + k + ")", town.planned(k), atOnce[k]);
        }
        CHECK.due("one too many", need(town, 60, 141), -1);
        CHECK.due("one too many", need(town, 61, 140), -1);
        CHECK.due("39 and one", need(town, 61, 99, 140), 300);
        CHECK.due("planned(0)", town.planned(0), 39);
        CHECK.due("planned(1)", town.planned(1), 40);
        long[] slowly = new long[24];
        java.util.Arrays.fill(slowly, 98);
        slowly[21] = 120;
        slowly[22] = 120;
        slowly[23] = 100;
        CHECK.due("two steps an hour", need(town, slowly), 21 * 98 + 340);
        for (int k = 0; k < 21; k++) {
            CHECK.due("planned(" + k + ")", town.planned(k), 2 * k);
        }
        CHECK.due("planned(21)", town.planned(21), 20);
        CHECK.due("planned(22)", town.planned(22), 0);
        town.go(24);
        CHECK.due("nothing is needed in truth: it stays full", town.sum(7), 40);
        CHECK.due("all of it at once", need(town, 140), 100);
        CHECK.due("planned(0)", town.planned(0), 0);
    }

    private static void storeTooLate() {
        CHECK.promise(10, "-9: an HOUR has gone");
        HeatTown town = new HeatTown();
        CHECK.due("in hour 0", town.store(10, 1), 0);
        town.ahead(48, 0);
        CHECK.due("no hour has gone by ahead()", town.store(10, 1), 0);
        town.go(1);
        CHECK.due("in hour 1", town.store(10, 1), -9);
        LIVELY.refused("store(2000, 500)", t -> t.store(2000, 500), -9);
        LIVELY.refused("store(0, 1)", t -> t.store(0, 1), -9);
        CHECK.promise(10, "-2 is told ahead of -9");
        CHECK.due("an hour has gone", town.store(-1, 1), -2);
        CHECK.due("an hour has gone", town.store(1000001, 200000), -2);
        CHECK.due("an hour has gone", town.store(1, 0), -2);
        CHECK.due("an hour has gone", town.store(1, 200001), -2);
        CHECK.due("more than 40 steps", new HeatTown().store(1000001, 1), -2);
        CHECK.promise(10, "-9: there is a PLAN");
        HeatTown plan = filled(30, 10);
        CHECK.due("ahead of a plan", plan.store(30, 10), 0);
        CHECK.due("a plan", need(plan, 0, 130), 130);
        CHECK.due("there is one", plan.store(20, 10), -9);
        CHECK.due("there is one, -2 first", plan.store(20, 0), -2);
        CHECK.due("it holds 30 still", need(plan, 0, 130), 130);
        CHECK.due("a refused plan() leaves it", plan.plan(0), -5);
        CHECK.due("there is one still", plan.store(20, 10), -9);
        CHECK.due("it can't be", need(plan, 0, 131), -1);
        CHECK.due("there is none", plan.store(20, 10), 0);
        CHECK.due("20 are kept", need(plan, 0, 121), -1);
    }

    private static void planRefusals() {
        CHECK.promise(24, "-2 as air(): there is no such PLACE (the PLAN stays)");
        int[] none = {-1, 4, Integer.MIN_VALUE, Integer.MAX_VALUE};
        for (int place : none) {
            LIVELY.refused("plan(" + place + ")", t -> t.plan(place), -2);
        }
        CHECK.promise(24, "-5 as air(): it has nothing (the PLAN stays)");
        LIVELY.refused("plan(3)", t -> t.plan(3), -5);
        CHECK.promise(24, "-8: its row has none (the PLAN stays)");
        LIVELY.refused("plan(2)", t -> t.plan(2), -8);
        CHECK.promise(24, "-8: or more than 24 (the PLAN stays)");
        int[] many = {25, 60};
        for (int n : many) {
            new Twin(CHECK, () -> withRow(new long[n])).refused("plan of " + n, t -> t.plan(3), -8);
        }
        CHECK.promise(24, "-4 as air(): one is not as told (the PLAN stays)");
        LIVELY.refused("plan(0), with a -4", t -> t.plan(0), -4);
        long[][] wrong = {{-1}, {800001}, {Long.MIN_VALUE}, {Long.MAX_VALUE}, {1L << 32}, {800001, 0, 0}, {0, -1, 0}, {0, 0, 800001}};
        for (long[] w : wrong) {
            new Twin(CHECK, () -> withRow(w)).refused("plan of " + w[0] + " ..", t -> t.plan(3), -4);
        }
        long[] last = new long[24];
        last[23] = -1;
        new Twin(CHECK, () -> withRow(last)).refused("the 24th is below 0", t -> t.plan(3), -4);
        CHECK.promise(24, "-8 is told ahead of -4, as air() tells them");
        long[] both = new long[25];
        both[0] = -1;
        new Twin(CHECK, () -> withRow(both)).refused("25 numbers, one below 0", t -> t.plan(3), -8);
        CHECK.promise(24, "NONE: it can't be (there is no PLAN then)");
        new Twin(CHECK, () -> withRow(0, 800000)).taken("plan of 800000", t -> t.plan(3), -1);
    }

    private static HeatTown withRow(long... numbers) {
        HeatTown town = Twin.lively();
        Check.numbers(town, 3, 3, numbers);
        return town;
    }

    private static void planLengths() {
        CHECK.promise(24, "for so many HOURS as the row of a PLACE has numbers (1 .. 24)");
        HeatTown town = filled(30, 10);
        CHECK.due("one number", need(town, 7), 7);
        CHECK.due("planned(0)", town.planned(0), 0);
        CHECK.due("planned(1)", town.planned(1), -1);
        long[] needs = new long[24];
        needs[0] = 1;
        needs[23] = 130;
        CHECK.due("24 numbers", need(town, needs), 131);
        CHECK.due("planned(21)", town.planned(21), 0);
        CHECK.due("planned(22)", town.planned(22), 30);
        CHECK.due("planned(23)", town.planned(23), 0);
        CHECK.due("planned(24)", town.planned(24), -1);
        CHECK.due("25 numbers", need(town, new long[25]), -8);
        CHECK.due("no numbers", need(town), -8);
        CHECK.due("planned(22) stays", town.planned(22), 30);
    }

    private static void planNumbers() {
        CHECK.promise(24, "(.. 0 .. 800000 each): the least cost");
        HeatTown town = new HeatTown();
        for (int b = 0; b < 4; b++) {
            town.boiler(200000, 1000);
        }
        CHECK.due("0", need(town, 0), 0);
        CHECK.due("800000", need(town, 800000), 800000);
        CHECK.due("800001", need(town, 800001), -4);
        CHECK.due("-1", need(town, -1), -4);
        long[] most = new long[24];
        java.util.Arrays.fill(most, 800000);
        CHECK.due("800000 in each of 24 hours", need(town, most), 24 * 800000L);
        Check.numbers(town, 0, 2, 200000, 200000);
        town.mill(0, 1000);
        CHECK.due("the mill beside them", need(town, 800000, 800000), 1600000);
        for (int width = 0; width < 4; width++) {
            Check.numbers(town, 1, width, 0, 100);
            CHECK.due("a row of WIDTH " + width, town.plan(1), 100);
        }
    }

    /** Hour 0 fills 500, hour 1 would use it: what is in the store tells whether the plan is followed. */
    private static HeatTown planning() {
        HeatTown town = Check.nodes(2);
        town.pipe(0, 1, 60, 60, 0, false, false);
        town.house(1, 3, 0);
        town.store(1000, 500);
        town.boiler(10000, 10);
        need(town, 0, 10500);
        return town;
    }

    private static void planStays() {
        CHECK.promise(24, "(the PLAN stays in these)");
        long[][] refused = {{}, new long[25], {-1}, {800001}};
        int[] due = {-8, -8, -4, -4};
        for (int i = 0; i < refused.length; i++) {
            HeatTown town = planning();
            CHECK.due("refused", need(town, refused[i]), due[i]);
            CHECK.due("there is a plan", town.store(1, 1), -9);
            town.go(1);
            CHECK.due("hour 0 by the plan", town.sum(7), 500);
            town.go(1);
            CHECK.due("hour 1 by the plan", town.sum(7), 0);
        }
        int[] places = {-1, 4, 0};
        for (int place : places) {
            HeatTown town = planning();
            CHECK.due("plan(" + place + ")", town.plan(place), place == 0 ? -5 : -2);
            town.go(1);
            CHECK.due("hour 0 by the plan", town.sum(7), 500);
        }
        CHECK.promise(24, "NONE: it can't be (there is no PLAN then)");
        HeatTown town = planning();
        CHECK.due("it can't be", need(town, 10001), -1);
        CHECK.due("planned(0)", town.planned(0), 500);
        town.go(1);
        CHECK.due("no plan in hour 0", town.sum(7), 0);
        CHECK.due("a new plan", need(town, 0, 10500), 5 + 100);
        town.go(1);
        CHECK.due("hour 1 by it", town.sum(7), 500);
        CHECK.due("it can't be", need(town, 10501), -1);
        town.go(1);
        CHECK.due("no plan in hour 2: it stays", town.sum(7), 500);
    }

    private static void planned() {
        CHECK.promise(25, "NONE if there is none such");
        HeatTown town = filled(30, 10);
        int[] edges = {-1, 0, 1, 23, 24, Integer.MIN_VALUE, Integer.MAX_VALUE};
        for (int k : edges) {
            CHECK.due("planned(" + k + ") ahead of any", town.planned(k), -1);
        }
        CHECK.due("it can't be", need(town, 101), -1);
        CHECK.due("none that told a cost", town.planned(0), -1);
        CHECK.promise(25, "The LEVEL that is PLANNED for the end of the k-th HOUR");
        // 110 in hour 1 and 120 in hour 2 are 30 more than can be made then.
        int[] levels = {30, 20, 0, -1};
        CHECK.due("three hours", need(town, 70, 110, 120), 300);
        for (int k = 0; k < levels.length; k++) {
            CHECK.due("planned(" + k + ")", town.planned(k), levels[k]);
        }
        CHECK.due("planned(-1)", town.planned(-1), -1);
        CHECK.due("planned(least)", town.planned(Integer.MIN_VALUE), -1);
        CHECK.due("planned(greatest)", town.planned(Integer.MAX_VALUE), -1);
        CHECK.promise(25, "of the latest plan() that told a cost");
        CHECK.due("it can't be", need(town, 131), -1);
        CHECK.due("planned(0)", town.planned(0), 30);
        CHECK.due("refused", need(town, -1), -4);
        CHECK.due("planned(1)", town.planned(1), 20);
        town.go(5);
        CHECK.due("hours later", town.planned(1), 20);
        CHECK.due("a shorter one", need(town, 0), 0);
        CHECK.due("planned(0)", town.planned(0), 0);
        CHECK.due("planned(1)", town.planned(1), -1);
    }

    private static void levels() {
        CHECK.terms("V", "LEVELS are multiples of STEP, not above what the STORE holds");
        HeatTown town = filled(35, 10);
        CHECK.due("30 of 35", need(town, 0, 130), 130);
        CHECK.due("planned(0)", town.planned(0), 30);
        CHECK.due("not 31 of 35", need(town, 0, 131), -1);
        CHECK.due("a part of a step needs a whole one", need(town, 0, 101, 0), 101 + 9 - 9);
        CHECK.due("planned(0)", town.planned(0), 10);
        HeatTown small = filled(9, 10);
        CHECK.due("a store below a step keeps nothing", need(small, 0, 101), -1);
        CHECK.terms("V", "from what is in it now (cut to a multiple) on");
        HeatTown cut = Check.nodes(2);
        cut.pipe(0, 1, 60, 60, 0, false, false);
        cut.house(1, 3, 0);
        cut.store(1000, 500);
        cut.boiler(2700, 1000);
        Check.rules(cut, "send 40");
        // Two units an hour need 8000 less 6000; 700 are left of 1000 that the store is to get.
        CHECK.due("plan", need(cut, 0, 3700), 1000 + 2700);
        CHECK.due("planned(0)", cut.planned(0), 1000);
        cut.go(1);
        CHECK.due("sum(7)", cut.sum(7), 700);
        CHECK.due("500 of 700 count", need(cut, 3200), 2700);
        CHECK.due("not 501", need(cut, 3201), -1);
        CHECK.due("they may stay", need(cut, 0), 0);
        CHECK.due("planned(0)", cut.planned(0), 500);
        cut.go(1);
        CHECK.due("the 200 come out", cut.sum(7), 500);
        CHECK.due("so much less is made", cut.sum(0), 2700 + 1800);
    }

    private static void bounds() {
        CHECK.terms("V", "is 0 at least and not above the mill's offer of that HOUR and all BOILERS together");
        HeatTown town = filled(30, 10);
        CHECK.due("as much as can be", need(town, 70, 130), 200);
        CHECK.due("one too many", need(town, 71, 130), -1);
        Check.numbers(town, 0, 1, 1, 2);
        town.mill(0, 1000);
        CHECK.due("the mill and the boiler", need(town, 101, 102), 203);
        CHECK.due("one above them in hour 0", need(town, 102, 102), -1);
        CHECK.due("one above them in hour 1", need(town, 91, 103), 194);
        CHECK.due("planned(0)", town.planned(0), 10);
        HeatTown full = filled(30, 10);
        CHECK.due("fill it", need(full, 0, 130), 130);
        full.go(1);
        CHECK.due("sum(7)", full.sum(7), 30);
        CHECK.due("10 come out for 10", need(full, 10), 0);
        CHECK.due("planned(0)", full.planned(0), 20);
        CHECK.due("9 are less than a step", need(full, 9), 9);
        CHECK.due("planned(0)", full.planned(0), 30);
        CHECK.due("all that is there", need(full, 30), 0);
        CHECK.due("planned(0)", full.planned(0), 0);
        CHECK.due("and all that can be made", need(full, 130), 100);
        CHECK.due("one more", need(full, 131), -1);
    }

    private static void ties() {
        CHECK.terms("V", "of several the first by LEVELS (the least one first)");
        HeatTown town = filled(30, 10);
        CHECK.due("as late as can be", need(town, 0, 0, 0, 110), 110);
        int[] late = {0, 0, 10, 0};
        for (int k = 0; k < late.length; k++) {
            CHECK.due("planned(" + k + ")", town.planned(k), late[k]);
        }
        HeatTown free = new HeatTown();
        free.store(30, 10);
        free.boiler(100, 0);
        CHECK.due("all costs nothing", need(free, 5, 5), 0);
        CHECK.due("planned(0)", free.planned(0), 0);
        CHECK.due("planned(1)", free.planned(1), 0);
        CHECK.terms("V", "The least cost in all");
        HeatTown cut = new HeatTown();
        cut.store(30, 5);
        cut.boiler(100, 100);
        // 4 and 21 cost 0 and 2, 9 and 16 cost 0 and 1: each hour is cut for itself.
        CHECK.due("a step more in hour 0", need(cut, 4, 21), 1);
        CHECK.due("planned(0)", cut.planned(0), 5);
        CHECK.due("14 and 15 cost as much as 9 and 20", need(cut, 9, 20), 2);
        CHECK.due("the least level", cut.planned(0), 0);
    }

    /** Two units go out an hour, and 6000 come back with them; all that is made is made by one boiler. */
    private static HeatTown twoUnits(String rules) {
        HeatTown town = Check.nodes(2);
        town.pipe(0, 1, 60, 60, 0, false, false);
        town.house(1, 3, 0);
        Check.rules(town, rules);
        return town;
    }

    private static void needed() {
        CHECK.terms("V", "send times 100 for each unit, less the WARM of what came back there, 0 at least");
        HeatTown town = twoUnits("send 40");
        town.boiler(200000, 1000);
        town.go(1);
        CHECK.due("8000 less 6000", town.sum(0), 2000);
        CHECK.due("count(10)", town.count(10), 4000);
        HeatTown warm = Check.nodes(2);
        warm.pipe(0, 1, 4, 4, 0, false, false);
        warm.house(1, 1, 0);
        warm.terms(8, 50);
        warm.boiler(200000, 1000);
        Check.rules(warm, "drop 20;send 50 when hour<4;send 40");
        // The house takes 1000 of each 6000: units of 5000 come back from hour 4 on.
        warm.go(4);
        CHECK.due("4 units of 3000 were made 5000", warm.sum(0), 4 * 2000);
        warm.go(1);
        CHECK.due("5000 came back, 4000 is to be sent", warm.sum(0), 4 * 2000);
        CHECK.due("it is as warm as it came", warm.count(10), 5000);
        CHECK.due("nothing was paid", warm.sum(4), 8000);
        HeatTown still = twoUnits("send 40");
        still.boiler(200000, 1000);
        Check.air(still, 20);
        still.go(1);
        CHECK.due("nothing goes out, nothing is made", still.sum(0), 0);
    }

    private static void mill() {
        CHECK.terms("V", "First the mill gives what it offers, as much as is needed");
        int[] offers = {0, 1, 1999, 2000, 2001, 200000};
        for (int offer : offers) {
            HeatTown town = twoUnits("send 40");
            town.boiler(200000, 0);
            Check.numbers(town, 0, 2, offer);
            town.mill(0, 1000);
            town.go(1);
            CHECK.due("it gives of " + offer, town.sum(1), Math.min(offer, 2000));
            CHECK.due("the boiler makes the rest", town.sum(0), 2000 - Math.min(offer, 2000));
            CHECK.due("it costs", town.sum(4), Math.min(offer, 2000));
            town.go(1);
            CHECK.due("nothing more by the mill", town.sum(1), Math.min(offer, 2000));
        }
    }

    private static void boilerOrder() {
        CHECK.terms("V", "Then BOILERS, the least COST first, then the least number, as much as each can");
        int[][] mosts = {{1999, 1}, {2000, 1}, {2001, 1}, {1, 1}};
        for (int[] m : mosts) {
            HeatTown town = twoUnits("send 40");
            town.boiler(m[1], 900);
            town.boiler(m[0], 500);
            town.go(1);
            int first = Math.min(2000, m[0]);
            int second = Math.min(2000 - first, m[1]);
            CHECK.due("made", town.sum(0), first + second);
            CHECK.due("cost", town.sum(4), first * 500 / 1000 + second * 900 / 1000);
            CHECK.due("count(10)", town.count(10), (6000 + first + second) / 2);
        }
        HeatTown alike = twoUnits("send 40");
        alike.boiler(1000, 1);
        alike.boiler(1999, 1);
        alike.go(1);
        // 1000 and 1000 cost 1 each; the other way round 1999 and 1 would cost 1 and 0.
        CHECK.due("the least number first", alike.sum(4), 1 + 1);
        for (int code = 0; code < 256; code++) {
            int[] costs = {code & 3, code >> 2 & 3, code >> 4 & 3, code >> 6};
            HeatTown four = new HeatTown();
            for (int cost : costs) {
                four.boiler(10, 100 * cost);
            }
            java.util.Arrays.sort(costs);
            for (int many = 1; many <= 4; many++) {
                long due = 0;
                for (int b = 0; b < many; b++) {
                    due += costs[b];
                }
                CHECK.due(many + " of four, code " + code, need(four, 10 * many), due);
            }
        }
    }

    private static void costs() {
        CHECK.terms("V", "COST for each 1000 of a BOILER (cut, each HOUR and BOILER), the price likewise");
        int[][] cases = {{999, 1, 0}, {1000, 1, 1}, {1999, 1, 1}, {2000, 1, 2}, {500, 2, 1}, {499, 2, 0}};
        for (int[] c : cases) {
            HeatTown town = twoUnits("send 40");
            town.boiler(c[0], c[1]);
            town.go(1);
            CHECK.due("made " + c[0] + " for " + c[1], town.sum(4), c[2]);
            HeatTown by = twoUnits("send 40");
            Check.numbers(by, 0, 2, c[0]);
            by.mill(0, c[1]);
            by.go(1);
            CHECK.due("given " + c[0] + " for " + c[1], by.sum(4), c[2]);
        }
        HeatTown hours = twoUnits("send 40");
        hours.boiler(999, 1);
        hours.go(2);
        CHECK.due("each hour is cut", hours.sum(4), 0);
        HeatTown both = twoUnits("send 40");
        both.boiler(999, 1);
        both.boiler(999, 1);
        both.go(1);
        CHECK.due("each boiler is cut", both.sum(4), 0);
    }

    /** What is made besides the 2000 of each hour goes into the store; its level is 1000 for hour 0. */
    private static HeatTown filling(int most) {
        HeatTown town = twoUnits("send 40");
        town.store(1000, 1000);
        town.boiler(most, 0);
        need(town, 0, most + 1000L);
        return town;
    }

    private static void storeAtWork() {
        CHECK.terms("V", "What is too little is not put into the STORE first (it stays lower), then lacks");
        int[][] cases = {{3001, 1000, 4000}, {3000, 1000, 4000}, {2999, 999, 4000}, {2001, 1, 4000}, {2000, 0, 4000},
            {1999, 0, 3999}, {1998, 0, 3999}, {1997, 0, 3998}};
        for (int[] c : cases) {
            HeatTown town = filling(c[0]);
            CHECK.due("planned(0)", town.planned(0), 1000);
            town.go(1);
            CHECK.due("stored of " + c[0], town.sum(7), c[1]);
            CHECK.due("sent of " + c[0], town.count(10), c[2]);
            CHECK.due("made of " + c[0], town.sum(0), Math.min(3000, c[0]));
        }
        int[][] ones = {{2001, 1, 4000}, {2000, 0, 4000}, {1999, 0, 3999}};
        for (int[] o : ones) {
            HeatTown one = twoUnits("send 40");
            one.store(1, 1);
            one.boiler(o[0], 0);
            need(one, 0, o[0] + 1);
            CHECK.due("planned(0)", one.planned(0), 1);
            one.go(1);
            CHECK.due("a store of one, by " + o[0], one.sum(7), o[1]);
            CHECK.due("sent by " + o[0], one.count(10), o[2]);
        }
        CHECK.terms("V", "If more comes out of the STORE than is needed it stays in the STORE");
        int[] sends = {40, 41, 45, 46};
        for (int send : sends) {
            HeatTown town = twoUnits("send 40 when hour=0;send " + send);
            town.store(12000, 6000);
            town.boiler(14000, 0);
            need(town, 0, 26000);
            town.go(1);
            CHECK.due("filled", town.sum(7), 12000);
            long made = town.sum(0);
            town.go(1);
            // 6000 come back, so 2 * send * 100 - 6000 are needed of what is stored.
            CHECK.due("left behind send " + send, town.sum(7), 12000 - (200 * send - 6000));
            CHECK.due("nothing is made", town.sum(0), made);
            CHECK.due("sent", town.count(10), 100 * send);
        }
        HeatTown all = twoUnits("send 40 when hour=0;send 50");
        all.store(3000, 1000);
        all.boiler(5000, 0);
        need(all, 0, 8000);
        all.go(1);
        all.go(1);
        CHECK.due("all comes out", all.sum(7), 0);
        CHECK.due("and 1000 are made", all.sum(0), 5000 + 1000);
    }

    private static void behindThePlan() {
        CHECK.terms("V", "Behind it, and without a PLAN, the STORE stays as it is");
        HeatTown town = twoUnits("send 40");
        town.store(1000, 1000);
        town.boiler(3000, 0);
        town.go(1);
        CHECK.due("without a plan", town.sum(7), 0);
        CHECK.due("plan", need(town, 0, 4000), 0);
        CHECK.due("planned(0)", town.planned(0), 1000);
        town.go(1);
        CHECK.due("hour 1", town.sum(7), 1000);
        // One hour alone: it ends as it is.
        CHECK.due("plan of one hour", need(town, 0), 0);
        CHECK.due("planned(0)", town.planned(0), 1000);
        town.go(1);
        CHECK.due("hour 2", town.sum(7), 1000);
        town.go(48);
        CHECK.due("behind it", town.sum(7), 1000);
        CHECK.due("it is made, not taken", town.sum(0), 51 * 2000 + 1000);
        long[] needs = new long[24];
        needs[23] = 4000;
        CHECK.due("24 hours", need(town, needs), 0);
        CHECK.due("kept up to hour 22", town.planned(22), 1000);
        town.go(23);
        CHECK.due("up to the 23rd", town.sum(7), 1000);
        town.go(1);
        CHECK.due("the 24th", town.sum(7), 0);
        town.go(1);
        CHECK.due("behind the 24th", town.sum(7), 0);
    }
}
