/** Promises 17 and 18: what would be. */
public final class AheadTest {
    private static final Check CHECK = new Check();

    public static void main(String[] args) {
        whoIsColdWhen();
        nothingHappens();
        whatItCosts();
        fromWhatIsNow();
        nearTheEnd();
        CHECK.finish();
    }

    /** House 0 has warm water for two hours and lukewarm for four, house 1 has no pipe. */
    private static HeatTown town() {
        HeatTown town = new HeatTown();
        town.node();
        town.node();
        town.pipe(0, 1, 4, 2, 0, false, false);
        town.house(1, 3, 0);
        town.house(2, 1, 0);
        return town;
    }

    private static void whoIsColdWhen() {
        HeatTown town = town();
        int[][] wrong = {{0, 0}, {49, 0}, {-1, 0}, {1, -1}, {1, 4}};
        for (int[] w : wrong) {
            CHECK.due("ahead(" + w[0] + ", " + w[1] + ")", town.ahead(w[0], w[1]), -2);
        }
        CHECK.due("no ahead() yet", town.aheadOf(0, 0), -2);
        CHECK.due("ahead(7, 0)", town.ahead(7, 0), 4 * 5000 + 6000 + 7 * 2000);
        CHECK.due("aheadOf(0, 0)", town.aheadOf(0, 0), 26000);
        CHECK.due("aheadOf(0, 1)", town.aheadOf(0, 1), 2);
        CHECK.due("aheadOf(1, 0)", town.aheadOf(1, 0), 14000);
        CHECK.due("aheadOf(1, 1)", town.aheadOf(1, 1), 0);
        int[][] none = {{-1, 0}, {2, 0}, {0, -1}, {0, 2}};
        for (int[] n : none) {
            CHECK.due("aheadOf(" + n[0] + ", " + n[1] + ")", town.aheadOf(n[0], n[1]), -2);
        }
        CHECK.due("ahead(0, 0)", town.ahead(0, 0), -2);
        CHECK.due("the latest good one counts", town.aheadOf(0, 0), 26000);
        town.house(1, 1, 0);
        CHECK.due("there was none such then", town.aheadOf(2, 0), -2);
        CHECK.due("ahead(1, 1)", town.ahead(1, 1), 0);
        CHECK.due("now there is", town.aheadOf(2, 1), 0);
        CHECK.due("not cold in one hour", town.aheadOf(0, 1), -1);
        CHECK.due("not cold in one hour", town.aheadOf(0, 0), 0);
    }

    private static void nothingHappens() {
        HeatTown town = town();
        Check.numbers(town, 0, 0, 0, 0, 20, 20, 0);
        town.air(0);
        town.go(1);
        long standing = town.sum(6);
        CHECK.due("ahead(48, 0)", town.ahead(48, 0) > 0, true);
        CHECK.due("hour", town.count(0), 1);
        CHECK.due("what stands", town.sum(6), standing);
        CHECK.due("cold", town.sum(5), 2000);
        CHECK.due("cold hours", town.houseOf(1, 5), 1);
        CHECK.due("cold of hour 1 alone", town.ahead(3, 0), 2000);
        CHECK.due("first", town.ahead(3, 1), 1);
        town.go(1);
        CHECK.due("warm air", town.ahead(2, 0), 0);
        CHECK.due("none", town.ahead(2, 1), -1);
        CHECK.due("none", town.aheadOf(1, 1), -1);
        CHECK.due("hour 4", town.ahead(3, 1), 4);
        CHECK.due("only what comes counts", town.aheadOf(1, 0), 2000);
    }

    private static void whatItCosts() {
        HeatTown town = new HeatTown();
        town.node();
        town.pipe(0, 1, 4, 4, 100, false, false);
        town.house(1, 3, 0);
        town.boiler(200000, 10);
        town.store(1000, 500);
        Check.numbers(town, 0, 2, 1000);
        town.mill(0, 100);
        Check.numbers(town, 0, 2, 0, 200000 + 500);
        CHECK.due("a plan of 500 for hour 0", town.plan(0), 50 + 2000);
        long[] due = new long[4];
        for (int what = 0; what < 4; what++) {
            due[what] = town.ahead(2, what);
        }
        // Hour 0: 8000 and 500 into the store, 1000 by the mill. Hour 1: back came 2 of 2780, less 500.
        CHECK.due("cost", due[3], 100 + 75 + (14000 - 5560 - 500) * 10 / 1000);
        CHECK.due("the store stays", town.sum(7), 0);
        town.go(2);
        CHECK.due("sum(5)", town.sum(5), due[0]);
        CHECK.due("sum(3)", town.sum(3), due[2]);
        CHECK.due("sum(4)", town.sum(4), due[3]);
        // The second two units lost 520 each: 2 * 5480 - 5000 is 40 too little.
        CHECK.due("cold", due[0], 40);
        CHECK.due("first cold hour", due[1], 1);
        long lost = town.sum(3);
        long costs = town.sum(4);
        long lostThen = town.ahead(5, 2);
        long costsThen = town.ahead(5, 3);
        town.go(5);
        CHECK.due("lost from then on", lostThen, town.sum(3) - lost);
        CHECK.due("costs from then on", costsThen, town.sum(4) - costs);
    }

    /** The store, and what came back in the latest hour, are those of now. */
    private static void fromWhatIsNow() {
        HeatTown town = new HeatTown();
        town.node();
        town.pipe(0, 1, 20, 20, 0, false, false);
        town.house(1, 3, 0);
        town.boiler(10000, 100);
        town.store(4000, 1000);
        Check.rules(town, "send 40");
        Check.numbers(town, 0, 2, 0, 14000);
        CHECK.due("a plan of 4000 for hour 0", town.plan(0), 400 + 1000);
        town.go(1);
        CHECK.due("stored", town.sum(7), 4000);
        CHECK.due("the store gives 2000, nothing is made", town.ahead(1, 3), 0);
        CHECK.due("two hours", town.ahead(2, 3), 200);
        Check.rules(town, "send 40 when back=30;send 50");
        town.go(1);
        CHECK.due("back is 30", town.ahead(1, 3), 200);
        // Each hour two units come back; those that the house left with 4000 come in hour 2.
        CHECK.due("hour 2: 8000 came back", warm(2).ahead(1, 3), 0);
        CHECK.due("hour 3: 12000 less 8000", warm(3).ahead(1, 3), 4000);
    }

    private static HeatTown warm(int hours) {
        HeatTown town = new HeatTown();
        town.node();
        town.pipe(0, 1, 4, 4, 0, false, false);
        town.house(1, 2, 0);
        town.boiler(100000, 1000);
        Check.rules(town, "send 40 when back=30;send 60");
        town.go(hours);
        return town;
    }

    private static void nearTheEnd() {
        HeatTown town = new HeatTown();
        town.node();
        town.house(1, 1, 0);
        for (int i = 0; i < 104; i++) {
            town.go(48);
        }
        town.go(8);
        CHECK.due("count(0)", town.count(0), 5000);
        CHECK.due("ahead goes beyond", town.ahead(48, 0), 96000);
        CHECK.due("ahead goes beyond", town.ahead(48, 1), 5000);
    }
}
