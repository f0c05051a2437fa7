/** Promises 16, 28 to 30, 32 and 33, and Terms III: what an hour does, and what is told of it. */
public final class HoursTest {
    private static final Check CHECK = new Check();

    public static void main(String[] args) {
        numbersOfHours();
        mixing();
        backwards();
        passingThrough();
        lossesAndBills();
        lossesOfManyPipes();
        standingStill();
        wrongQuestions();
        CHECK.finish();
    }

    private static void numbersOfHours() {
        HeatTown town = new HeatTown();
        int[] wrong = {0, -1, 49, Integer.MIN_VALUE, Integer.MAX_VALUE};
        for (int w : wrong) {
            CHECK.due("go(" + w + ")", town.go(w), -2);
        }
        CHECK.due("go(1)", town.go(1), 1);
        for (int i = 1; i <= 104; i++) {
            CHECK.due("go(48)", town.go(48), 1 + 48 * i);
        }
        CHECK.due("to 5001", town.go(8), -3);
        CHECK.due("to 5000", town.go(7), 5000);
        CHECK.due("beyond", town.go(1), -3);
        CHECK.due("a wrong number beyond", town.go(49), -2);
        CHECK.due("count(0)", town.count(0), 5000);
    }

    private static HeatTown twoHouses(int loss) {
        HeatTown town = new HeatTown();
        town.node();
        town.pipe(0, 1, 4, 4, loss, false, false);
        town.house(1, 3, 0);
        town.house(1, 1, 9);
        town.boiler(200000, 10);
        return town;
    }

    private static void units(HeatTown town, String when, int pipe, int what, int... warms) {
        for (int k = 0; k < warms.length; k++) {
            CHECK.due(when + ": unit(" + pipe + ", " + k + ", " + what + ")", town.unit(pipe, k, what), warms[k]);
        }
        CHECK.due(when + ": behind them", town.unit(pipe, warms.length, what), -1);
    }

    private static void mixing() {
        HeatTown town = twoHouses(0);
        town.go(1);
        units(town, "hour 1", 0, 0, 7000, 7000, 7000, 6000);
        // 18000 - 6000 - 2000 for three units.
        units(town, "hour 1", 0, 1, 3000, 3333, 3333, 3334);
        CHECK.due("houseOf(0, 3)", town.houseOf(0, 3), 2);
        CHECK.due("houseOf(0, 4)", town.houseOf(0, 4), 12000);
        CHECK.due("sum(0)", town.sum(0), 12000);
        CHECK.due("sum(4)", town.sum(4), 120);
        town.go(1);
        units(town, "hour 2", 0, 0, 7000, 7000, 7000, 7000);
        units(town, "hour 2", 0, 1, 3334, 4000, 4000, 4000);
        // 20000 for three units: 6666, 6667, 6667, though house 1 has the higher rank.
        CHECK.due("houseOf(0, 4)", town.houseOf(0, 4), 13333);
        CHECK.due("houseOf(1, 4)", town.houseOf(1, 4), 6667);
        CHECK.due("sum(0)", town.sum(0), 12000 + 11334);
        CHECK.due("sum(2)", town.sum(2), 16000);
        CHECK.due("sum(4)", town.sum(4), 120 + 113);
        CHECK.due("sum(6)", town.sum(6), 4 * 7000 + 3334 + 3 * 4000);
        CHECK.due("count(10)", town.count(10), 7000);
        // 9666 came back by three units: 32 degrees.
        town.node();
        town.house(2, 50, 0);
        Check.rules(town, "drop back");
        CHECK.due("1000 by 32", town.gets(2, 0), 32);
    }

    /** A pipe that is laid from the house to the plant. */
    private static void backwards() {
        HeatTown town = new HeatTown();
        town.node();
        town.pipe(1, 0, 5, 5, 0, false, false);
        town.house(1, 3, 0);
        town.boiler(200000, 10);
        town.go(1);
        CHECK.due("pipeOf(0, 7)", town.pipeOf(0, 7), -2);
        units(town, "hour 1", 0, 0, 6000, 6000, 6000, 7000, 7000);
        units(town, "hour 1", 0, 1, 3000, 3000, 3000, 3000, 3000);
        town.go(2);
        // One unit of 7000 and one of 6000 came: (13000 - 6000) / 2 each go back, the first one ahead.
        CHECK.due("houseOf(0, 4)", town.houseOf(0, 4), 13000);
        units(town, "hour 3", 0, 1, 3500, 3500, 3000, 3000, 3000);
        town.burst(0, true);
        town.go(1);
        CHECK.due("pipeOf(0, 7)", town.pipeOf(0, 7), 0);
        units(town, "it stands", 0, 1, 3500, 3500, 3000, 3000, 3000);
    }

    /** At node 1 a house takes one unit, the others go on to node 2 by two pipes. */
    private static void passingThrough() {
        HeatTown town = new HeatTown();
        town.node();
        town.node();
        town.pipe(0, 1, 4, 4, 0, false, false);
        town.pipe(2, 1, 4, 1, 0, false, false);
        town.pipe(1, 2, 4, 2, 0, false, false);
        town.house(1, 1, 0);
        town.house(2, 4, 5);
        town.boiler(1000, 0);
        CHECK.due("flow(1)", town.flow(1), -1);
        CHECK.due("flow(2)", town.flow(2), 2);
        town.go(1);
        // 4 units came back with 3000, 1000 is made: 13000 by 4.
        CHECK.due("count(10)", town.count(10), 3250);
        units(town, "hour 1", 0, 0, 3250, 3250, 3250, 3250);
        units(town, "hour 1", 1, 0, 6000, 6000, 6000, 6000);
        // House 1 used 8000 of 18000: 3333, 3333, 3334 come back, pipe 1 first.
        units(town, "hour 1", 1, 1, 3333, 3000, 3000, 3000);
        units(town, "hour 1", 2, 1, 3000, 3000, 3333, 3334);
        // House 0 left 4000, and 3 of 3000 came back there: 13000 by 4.
        units(town, "hour 1", 0, 1, 3250, 3250, 3250, 3250);
        town.go(1);
        // Back with 13000, 1000 is made again; 13000 by 4 to pipe 1, pipe 2 and house 0.
        units(town, "hour 2", 0, 0, 3500, 3500, 3500, 3500);
        units(town, "hour 2", 1, 0, 6000, 6000, 6000, 3250);
        units(town, "hour 2", 2, 0, 3250, 3250, 6000, 6000);
        CHECK.due("houseOf(0, 4)", town.houseOf(0, 4), 3250);
        CHECK.due("it is cold by", town.sums(0, 1), 2000 - 750);
        CHECK.due("houseOf(0, 5)", town.houseOf(0, 5), 1);
        CHECK.due("houseOf(1, 5)", town.houseOf(1, 5), 0);
        CHECK.due("sum(5)", town.sum(5), 1250);
    }

    private static void lossesAndBills() {
        HeatTown town = twoHouses(100);
        Check.rules(town, "lost 500;price 7");
        town.go(1);
        units(town, "cooler", 0, 0, 6380, 6380, 6380, 5480);
        units(town, "cooler", 0, 1, 2780, 3080, 3080, 3081);
        CHECK.due("sum(3)", town.sum(3), 3359);
        // 3359 * 2 / 3 = 2239, by half 1119; 3359 / 3 = 1119, by half 559.
        CHECK.due("sums(0, 3)", town.sums(0, 3), 1119);
        CHECK.due("sums(1, 3)", town.sums(1, 3), 559);
        CHECK.due("sums(0, 2)", town.sums(0, 2), 42);
        CHECK.due("sums(1, 2)", town.sums(1, 2), 14);
        CHECK.due("sums(0, 0)", town.sums(0, 0), 6000);
        town.terms(20, 25);
        town.valve(0, 0, true);
        town.burst(0, true);
        town.go(1);
        // Nothing goes, but it cools: above 2000 a tenth. Nobody pays for it.
        CHECK.due("sum(3)", town.sum(3), 3359 + 3 * 438 + 348 + 78 + 3 * 108);
        CHECK.due("sums(0, 3)", town.sums(0, 3), 1119);
        CHECK.due("count(10)", town.count(10), -1);
        CHECK.due("houseOf(0, 3)", town.houseOf(0, 3), 0);
        CHECK.due("houseOf(0, 4)", town.houseOf(0, 4), -1);
        CHECK.due("sums(0, 1)", town.sums(0, 1), 6000);
        CHECK.due("sums(1, 1)", town.sums(1, 1), 2000);
        CHECK.due("sum(5)", town.sum(5), 8000);
    }

    /** House 0 pays for pipe 0 alone, house 1 for all of pipe 1 and its part of pipe 0. */
    private static void lossesOfManyPipes() {
        HeatTown town = new HeatTown();
        town.node();
        town.node();
        town.pipe(0, 1, 4, 4, 100, false, false);
        town.pipe(2, 1, 4, 4, 1, false, false);
        town.house(1, 3, 0);
        town.house(2, 1, 0);
        Check.rules(town, "lost 1000 when size=3;lost 10");
        Check.numbers(town, 0, 0, 17);
        town.air(0);
        CHECK.due("flow(0)", town.flow(0), 2);
        CHECK.due("flow(1)", town.flow(1), -1);
        town.go(1);
        // Pipe 0, out: 2 of 3000 (220 each) and 2 of 6000 (520). Back at node 1: 6000 - 900 of house 0 and the 3000
        // that came out of pipe 1 are 4050 each (325); 2 of 3000 (220).
        long first = 2 * 220 + 2 * 520 + 2 * 325 + 2 * 220;
        // Pipe 1, out: 4 of 6000 (5 each); back: 3 of 3000 (2), one of 6000 - 300 (4).
        long second = 4 * 5 + 3 * 2 + 4;
        CHECK.due("sum(3)", town.sum(3), first + second);
        CHECK.due("sums(0, 3)", town.sums(0, 3), first / 2);
        CHECK.due("sums(1, 3)", town.sums(1, 3), first / 2 * 10 / 1000 + second * 10 / 1000);
    }

    private static void standingStill() {
        HeatTown town = twoHouses(200);
        Check.numbers(town, 0, 0, 20);
        town.air(0);
        CHECK.due("nobody wants", town.gets(0, 0), 0);
        town.go(1);
        CHECK.due("nothing went", town.count(10), -1);
        CHECK.due("nobody is cold", town.sum(5), 0);
        CHECK.due("sum(6)", town.sum(6), 4 * 4960 + 4 * 2560);
        town.go(48);
        // It never falls below the ground; under 5 above it nothing is lost any more.
        CHECK.due("unit(0, 0, 1)", town.unit(0, 0, 1), 804);
        Check.numbers(town, 0, 0, 40);
        town.air(0);
        town.go(1);
        CHECK.due("no need below 0", town.sum(2), 0);
        town.terms(20, 15);
        town.go(1);
        CHECK.due("what is colder than the ground stays", town.unit(0, 0, 1), 804);
    }

    private static void wrongQuestions() {
        HeatTown town = twoHouses(0);
        int[][] noUnit = {{-1, 0, 0}, {1, 0, 0}, {0, -1, 0}, {0, 4, 0}, {0, 0, -1}, {0, 0, 2}};
        for (int[] u : noUnit) {
            CHECK.due("no such unit", town.unit(u[0], u[1], u[2]), -1);
        }
        int[][] noHouse = {{-1, 0}, {2, 0}, {0, -1}, {0, 6}};
        for (int[] h : noHouse) {
            CHECK.due("houseOf", town.houseOf(h[0], h[1]), -2);
        }
        int[][] noSums = {{-1, 0}, {2, 0}, {0, -1}, {0, 4}};
        for (int[] h : noSums) {
            CHECK.due("sums", town.sums(h[0], h[1]), -2);
        }
        int[] none = {-1, 8, Integer.MIN_VALUE, Integer.MAX_VALUE};
        for (int w : none) {
            CHECK.due("sum(" + w + ")", town.sum(w), 0);
        }
        int[] noCount = {-1, 11, Integer.MIN_VALUE, Integer.MAX_VALUE};
        for (int w : noCount) {
            CHECK.due("count(" + w + ")", town.count(w), -1);
        }
        int[] counts = {0, 2, 1, 2, 1};
        for (int w = 0; w < counts.length; w++) {
            CHECK.due("count(" + w + ")", town.count(w), counts[w]);
        }
    }
}
