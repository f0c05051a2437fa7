/** The edges of Terms II: what sums, conditions and names are, and to what rules are cut (promises 14, 16 and 20). */
public final class EdgesTellTest {
    private static final Check CHECK = new Check();

    public static void main(String[] args) {
        divisions();
        goingAround();
        order();
        comparisons();
        firstThatHolds();
        sendSpan();
        dropSpan();
        priceSpan();
        lostSpan();
        airName();
        hourName();
        storeName();
        backName();
        houseNames();
        asItBegins();
        CHECK.finish();
    }

    /** Whether a condition holds, seen by the drop that it lets through. */
    private static void holds(String condition, boolean due) {
        HeatTown town = Check.nodes(2);
        town.house(1, 50, 0);
        CHECK.due("rules", Check.rules(town, "drop 10 when " + condition), 1);
        CHECK.due(condition, town.gets(0, 0), due ? 100 : 34);
    }

    private static void is(String sum, String value) {
        holds(sum + "=" + value, true);
        holds(sum + "=" + value + "+1", false);
    }

    private static void divisions() {
        CHECK.terms("II", "/ is cut, by 0 it gives 0");
        is("7/2", "3");
        is("6/2", "3");
        is("1/2", "0");
        is("(0-7)/2", "0-3");
        is("7/(0-2)", "0-3");
        is("(0-7)/(0-2)", "3");
        is("(0-1)/2", "0");
        is("0/5", "0");
        is("5/0", "0");
        is("0/0", "0");
        is("(0-5)/0", "0");
        is("9999/(3-3)", "0");
        is("5/0*7+1", "1");
        is("7/7", "1");
        is("7/8", "0");
    }

    private static void goingAround() {
        CHECK.terms("II", "Values have 64 bits and go around; (the least one by -1: itself)");
        String half = "4096*4096*4096*4096*4096*8";
        holds(half + "<0", true);
        holds(half + "-1>0", true);
        is(half + "*2", "0");
        is(half + "/(0-1)", half);
        is(half + "/1", half);
        is("(" + half + "-1)/(0-1)", half + "+1");
        is(half + "+" + half, "0");
        is("0-" + half, half);
        is(half + "/(" + half + ")", "1");
        is(half + "/0", "0");
        is(half + "/(0-2)", "4096*4096*4096*4096*4096*4");
        holds("9999*9999*9999*9999>9999", true);
        is("9999*9999*9999*9999/9999/9999/9999", "9999");
    }

    private static void order() {
        CHECK.terms("II", "SUM: TERM { (+ or -) TERM }. TERM: FACTOR { (* or /) FACTOR }");
        is("2+3*4", "14");
        is("2*3+4", "10");
        is("(2+3)*4", "20");
        is("20-5-3", "12");
        is("20-(5-3)", "18");
        is("20-5+3", "18");
        is("100/5/2", "10");
        is("100/(5/2)", "50");
        is("100/5*2", "40");
        is("7*3/2", "10");
        is("3/2*7", "7");
        is("1-2*3-4*5", "0-25");
        is("2*(3+4*(5-6/(7-5)))", "22");
        is("((((((((9))))))))", "9");
        CHECK.terms("II", "ANY: ALL { or ALL }. ALL: COND { and COND }");
        String[] truth = {"1=2", "1=1"};
        for (int bits = 0; bits < 16; bits++) {
            boolean a = (bits & 1) != 0, b = (bits & 2) != 0, c = (bits & 4) != 0, d = (bits & 8) != 0;
            String[] t = {truth[bits & 1], truth[bits >> 1 & 1], truth[bits >> 2 & 1], truth[bits >> 3 & 1]};
            holds(t[0] + " or " + t[1] + " and " + t[2] + " or " + t[3], a || b && c || d);
            holds(t[0] + " and " + t[1] + " or " + t[2] + " and " + t[3], a && b || c && d);
            holds(t[0] + " or " + t[1] + " or " + t[2] + " and " + t[3], a || b || c && d);
            holds(t[0] + " and " + t[1] + " and " + t[2] + " or " + t[3], a && b && c || d);
            holds(t[0] + " and " + t[1] + " and " + t[2] + " and " + t[3], a && b && c && d);
        }
    }

    private static void comparisons() {
        CHECK.terms("II", "COND: SUM (< or > or =) SUM");
        String[] below = {"1", "0-2", "0", "9998"};
        String[] above = {"2", "0-1", "1", "9999"};
        for (int i = 0; i < below.length; i++) {
            holds(below[i] + "<" + above[i], true);
            holds(above[i] + "<" + below[i], false);
            holds(below[i] + "<" + below[i], false);
            holds(above[i] + ">" + below[i], true);
            holds(below[i] + ">" + above[i], false);
            holds(below[i] + ">" + below[i], false);
            holds(below[i] + "=" + below[i], true);
            holds(below[i] + "=" + above[i], false);
        }
        String[] hold = {"1<2", "2>1", "1=1"};
        String[] fail = {"2<1", "1>2", "1=2"};
        for (int i = 0; i < 3; i++) {
            for (int k = 0; k < 3; k++) {
                holds(hold[i] + " and " + hold[k], true);
                holds(hold[i] + " and " + fail[k], false);
                holds(fail[i] + " or " + hold[k], true);
                holds(fail[i] + " or " + fail[k], false);
            }
        }
    }

    private static void firstThatHolds() {
        CHECK.terms("II", "the SUM of the first one of that kind whose ANY holds (without when: always)");
        String[] texts = {"drop 10;drop 20", "drop 5 when 1=2;drop 10;drop 20", "drop 10 when 1=1;drop 20",
            "send 90;price 3;lost 2;drop 10", "drop 5 when 1=2;drop 6 when 2=3;drop 10 when 3=3;drop 7"};
        for (String text : texts) {
            HeatTown town = Check.nodes(2);
            town.house(1, 50, 0);
            Check.rules(town, text);
            CHECK.due(text, town.gets(0, 0), 100);
        }
        HeatTown last = Check.nodes(2);
        last.house(1, 50, 0);
        CHECK.due("rules", Check.rules(last, "drop 9 when 1=2;".repeat(11) + "drop 10"), 12);
        CHECK.due("the 12th one", last.gets(0, 0), 100);
        CHECK.due("rules", Check.rules(last, "drop 9 when 1=2;".repeat(11) + "drop 10 when 1=2"), 12);
        CHECK.due("none of 12", last.gets(0, 0), 34);
    }

    private static HeatTown afterAnHour(String text) {
        HeatTown town = Check.nodes(2);
        town.pipe(0, 1, 4, 4, 100, false, false);
        town.house(1, 3, 0);
        town.boiler(200000, 0);
        CHECK.due("rules of " + text, Check.rules(town, text) > 0, true);
        town.go(1);
        return town;
    }

    private static void sendSpan() {
        CHECK.terms("II", "cut: send to 40 .. 120 (70 without one)");
        String[] sums = {"39", "40", "41", "119", "120", "121", "0", "9999", "0-9999", "0-1"};
        int[] sent = {40, 40, 41, 119, 120, 120, 40, 120, 40, 40};
        for (int i = 0; i < sums.length; i++) {
            CHECK.due("send " + sums[i], afterAnHour("send " + sums[i]).count(10), 100 * sent[i]);
        }
        CHECK.due("without one", afterAnHour("price 5").count(10), 7000);
        CHECK.due("none holds", afterAnHour("send 50 when 1=2").count(10), 7000);
        CHECK.due("above what an int has", afterAnHour("send 4096*4096*256").count(10), 12000);
        CHECK.due("2 to the 32nd and 50", afterAnHour("send 4096*4096*256+50").count(10), 12000);
        CHECK.due("below what an int has", afterAnHour("send 50-4096*4096*256").count(10), 4000);
    }

    private static void dropSpan() {
        CHECK.terms("II", "cut: drop to 5 .. 60 (30)");
        String[] sums = {"4", "5", "6", "59", "60", "61", "0", "9999", "0-1", "4096*4096*256+7", "7-4096*4096*256"};
        int[] drops = {5, 5, 6, 59, 60, 60, 5, 60, 5, 60, 5};
        for (int i = 0; i < sums.length; i++) {
            HeatTown town = Check.nodes(2);
            town.house(1, 50, 0);
            Check.air(town, -39);
            Check.rules(town, "drop " + sums[i]);
            // 50 * 59 = 2950 are needed.
            CHECK.due("drop " + sums[i], town.gets(0, 0), (2950 + drops[i] - 1) / drops[i]);
        }
        HeatTown without = Check.nodes(2);
        without.house(1, 50, 0);
        Check.rules(without, "send 50;drop 10 when 1=2");
        CHECK.due("without one that holds", without.gets(0, 0), 34);
    }

    private static void priceSpan() {
        CHECK.terms("II", "cut: price to 0 .. 1000 (10)");
        String[] sums = {"0-1", "0", "1", "999", "1000", "1001", "9999", "0-9999", "4096*4096*256+7"};
        int[] billed = {0, 0, 6, 5994, 6000, 6000, 6000, 0, 6000};
        for (int i = 0; i < sums.length; i++) {
            CHECK.due("price " + sums[i], afterAnHour("price " + sums[i]).sums(0, 2), billed[i]);
        }
        CHECK.due("without one", afterAnHour("send 70").sums(0, 2), 60);
        CHECK.due("none holds", afterAnHour("price 5 when 1=2").sums(0, 2), 60);
    }

    private static void lostSpan() {
        CHECK.terms("II", "cut: lost to 0 .. 1000 (0)");
        // 2 units of 7000 and 2 of 6000 lose 620 and 520 each, the 4 of 3000 that are back lose 220: 3160.
        String[] sums = {"0-1", "0", "1", "999", "1000", "1001", "9999", "0-9999", "4096*4096*256+7"};
        int[] billed = {0, 0, 3, 3156, 3160, 3160, 3160, 0, 3160};
        for (int i = 0; i < sums.length; i++) {
            CHECK.due("lost " + sums[i], afterAnHour("lost " + sums[i]).sums(0, 3), billed[i]);
        }
        CHECK.due("without one", afterAnHour("send 70").sums(0, 3), 0);
        CHECK.due("none holds", afterAnHour("lost 500 when 1=2").sums(0, 3), 0);
    }

    private static void airName() {
        CHECK.terms("II", "Names: air");
        int[] airs = {-40, -1, 0, 1, 40};
        for (int air : airs) {
            HeatTown town = Check.nodes(2);
            town.pipe(0, 1, 60, 60, 0, false, false);
            town.house(1, 1, 0);
            town.boiler(200000, 0);
            Check.numbers(town, 0, 0, 5, air, 6);
            town.air(0);
            Check.rules(town, "send 80+air;drop 60;price 1000");
            town.go(2);
            CHECK.due("send by air " + air, town.count(10), air == 40 ? -1 : 8000 + 100 * air);
        }
    }

    private static void hourName() {
        CHECK.terms("II", "hour (modulo 24)");
        HeatTown town = Check.nodes(2);
        town.house(1, 50, 0);
        Check.rules(town, "drop 10+hour");
        int[] hours = {0, 1, 22, 23, 24, 25, 47, 48, 49};
        int at = 0;
        for (int hour : hours) {
            if (hour > at) {
                at = town.go(hour - at);
            }
            int drop = 10 + hour % 24;
            CHECK.due("hour " + hour, town.gets(0, 0), (1000 + drop - 1) / drop);
        }
    }

    private static void storeName() {
        CHECK.terms("II", "Names: store");
        HeatTown town = Check.nodes(2);
        town.house(1, 50, 0);
        town.store(1000000, 200000);
        town.boiler(200000, 0);
        Check.rules(town, "drop 10 when store=0;drop 20 when store=100*2000;drop 25");
        CHECK.due("0, though it holds a million", town.gets(0, 0), 100);
        Check.numbers(town, 0, 2, 0, 400000);
        CHECK.due("plan(0)", town.plan(0), 0);
        CHECK.due("the plan alone fills nothing", town.gets(0, 0), 100);
        town.go(1);
        CHECK.due("200000", town.gets(0, 0), 50);
    }

    private static void backName() {
        CHECK.terms("II", "back (.. 30 ahead of any, or if nothing came)");
        HeatTown town = Check.nodes(2);
        town.pipe(0, 1, 4, 4, 0, true, false);
        town.house(1, 3, 0);
        town.terms(8, 15);
        Check.rules(town, "drop 10 when back=30;drop back");
        CHECK.due("ahead of any", town.gets(0, 0), 6);
        town.go(1);
        // 4 units went, each with 3000 back; the house left 24000 - 6000 by 4.
        CHECK.due("3000 came", town.gets(0, 0), 6);
        town.go(1);
        CHECK.due("4500 came, drop 45", town.gets(0, 0), 2);
        town.valve(0, 0, true);
        town.go(1);
        CHECK.due("nothing came", town.gets(0, 0), 6);
        CHECK.terms("II", "back: degrees .., cut");
        HeatTown cut = Check.nodes(2);
        cut.pipe(0, 1, 4, 2, 13, false, false);
        cut.house(1, 3, 0);
        Check.rules(cut, "drop back");
        cut.go(1);
        CHECK.due("30.00", cut.gets(0, 0), 2);
        cut.go(1);
        // (3000 - 800) * 13 / 1000 = 28 were lost: 29.72.
        CHECK.due("29.72 is 29, and 60 by 29 is 3", cut.gets(0, 0), 3);
    }

    private static void houseNames() {
        CHECK.terms("II", "size, rank, cold ..: these three of a HOUSE, in price and lost alone (0 else)");
        String[] names = {"size", "rank", "cold"};
        for (String name : names) {
            HeatTown town = Check.nodes(2);
            town.pipe(0, 1, 4, 1, 0, false, false);
            town.house(1, 50, 99);
            town.boiler(200000, 0);
            Check.rules(town, "send 50+" + name + ";drop 20+" + name + ";price 7");
            town.go(1);
            CHECK.due(name + " in send is 0", town.count(10), 5000);
            CHECK.due(name + " in drop is 0", town.gets(0, 0), 50);
            Check.rules(town, "send 60 when " + name + "=0;send 50;drop 10 when " + name + ">0;price 7");
            town.go(1);
            CHECK.due(name + " in the when of send is 0", town.count(10), 6000);
            CHECK.due(name + " in the when of drop is 0", town.gets(0, 0), 34);
        }
        HeatTown two = Check.nodes(2);
        two.pipe(0, 1, 60, 60, 0, false, false);
        two.house(1, 1, 99);
        two.house(1, 50, 0);
        Check.rules(two, "price size when rank=99;price rank+size*2");
        two.go(1);
        CHECK.due("size 1 times 2000", two.sums(0, 2), 2);
        CHECK.due("size 50, twice, times 100000", two.sums(1, 2), 10000);
        HeatTown lost = Check.nodes(2);
        lost.pipe(0, 1, 60, 60, 200, false, false);
        lost.house(1, 3, 0);
        lost.house(1, 3, 9);
        Check.rules(lost, "lost 1000 when rank>8;lost size-3");
        lost.go(1);
        CHECK.due("size 3 less 3", lost.sums(0, 3), 0);
        CHECK.due("half of what was lost", lost.sums(1, 3), lost.sum(3) / 2);
    }

    private static void asItBegins() {
        CHECK.terms("III", "send, drop, price, lost by what is as it begins");
        HeatTown town = Check.nodes(2);
        town.pipe(0, 1, 4, 2, 0, false, false);
        town.house(1, 3, 0);
        Check.rules(town, "price cold*1000");
        // 6000 for two hours, then 1000 of 6000 in each hour: cold is 0 as hour 2 begins, 1 as hour 3 does.
        town.go(3);
        CHECK.due("cold in its first cold hour", town.sums(0, 2), 0);
        CHECK.due("houseOf(0, 5)", town.houseOf(0, 5), 1);
        town.go(1);
        CHECK.due("cold was 1", town.sums(0, 2), 1000);
        HeatTown hour = Check.nodes(2);
        hour.pipe(0, 1, 60, 60, 0, false, false);
        hour.house(1, 3, 0);
        hour.boiler(200000, 0);
        Check.rules(hour, "send 50+hour");
        hour.go(1);
        CHECK.due("hour 0", hour.count(10), 5000);
        hour.go(1);
        CHECK.due("hour 1", hour.count(10), 5100);
    }
}
