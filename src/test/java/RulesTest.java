/** Promises 12 to 15, and Terms II: the tape, the grammar and its faults, what rules tell. */
public final class RulesTest {
    private static final Check CHECK = new Check();

    public static void main(String[] args) {
        tape();
        rightTexts();
        faults();
        sums();
        conditions();
        names();
        spans();
        aFaultChangesNothing();
        CHECK.finish();
    }

    private static void tape() {
        HeatTown town = new HeatTown();
        CHECK.due("end(0)", town.end(0), 0);
        CHECK.due("end(1)", town.end(1), -1);
        CHECK.due("end(-1)", town.end(-1), -1);
        for (int i = 1; i <= 15; i++) {
            CHECK.due("feed", town.feed(0x20202020, 0x20202020, 0x20202020, 0x20202020, 0x20202020), 20 * i);
        }
        CHECK.due("feed above 300", town.feed(0, 0, 0, 0, 0), -1);
        CHECK.due("count(6)", town.count(6), 300);
        CHECK.due("end(301)", town.end(301), -1);
        CHECK.due("end(281)", town.end(281), 281);
        CHECK.due("feed to 301", town.feed(0, 0, 0, 0, 0), -1);
        CHECK.due("end(280)", town.end(280), 280);
        // The highest byte comes first: 'send 70', and 253 blanks and more ahead of it.
        CHECK.due("end(260)", town.end(260), 260);
        CHECK.due("feed", town.feed(0x73656E64, 0x20373020, 0x20202020, 0x20202020, 0x2020200A), 280);
        CHECK.due("rules()", town.rules(), 1);
        CHECK.due("count(6)", town.count(6), 0);
        CHECK.due("count(5)", town.count(5), 1);
        // A highest byte above 127 is no sign.
        town.feed(0x20202020, 0xFF202020, 0, 0, 0);
        CHECK.due("rules()", town.rules(), -4);
        CHECK.due("fault()", town.fault(), 4);
        CHECK.due("count(6)", town.count(6), 0);
        CHECK.due("count(5)", town.count(5), 1);
        CHECK.due("no text", town.rules(), 0);
        CHECK.due("fault()", town.fault(), -1);
    }

    private static void rightTexts() {
        text("", 0);
        text(" \n ", 0);
        text("send 1", 1);
        text("send\n1", 1);
        text("send1when2<3", 1);
        text("send 1;drop 2;price 3;lost 4;send 5", 5);
        text("send air+hour-store*back/size+rank-cold", 1);
        text("lost 1 when 1<2 and 3>4 or 5=6 and air<hour", 1);
        text("send 0000000000009999", 1);
        text("send ((((((((1))))))))+((((((((2))))))))", 1);
        text("send (1)+(2)*(3+(4))", 1);
        text("send " + "1+".repeat(147) + "1", 1);
        text("send 1 when ((((((((1))))))))=((((((((1))))))))", 1);
        text("send 1;send 1;send 1;send 1;send 1;send 1;send 1;send 1;send 1;send 1;send 1;send 1", 12);
    }

    private static void text(String text, int rules) {
        HeatTown town = new HeatTown();
        CHECK.due("rules of '" + text + "'", Check.rules(town, text), rules);
        CHECK.due("fault of '" + text + "'", town.fault(), -1);
        CHECK.due("count(5) of '" + text + "'", town.count(5), rules);
    }

    private static void faults() {
        fault("x", 0);
        fault(" ;", 1);
        fault("when", 0);
        fault("air", 0);
        fault("7", 0);
        fault("Send 1", 0);
        fault("sen d 1", 0);
        fault("send", 4);
        fault("send  \n", 7);
        fault("send 1;", 7);
        fault("send 1;;send 2", 7);
        fault("send 1 ; ", 9);
        fault("send 1 2", 7);
        fault("send 1 send 2", 7);
        fault("send 1 air", 7);
        fault("send -1", 5);
        fault("send 1+", 7);
        fault("send 1+*2", 7);
        fault("send 1 2when 1<1", 7);
        fault("send 10000", 5);
        fault("send 99999999999999999999", 5);
        fault("send 1+010000 ", 7);
        fault("send 1.5", 6);
        fault("send 1\t", 6);
        fault("send airs", 5);
        fault("send send", 5);
        fault("send when", 5);
        fault("send (1", 7);
        fault("send 1)", 6);
        fault("send ()", 6);
        fault("send (1;drop 2", 7);
        fault("send (((((((((1)))))))))", 13);
        fault("send 1+((((((((2+(3))))))))))", 17);
        fault("send 1 when (((((((((1)))))))))=1", 20);
        fault("send 1 when 1=(((((((((1)))))))))", 22);
        fault("send 1<2", 6);
        fault("send 1 and 1<2", 7);
        fault("send 1 or", 7);
        fault("send 1 when", 11);
        fault("send 1 when 2", 13);
        fault("send 1 when 2<", 14);
        fault("send 1 when 2<3<4", 15);
        fault("send 1 when 2<=3", 14);
        fault("send 1 when (2<3)", 14);
        fault("send 1 when 2<3 and", 19);
        fault("send 1 when 2<3 or 4", 20);
        fault("send 1 when 2<3 or 4 and 5<6", 21);
        fault("send 1 when 2<3 when 4<5", 16);
        fault("send 1 when;send 2", 11);
        fault("send 1 when 2;send 2", 13);
        String twelve = "lost 1;lost 1;lost 1;lost 1;lost 1;lost 1;lost 1;lost 1;lost 1;lost 1;lost 1;lost 1";
        fault(twelve + " ;  lost 1", twelve.length() + 4);
        fault(twelve + ";lost 1;x", twelve.length() + 1);
        fault(twelve + ";", twelve.length() + 1);
        fault(twelve + " x", twelve.length() + 1);
        fault(";".repeat(300), 0);
        fault("send1" + "+1".repeat(147) + "+", 300);
    }

    private static void fault(String text, int place) {
        HeatTown town = new HeatTown();
        CHECK.due("rules of '" + text + "'", Check.rules(town, text), -4);
        CHECK.due("fault of '" + text + "'", town.fault(), place);
        CHECK.due("count(6) of '" + text + "'", town.count(6), 0);
    }

    /** What a sum tells is seen by what a house of size 50 (need 1000) wants: as drop, cut to 5 .. 60. */
    private static void drop(String sum, int drop) {
        HeatTown town = new HeatTown();
        town.node();
        town.house(1, 50, 9);
        Check.numbers(town, 0, 0, -4);
        town.air(0);
        CHECK.due("rules", Check.rules(town, "drop " + sum), 1);
        CHECK.due("wants by drop " + sum, town.gets(0, 0), (1200 + drop - 1) / drop);
    }

    private static void sums() {
        drop("20", 20);
        drop("1+2*10", 21);
        drop("2*10+1", 21);
        drop("(1+2)*10", 30);
        drop("50-10-5", 35);
        drop("50-(10-5)", 45);
        drop("60/3/2", 10);
        drop("60/(3/2)", 60);
        drop("7/2*10", 30);
        drop("39/5*5", 35);
        drop("(0-7)/2+20", 17);
        drop("50/0+11", 11);
        drop("0-50", 5);
        drop("9999*9999", 60);
        drop("4", 5);
        drop("5", 5);
        drop("6", 6);
        drop("59", 59);
        drop("60", 60);
        drop("61", 60);
        // 2 to the 63rd goes around to the least number: below 0, and by -1 itself.
        String two62 = "4096*4096*4096*4096*4096*4";
        drop(two62 + "*2", 5);
        drop(two62 + "*2-1", 60);
        drop(two62 + "*2/(0-1)", 5);
        drop(two62 + "*4+33", 33);
        drop("(0-" + two62 + "*2)/(0-1)+40", 5);
        drop("(0-9)/(0-1)+10", 19);
        HeatTown town = new HeatTown();
        town.node();
        town.house(1, 32, 9);
        Check.numbers(town, 0, 0, 1);
        town.air(0);
        Check.rules(town, "drop 61");
        CHECK.due("608 by 60", town.gets(0, 0), 11);
    }

    private static void conditions() {
        drop("11 when 1<2", 11);
        drop("11 when 2<1", 30);
        drop("11 when 2<2", 30);
        drop("11 when 2>1", 11);
        drop("11 when 2>2", 30);
        drop("11 when 2=2", 11);
        drop("11 when 2=3", 30);
        drop("11 when 1=1 or 1=2 and 1=3", 11);
        drop("11 when 1=2 and 1=3 or 1=1", 11);
        drop("11 when 1=1 and 1=2 or 1=3", 30);
        drop("11 when 1=2 or 1=1 and 1=1 or 1=3", 11);
        drop("11 when 1=2 or 1=3 or 1=1", 11);
        drop("11 when 1=1 and 1=1 and 1=2", 30);
        drop("11 when 1+1*3=4 and 8/2-1=3", 11);
        HeatTown town = new HeatTown();
        town.node();
        town.house(1, 50, 9);
        CHECK.due("rules", Check.rules(town, "send 99;drop 10 when air<0;drop 20 when hour=0;drop 25;drop 50"), 5);
        CHECK.due("the first that holds", town.gets(0, 0), 50);
        town.go(1);
        CHECK.due("the next one then", town.gets(0, 0), 40);
        Check.numbers(town, 0, 0, -5);
        town.air(0);
        CHECK.due("the first one then", town.gets(0, 0), 125);
    }

    private static void names() {
        drop("air+20", 16);
        drop("hour+20", 20);
        drop("store+21", 21);
        drop("back", 30);
        drop("size+22", 22);
        drop("rank+23", 23);
        drop("cold+24", 24);
        HeatTown town = new HeatTown();
        town.node();
        town.house(1, 50, 9);
        CHECK.due("rules", Check.rules(town, "drop hour"), 1);
        town.go(23);
        CHECK.due("hour 23", town.gets(0, 0), 44);
        town.go(1);
        CHECK.due("hour 24 is 0, cut to 5", town.gets(0, 0), 200);
        town.go(30);
        CHECK.due("hour 54 is 6", town.gets(0, 0), 167);
        houseNames();
        storeName();
        noHouse();
    }

    /** Names of a house are 0 in send and drop, though an hour asked them of houses. */
    private static void noHouse() {
        HeatTown town = new HeatTown();
        town.node();
        town.pipe(0, 1, 4, 1, 0, false, false);
        town.house(1, 50, 9);
        town.boiler(200000, 0);
        Check.rules(town, "price 1;drop 20+size+rank+cold;send 60+size+rank+cold");
        town.go(2);
        CHECK.due("wants", town.gets(0, 0), 50);
        CHECK.due("sent", town.count(10), 6000);
        CHECK.due("it was cold", town.houseOf(0, 5), 2);
    }

    /** Two houses at one pipe use 6000 and 2000; a third one has no way and is cold. */
    private static void houseNames() {
        HeatTown town = new HeatTown();
        town.node();
        town.node();
        town.pipe(0, 1, 20, 20, 0, false, false);
        town.house(1, 3, 7);
        town.house(1, 1, 90);
        Check.rules(town, "price size*100 when rank<50;price rank+cold");
        town.go(1);
        CHECK.due("300 * 6000 / 1000", town.sums(0, 2), 1800);
        CHECK.due("90 * 2000 / 1000", town.sums(1, 2), 180);
        HeatTown cold = new HeatTown();
        cold.node();
        cold.pipe(0, 1, 4, 2, 0, false, false);
        cold.house(1, 3, 7);
        Check.rules(cold, "price cold*100");
        // It is cold from hour 2 on and uses 1000 in each of hours 2 to 5: cold is 0, 1, 2, 3 as these begin.
        cold.go(2);
        CHECK.due("not cold yet", cold.sums(0, 2), 0);
        cold.go(1);
        CHECK.due("as the hour begins", cold.sums(0, 2), 0);
        cold.go(3);
        CHECK.due("100 + 200 + 300", cold.sums(0, 2), 600);
    }

    private static void storeName() {
        HeatTown town = new HeatTown();
        town.store(40, 20);
        town.boiler(20, 1);
        town.node();
        town.house(1, 50, 9);
        Check.rules(town, "drop store");
        Check.numbers(town, 0, 1, 0, 40);
        CHECK.due("plan(0)", town.plan(0), 0);
        CHECK.due("planned(0)", town.planned(0), 20);
        town.go(1);
        CHECK.due("20 is stored", town.gets(0, 0), 50);
    }

    private static void spans() {
        int[][] sends = {{39, 4000}, {40, 4000}, {41, 4100}, {120, 12000}, {121, 12000}};
        for (int[] s : sends) {
            CHECK.due("send " + s[0], sent("send " + s[0]), s[1]);
        }
        CHECK.due("without a send", sent("drop 30"), 7000);
        CHECK.due("when none holds", sent("send 50 when 1>2"), 7000);
        CHECK.due("by air", sent("send 90-air"), 9000);
        CHECK.due("below 0", sent("send 0-9999"), 4000);
        int[][] prices = {{0, 0}, {1000, 6000}, {1001, 6000}, {3, 18}};
        for (int[] p : prices) {
            CHECK.due("price " + p[0], billed("price " + p[0], 2), p[1]);
        }
        CHECK.due("price below 0", billed("price 0-5", 2), 0);
        CHECK.due("without a price", billed("send 70", 2), 60);
        CHECK.due("without a lost", billed("send 70", 3), 0);
        // 2 units of 7000 and 2 of 6000 lose 620 and 520 each, 2 of 3000 that came and 2 that were there 220.
        CHECK.due("lost 1000", billed("lost 1000", 3), 3160);
        CHECK.due("lost 1001", billed("lost 1001", 3), 3160);
        CHECK.due("lost 1", billed("lost 1", 3), 3);
        CHECK.due("lost below 0", billed("lost 0-1", 3), 0);
    }

    private static HeatTown townBy(String text) {
        HeatTown town = new HeatTown();
        town.node();
        town.pipe(0, 1, 4, 4, 100, false, false);
        town.house(1, 3, 0);
        town.boiler(200000, 0);
        CHECK.due("rules of " + text, Check.rules(town, text), 1);
        town.go(1);
        return town;
    }

    private static int sent(String text) {
        return townBy(text).count(10);
    }

    private static long billed(String text, int what) {
        return townBy(text).sums(0, what);
    }

    private static void aFaultChangesNothing() {
        HeatTown town = new HeatTown();
        town.node();
        town.house(1, 50, 9);
        Check.rules(town, "drop 20;drop 40");
        CHECK.due("rules", Check.rules(town, "drop 10;drop 5;drop"), -4);
        CHECK.due("count(5)", town.count(5), 2);
        CHECK.due("gets", town.gets(0, 0), 50);
        CHECK.due("fault()", town.fault(), 19);
        CHECK.due("fault() again", town.fault(), 19);
        CHECK.due("rules", Check.rules(town, "drop 10"), 1);
        CHECK.due("fault()", town.fault(), -1);
        CHECK.due("gets", town.gets(0, 0), 100);
        CHECK.due("no rules", town.rules(), 0);
        CHECK.due("gets", town.gets(0, 0), 34);
    }
}
