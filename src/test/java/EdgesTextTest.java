/** The edges of promises 12 to 15 and of Terms II: the tape, tokens, the grammar and its faults, what rules tell. */
public final class EdgesTextTest {
    private static final Check CHECK = new Check();
    private static final Twin LIVELY = new Twin(CHECK, Twin::lively);
    private static final int BLANKS = 0x20202020;

    public static void main(String[] args) {
        feeds();
        feedsFull();
        ends();
        rulesTakeTheTape();
        aFaultChangesTheTapeAlone();
        faultOfTheLatest();
        blanks();
        tokens();
        texts();
        ruleFaults();
        sumFaults();
        conditionFaults();
        numbers();
        thirteenRules();
        nineParentheses();
        theFirstFault();
        CHECK.finish();
    }

    private static void feeds() {
        CHECK.promise(12, "Twenty bytes come behind the TAPE, of each number the highest first: how many it has");
        HeatTown town = new HeatTown();
        // 'drop 20;send 1;lost ' and '4;price 2;drop 15;  '.
        CHECK.due("feed", town.feed(0x64726F70, 0x2032303B, 0x73656E64, 0x20313B6C, 0x6F737420), 20);
        CHECK.due("count(6)", town.count(6), 20);
        CHECK.due("feed", town.feed(0x343B7072, 0x69636520, 0x323B6472, 0x6F702031, 0x35202020), 40);
        CHECK.due("count(6)", town.count(6), 40);
        CHECK.due("rules()", town.rules(), 5);
        int[] bad = {0xFF000000, 0x80000000, 0x00800000, 0x00008000, 0x00000080, 0xFFFFFFFF, 0x7F000000};
        for (int b : bad) {
            CHECK.due("feed", town.feed(b, 0, 0, 0, 0), 20);
            CHECK.due("rules()", town.rules(), -4);
            CHECK.due("fault()", town.fault(), 0);
        }
        for (int byteAt = 0; byteAt < 20; byteAt++) {
            int[] five = {BLANKS, BLANKS, BLANKS, BLANKS, BLANKS};
            int shift = 24 - byteAt % 4 * 8;
            five[byteAt / 4] = BLANKS & ~(255 << shift) | 200 << shift;
            town.feed(five[0], five[1], five[2], five[3], five[4]);
            CHECK.due("a byte 200 at " + byteAt, town.rules(), -4);
            CHECK.due("fault()", town.fault(), byteAt);
        }
    }

    private static HeatTown fed(int bytes) {
        HeatTown town = new HeatTown();
        for (int i = 0; i < bytes; i += 20) {
            town.feed(BLANKS, BLANKS, BLANKS, BLANKS, BLANKS);
        }
        town.end(bytes);
        return town;
    }

    private static void feedsFull() {
        CHECK.promise(12, "NONE, and none come, if it would have more than 300");
        CHECK.due("from 280 to 300", fed(280).feed(0, 0, 0, 0, 0), 300);
        CHECK.due("from 279 to 299", fed(279).feed(0, 0, 0, 0, 0), 299);
        int[] full = {281, 282, 299, 300};
        for (int bytes : full) {
            HeatTown town = fed(bytes);
            CHECK.due("count(6)", town.count(6), bytes);
            CHECK.due("feed at " + bytes, town.feed(0, 0, 0, 0, 0), -1);
            CHECK.due("count(6)", town.count(6), bytes);
            CHECK.due("none came: blanks alone", town.rules(), 0);
            CHECK.due("feed then", town.feed(0, 0, 0, 0, 0), 20);
        }
        CHECK.due("a fault in the last of 300", fault(fed(280), 0x20202001), 299);
        CHECK.due("a fault at the end of 300", fault(fed(280), 0x20202B2B), 298);
    }

    /** The place of the fault if 16 blanks and these four bytes come behind the tape. */
    private static int fault(HeatTown town, int four) {
        town.feed(BLANKS, BLANKS, BLANKS, BLANKS, four);
        town.rules();
        return town.fault();
    }

    private static void ends() {
        CHECK.promise(13, "The TAPE has its first n bytes alone: n");
        HeatTown town = new HeatTown();
        Check.tape(town, "drop 20;drop 31;dro");
        CHECK.due("all of it", town.end(19), 19);
        CHECK.due("one less", town.end(18), 18);
        CHECK.due("end(15)", town.end(15), 15);
        CHECK.due("count(6)", town.count(6), 15);
        CHECK.due("rules()", town.rules(), 2);
        Check.tape(town, "x");
        CHECK.due("end(0)", town.end(0), 0);
        CHECK.due("nothing", town.rules(), 0);
        CHECK.promise(13, "NONE, and nothing happens, if it has not so many, or n is below 0");
        int[] refused = {8, 9, 300, 301, -1, Integer.MIN_VALUE, Integer.MAX_VALUE};
        for (int n : refused) {
            LIVELY.refused("end(" + n + ") of 7", t -> t.end(n), -1);
        }
        CHECK.due("end(1) of none", new HeatTown().end(1), -1);
        CHECK.due("end(-1) of none", new HeatTown().end(-1), -1);
        CHECK.due("end(0) of none", new HeatTown().end(0), 0);
        CHECK.due("end(300) of 300", fed(300).end(300), 300);
        CHECK.due("end(301) of 300", fed(300).end(301), -1);
        HeatTown back = new HeatTown();
        Check.tape(back, "send 1;send 2");
        back.end(6);
        CHECK.due("what was cut off does not come again", back.end(13), -1);
        Check.tape(back, "0");
        CHECK.due("the tape goes on behind its end", back.count(6), 7);
        CHECK.due("send 10", back.rules(), 1);
    }

    private static void rulesTakeTheTape() {
        CHECK.promise(14, "The TAPE (empty then) is the RULES, in place of what was: how many");
        HeatTown town = Check.nodes(2);
        town.house(1, 50, 0);
        CHECK.due("no text: no rules", town.rules(), 0);
        CHECK.due("two", Check.rules(town, "drop 20;drop 10"), 2);
        CHECK.due("count(6)", town.count(6), 0);
        CHECK.due("count(5)", town.count(5), 2);
        CHECK.due("gets(0, 0)", town.gets(0, 0), 50);
        CHECK.due("one in their place", Check.rules(town, "send 50"), 1);
        CHECK.due("count(5)", town.count(5), 1);
        CHECK.due("the old drop is gone", town.gets(0, 0), 34);
        CHECK.due("drop", Check.rules(town, "drop 10"), 1);
        CHECK.due("gets(0, 0)", town.gets(0, 0), 100);
        CHECK.due("the empty tape: none", town.rules(), 0);
        CHECK.due("count(5)", town.count(5), 0);
        CHECK.due("gets(0, 0)", town.gets(0, 0), 34);
        CHECK.due("twelve", Check.rules(town, "drop 20" + ";drop 9".repeat(11)), 12);
        CHECK.due("count(5)", town.count(5), 12);
        CHECK.due("gets(0, 0)", town.gets(0, 0), 50);
        CHECK.due("a text of 300", Check.rules(town, "drop 20" + " ".repeat(286) + ";drop 5"), 2);
        CHECK.due("a text of 300 blanks", Check.rules(town, " ".repeat(300)), 0);
    }

    private static void aFaultChangesTheTapeAlone() {
        CHECK.promise(14, "-4: it has a FAULT (nothing but the TAPE changes)");
        String[] texts = {"x", "drop 10;drop", "send 99;price 1;lost 1;drop 60 when 1=1 or", "drop 10;send 10000"};
        for (String text : texts) {
            Twin emptied = new Twin(CHECK, () -> {
                HeatTown town = Twin.lively();
                town.end(0);
                Check.rules(town, ";");
                return town;
            });
            int fault = text.equals("x") ? 0 : text.endsWith("10000") ? 13 : text.length();
            emptied.refused("rules() of '" + text + "'", t -> {
                int answer = Check.rules(t, text);
                CHECK.due("fault()", t.fault(), fault);
                // So that fault() is alike in both, a fault at 0 comes last.
                Check.rules(t, ";");
                return answer;
            }, -4);
        }
    }

    private static void faultOfTheLatest() {
        CHECK.promise(15, "NONE without one, and ahead of any");
        HeatTown town = new HeatTown();
        CHECK.due("ahead of any", town.fault(), -1);
        Check.tape(town, "x");
        CHECK.due("the tape alone is no rules()", town.fault(), -1);
        CHECK.due("rules()", town.rules(), -4);
        CHECK.promise(15, "Of the latest rules() the place of its FAULT");
        CHECK.due("fault()", town.fault(), 0);
        CHECK.due("fault() once more", town.fault(), 0);
        Check.tape(town, "send 1 x");
        CHECK.due("until the next rules()", town.fault(), 0);
        CHECK.due("rules()", town.rules(), -4);
        CHECK.due("fault()", town.fault(), 7);
        CHECK.due("rules()", Check.rules(town, "send 1"), 1);
        CHECK.due("without one", town.fault(), -1);
        CHECK.due("rules()", Check.rules(town, "send 1;"), -4);
        CHECK.due("fault()", town.fault(), 7);
        CHECK.due("rules() of nothing", town.rules(), 0);
        CHECK.due("without one", town.fault(), -1);
    }

    private static void right(String text, int rules) {
        HeatTown town = new HeatTown();
        CHECK.due("rules of '" + text + "'", Check.rules(town, text), rules);
        CHECK.due("fault of '" + text + "'", town.fault(), -1);
    }

    private static void wrong(String text, int place) {
        HeatTown town = new HeatTown();
        CHECK.due("rules of '" + text + "'", Check.rules(town, text), -4);
        CHECK.due("fault of '" + text + "'", town.fault(), place);
        CHECK.due("tape of '" + text + "'", town.count(6), 0);
    }

    private static void blanks() {
        CHECK.terms("II", "blanks (32, 10) aside");
        right(" \n \n", 0);
        right("\nsend\n1\n;\nsend 2 ", 2);
        for (int b = 0; b < 256; b++) {
            boolean part = b == 32 || b == 10 || b >= '0' && b <= '9' || "+-*/;<>=()".indexOf(b) >= 0;
            if (!part) {
                wrong("send 1" + (char) b, 6);
            }
        }
        CHECK.terms("II", "a TOKEN that is none");
        for (int b = 0; b < 256; b++) {
            if (b != 32 && b != 10) {
                wrong("" + (char) b, 0);
            }
        }
    }

    private static void tokens() {
        CHECK.terms("II", "the longest that begin there: words (a .. z), numbers (digits)");
        wrong("sendair", 0);
        wrong("send airair", 5);
        wrong("send ai", 5);
        wrong("send airs", 5);
        wrong("sen", 0);
        wrong("sends 1", 0);
        wrong("se nd 1", 0);
        wrong("send a ir", 5);
        wrong("send 1 whe 1=1", 7);
        wrong("send 1 whenn 1=1", 7);
        wrong("send 1 when 1=1 an 1=1", 16);
        wrong("send 1 when 1=1 orr 1=1", 16);
        wrong("send 1 2", 7);
        right("send 12", 1);
        right("send1", 1);
        right("send air*2when 1=1or 2=2and 3=3;drop 5", 2);
        right("send 1when 1=1", 1);
        right("send(air)", 1);
        wrong("send A", 5);
        wrong("send z", 5);
        wrong("send a", 5);
        wrong("send `air", 5);
        wrong("send {", 5);
        wrong("send :", 5);
        String[] names = {"air", "hour", "store", "back", "size", "rank", "cold"};
        String[] kinds = {"send", "drop", "price", "lost"};
        for (String name : names) {
            for (String kind : kinds) {
                right(kind + " " + name + " when " + name + "=1", 1);
            }
            wrong(name, 0);
        }
        for (String kind : kinds) {
            wrong(kind, kind.length());
            wrong(kind + " " + kind, kind.length() + 1);
        }
    }

    private static void texts() {
        CHECK.terms("II", "TEXT: nothing, or RULE { ; RULE }");
        right("", 0);
        right("send 1", 1);
        right("send 1;drop 2", 2);
        wrong(";", 0);
        wrong(" ;send 1", 1);
        wrong("send 1;", 7);
        wrong("send 1; ", 8);
        wrong("send 1;;", 7);
        wrong("send 1;;drop 2", 7);
        wrong("send 1 drop 2", 7);
        wrong("send 1,drop 2", 6);
        CHECK.terms("II", "the end: the length");
        wrong("send", 4);
        wrong("send ", 5);
        wrong("send \n\n", 7);
        wrong(" ".repeat(295) + "send ", 300);
        wrong(" ".repeat(296) + "send", 300);
        wrong(" ".repeat(297) + "sen", 297);
        wrong("send 1" + " ".repeat(292) + "ai", 298);
        right("send 1" + " ".repeat(293) + "\n", 1);
        right("send" + " ".repeat(295) + "7", 1);
        wrong("send" + " ".repeat(291) + "10000", 295);
        CHECK.terms("II", "300 TOKENS");
        wrong(";".repeat(300), 0);
        wrong("(".repeat(300), 0);
        wrong("send1" + "+1".repeat(147) + ";", 300);
    }

    private static void ruleFaults() {
        CHECK.terms("II", "RULE: send SUM | drop SUM | price SUM | lost SUM, each with [when ANY] behind");
        String[] kinds = {"send", "drop", "price", "lost"};
        for (String kind : kinds) {
            int n = kind.length();
            right(kind + " 1", 1);
            right(kind + " 1 when 1=1", 1);
            wrong(kind + " when 1=1", n + 1);
            wrong(kind + " 1 when", n + 7);
            wrong(kind + " 1 when 1=1 when 1=1", n + 12);
            wrong(kind + ";", n);
            wrong(kind + " 1 = 1", n + 3);
            wrong(kind + " 1 and 1=1", n + 3);
            wrong(kind + " 1 or 1=1", n + 3);
            wrong(kind + " 1)", n + 2);
        }
        String[] others = {"when", "or", "and", "1", "(", ")", "+", "-", "*", "/", "<", ">", "="};
        for (String other : others) {
            wrong(other + " send 1", 0);
            wrong("send 1;" + other, 7);
        }
    }

    private static void sumFaults() {
        CHECK.terms("II", "SUM: TERM { (+ or -) TERM }. TERM: FACTOR { (* or /) FACTOR }. FACTOR: N, a name, ( SUM )");
        String[] signs = {"+", "-", "*", "/"};
        for (String sign : signs) {
            right("send 1" + sign + "2", 1);
            wrong("send 1" + sign, 7);
            wrong("send " + sign + "1", 5);
            wrong("send 1" + sign + ")", 7);
            wrong("send 1" + sign + ";", 7);
            wrong("send 1" + sign + "when 1=1", 7);
            for (String next : signs) {
                right("send 1" + sign + "2" + next + "3", 1);
                wrong("send 1" + sign + next + "3", 7);
            }
        }
        right("send (1)", 1);
        right("send ((1))*(2-(3))", 1);
        wrong("send (", 6);
        wrong("send ()", 6);
        wrong("send (1", 7);
        wrong("send (1;send 2", 7);
        wrong("send (1 2)", 8);
        wrong("send (1))", 8);
        wrong("send )", 5);
        wrong("send (1)(2)", 8);
        wrong("send 1(2)", 6);
        wrong("send (1)2", 8);
        wrong("send (1=1)", 7);
        wrong("send (1 when 1=1)", 8);
        wrong("send (send 1)", 6);
    }

    private static void conditionFaults() {
        CHECK.terms("II", "ANY: ALL { or ALL }. ALL: COND { and COND }. COND: SUM (< or > or =) SUM");
        String[] signs = {"<", ">", "="};
        for (String sign : signs) {
            right("send 1 when 1" + sign + "2", 1);
            wrong("send 1 when 1" + sign, 14);
            wrong("send 1 when " + sign + "1", 12);
            wrong("send 1 when 1" + sign + "2" + sign + "3", 15);
            wrong("send 1 when 1" + sign + sign + "3", 14);
        }
        String[] joins = {"and", "or"};
        for (String join : joins) {
            int behind = 16 + join.length();
            right("send 1 when 1=1 " + join + " 2=2", 1);
            right("send 1 when 1=1 " + join + " 2=2 or 3=3 and 4=4;drop 1", 2);
            wrong("send 1 when 1=1 " + join, behind);
            wrong("send 1 when " + join + " 1=1", 12);
            wrong("send 1 when 1 " + join + " 1=1", 14);
            wrong("send 1 when 1=1 " + join + " " + join + " 1=1", behind + 1);
            wrong("send 1 when 1=1 " + join + " 2", behind + 2);
            wrong("send 1 when 1=1 " + join + " 2;", behind + 2);
            wrong("send 1 when 1=1 " + join + ";", behind);
        }
        wrong("send 1 when (1=1)", 14);
        wrong("send 1 when ((1)=1)", 16);
        right("send 1 when (1)=(1)", 1);
        wrong("send 1 when 1=1)", 15);
        wrong("send 1 when 1=(1", 16);
        wrong("send 1 when 1=1 2", 16);
        wrong("send 1 when 1", 13);
        wrong("send 1 when 1;", 13);
    }

    private static void numbers() {
        CHECK.terms("II", "N: 0 .. 9999 (of any digits); a number above 9999");
        right("send 0", 1);
        right("send 9999", 1);
        wrong("send 10000", 5);
        wrong("send 10001", 5);
        wrong("send 99999", 5);
        right("send 00000", 1);
        right("send 09999", 1);
        wrong("send 010000", 5);
        right("send " + "0".repeat(291) + "9999", 1);
        right("send " + "0".repeat(295), 1);
        wrong("send " + "9".repeat(295), 5);
        wrong("send 2147483648", 5);
        wrong("send 4294967297", 5);
        wrong("send 18446744073709551617", 5);
        wrong("send 1+10000", 7);
        wrong("send (10000", 6);
        wrong("send 1 when 10000=1", 12);
        wrong("send 1 when 1=10000", 14);
        wrong("send 1 10000", 7);
        wrong("10000", 0);
    }

    private static void thirteenRules() {
        CHECK.terms("II", "begins a 13th RULE");
        String eleven = "drop 1;".repeat(11);
        right(eleven + "drop 1", 12);
        right(eleven + "drop 1 when 1=1", 12);
        wrong(eleven + "drop 1;drop 1", 84);
        wrong(eleven + "drop 1;send 1", 84);
        wrong(eleven + "drop 1; \n lost 1", 87);
        wrong(eleven + "drop 1;price 1 1 1", 84);
        wrong(eleven + "drop 1;", 84);
        wrong(eleven + "drop 1;;", 84);
        wrong(eleven + "drop 1;drop 10000;drop 1", 84);
        CHECK.terms("II", "a fault in the 12th RULE, and ahead of the 13th");
        wrong(eleven + "drop;drop 1", 81);
        wrong(eleven + "drop 1 drop 1", 84);
        wrong("dorp 1;" + eleven + "drop 1;drop 1", 0);
    }

    private static void nineParentheses() {
        CHECK.terms("II", "a ( within 8 others");
        String eight = "(".repeat(8);
        String close = ")".repeat(8);
        right("send " + eight + "1" + close, 1);
        right("send " + eight + "1" + close + "+" + eight + "1" + close, 1);
        right("send (1+(2))*" + eight + "1" + close, 1);
        right("send " + eight + "1*2" + close, 1);
        right("send 1 when " + eight + "1" + close + "=" + eight + "1" + close + " and " + eight + "1" + close + "=1", 1);
        wrong("send (" + eight + "1)" + close, 13);
        wrong("send (", 6);
        wrong("send " + eight + "1+(2)" + close, 15);
        wrong("send " + eight + "1)+((2))" + close, 17);
        right("send " + eight + "1)+(2)" + close.substring(1), 1);
        wrong("send 1 when (" + eight + "1)" + close + "=1", 20);
        wrong("send 1 when 1=(" + eight + "1)" + close, 22);
        wrong("send 1 when 1=1 and (" + eight, 28);
        wrong("send " + "(".repeat(295), 13);
        wrong("send " + eight, 13);
        wrong("send " + eight + ")", 13);
    }

    private static void theFirstFault() {
        CHECK.terms("II", "the first TOKEN");
        wrong("send 1 2 $", 7);
        wrong("send $ 10000", 5);
        wrong("send 10000 $", 5);
        wrong("send 1+;$", 7);
        wrong("$ send (((((((((1", 0);
        wrong("send (((((((((10000", 13);
        wrong("send 1 when 1 2=3;x", 14);
        wrong("send 1;send 1 1;send 10000", 14);
    }
}
