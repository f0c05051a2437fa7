/** Promise 1: a new object. */
public final class StartTest {
    public static void main(String[] args) {
        Check check = new Check();
        HeatTown town = new HeatTown();
        int[] counts = {0, 1, 0, 0, 0, 0, 0, 0, 0, 0, -1, -1};
        for (int what = 0; what < counts.length; what++) {
            check.due("count(" + what + ")", town.count(what), counts[what]);
        }
        check.due("count(-1)", town.count(-1), -1);
        for (int what = -1; what <= 8; what++) {
            check.due("sum(" + what + ")", town.sum(what), 0);
        }
        for (int place = 0; place < 4; place++) {
            check.due("tear(" + place + ")", town.tear(place), false);
        }
        check.due("fault()", town.fault(), -1);
        check.due("planned(0)", town.planned(0), -1);
        check.due("aheadOf(0, 0)", town.aheadOf(0, 0), -2);
        check.due("pipeOf(0, 0)", town.pipeOf(0, 0), -1000);
        check.due("houseOf(0, 0)", town.houseOf(0, 0), -2);
        check.due("NONE", HeatTown.NONE, -1);
        check.finish();
    }
}
