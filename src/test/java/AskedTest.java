/** Promises 35 to 39: kind(), as(), ask(), trace(), count(). */
public final class AskedTest {
    public static void main(String[] args) {
        kind();
        as();
        ask();
        askOfTourists();
        trace();
        count();
        Check.end();
    }

    private static final String FOUR = "h2,1,0;t1;l2;d3;w4;";

    private static void kind() {
        SeenAgain x = Check.houseOf(FOUR);
        for (int one = 0; one < 4; one++) {
            Check.due("35: kind(" + one + ")", x.kind(one), one + 1);
        }
        Check.due("35: kind(4)", x.kind(4), Check.BAD);
        Check.due("35: kind(-1)", x.kind(-1), Check.BAD);
        Check.due("35: an heir", Check.houseOf(Check.MANOR).kind(0), 5);
        Check.due("35: no HOUSE", new SeenAgain().kind(0), Check.BAD);
    }

    private static void as() {
        SeenAgain four = Check.houseOf(FOUR);
        SeenAgain manor = Check.houseOf(Check.MANOR);
        // Of each KIND from 1 on, bits of the KINDS that it is.
        int[] is = {0, 0b000011, 0b000111, 0b001011, 0b010001, 0b110001};
        for (int kind = 0; kind < 6; kind++) {
            for (int one = 0; one < 4; one++) {
                boolean fits = (is[one + 1] >> kind & 1) == 1;
                Check.due("36: as(" + one + ", " + kind + ")", four.as(one, kind), fits ? one : Check.KIND);
            }
            boolean fits = (is[5] >> kind & 1) == 1;
            Check.due("36: an heir as " + kind, manor.as(0, kind), fits ? 0 : Check.KIND);
        }
        Check.due("36: kind 6", four.as(0, 6), Check.BAD);
        Check.due("36: kind -1", four.as(0, -1), Check.BAD);
        Check.due("36: visitor 4", four.as(4, 0), Check.BAD);
        Check.due("36: visitor -1", four.as(-1, 0), Check.BAD);
    }

    private static void traced(SeenAgain x, int... bodies) {
        for (int i = 0; i < bodies.length; i++) {
            Check.due("38: trace(" + i + ")", x.trace(i), bodies[i]);
        }
        Check.due("38: no more", x.trace(bodies.length), Check.NONE);
    }

    private static void ask() {
        SeenAgain x = Check.houseOf(Check.MANOR);
        Check.due("37: an heir's SIZE", x.ask(0, 0), -160);
        traced(x, 14, 13, 10);
        Check.due("37: an heir's MARK", x.ask(0, 1), 160);
        traced(x, 23, 20, 14, 13, 10);
        Check.due("37: a detective's SIZE", x.ask(1, 0), -990);
        traced(x, 11, 10, 22, 21, 20);
        Check.due("37: a detective's MARK", x.ask(1, 1), -999);
        traced(x, 22, 21, 20);
        Check.due("37: a liar's SIZE", x.ask(2, 0), -34);
        traced(x, 12, 11, 10, 24, 21, 20);
        Check.due("37: a liar's MARK", x.ask(2, 1), 4);
        traced(x, 24, 21, 20);
        Check.due("37: a writer's SIZE", x.ask(3, 0), -85);
        traced(x, 13, 10);
        Check.due("37: a writer's MARK", x.ask(3, 1), 88);
        traced(x, 23, 20, 13, 10);
        Check.due("37: what 2", x.ask(0, 2), Check.BAD);
        Check.due("37: what -1", x.ask(0, -1), Check.BAD);
        Check.due("37: visitor 4", x.ask(4, 0), Check.BAD);
        Check.due("37: visitor -1", x.ask(-1, 0), Check.BAD);
        traced(x, 23, 20, 13, 10);
        x.buy(2, 3, 0);
        x.buy(2, 3, 1);
        Check.due("37: a liar's SIZE, two SEATS", x.ask(2, 0), -(16 + 2 * (2 + 2)));
        Check.due("37: no HOUSE", new SeenAgain().ask(0, 0), Check.BAD);
    }

    private static void askOfTourists() {
        SeenAgain x = Check.houseOf("h2,1,3;l1;t50;");
        x.buy(1, 0, 0);
        Check.due("37: a tourist's SIZE", x.ask(1, 0), 47 + 1 + 1);
        traced(x, 11, 10, 21, 20);
        Check.due("37: a tourist's MARK", x.ask(1, 1), 2);
        traced(x, 21, 20);
    }

    private static void trace() {
        SeenAgain x = Check.houseOf(FOUR);
        Check.due("38: none yet", x.trace(0), Check.NONE);
        x.ask(3, 0);
        Check.due("38: trace(0)", x.trace(0), 13);
        Check.due("38: trace(-1)", x.trace(-1), Check.NONE);
        Check.due("38: trace(16)", x.trace(16), Check.NONE);
        Check.due("38: far", x.trace(Integer.MIN_VALUE), Check.NONE);
        Check.due("38: far", x.trace(Integer.MAX_VALUE), Check.NONE);
    }

    private static void count() {
        SeenAgain x = Check.houseOf("h3,2,1;g0,1;g1,0;g1,2;r0,0,0,0,0,0,0,0;t9;t9;t9;t9;");
        x.row(3, 0, 1);
        x.buy(0, 0, 0);
        x.buy(1, 0, 0);
        x.buy(1, 0, 1);
        x.back(0, 0, 0);
        x.curtain(1, 0, 3);
        x.write(0);
        Check.feed(x, "h2,1,0");
        int[] due = {1, 3, 3, 1, 4, 2, 1, 6, 6};
        for (int what = 0; what < 9; what++) {
            Check.due("39: count(" + what + ")", x.count(what), due[what]);
        }
        Check.due("39: count(9)", x.count(9), Check.BAD);
        Check.due("39: count(-1)", x.count(-1), Check.BAD);
    }
}
