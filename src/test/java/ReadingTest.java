/** Promises 6 to 8: feed(), house(), fault(). */
public final class ReadingTest {
    public static void main(String[] args) {
        feed();
        laws();
        walls();
        people();
        visitors();
        tokens();
        fault();
        faultsChangeNothing();
        houseInPlace();
        Check.end();
    }

    private static void reads(String text, int rooms) {
        Check.due("7: house() of " + text, Check.read(new SeenAgain(), text), rooms);
    }

    private static void faulty(String text, int place, int fault) {
        SeenAgain x = new SeenAgain();
        Check.due("7: house() of " + text, Check.read(x, text), -1000100 - place);
        Check.due("8: fault() of " + text, x.fault(), fault);
        Check.due("7: the tape is empty", x.count(8), 0);
        Check.due("7: no HOUSE", x.count(1), 0);
    }

    private static void feed() {
        SeenAgain x = new SeenAgain();
        Check.due("6: feed(-1)", x.feed(-1), Check.BAD);
        Check.due("6: feed(256)", x.feed(256), Check.BAD);
        Check.due("6: feed(0)", x.feed(0), 1);
        Check.due("6: feed(255)", x.feed(255), 2);
        for (int i = 3; i <= 140; i++) {
            Check.due("6: feed", x.feed(' '), i);
        }
        Check.due("6: 141", x.feed('h'), Check.FULL);
        Check.due("6: BAD ahead of FULL", x.feed(256), Check.BAD);
        Check.due("6: count(8)", x.count(8), 140);
        Check.due("6: read", x.house(), -1000100);
        Check.due("6: anew", x.feed('h'), 1);
    }

    private static void laws() {
        reads("h2,1,0;", 2);
        reads("h6,5,20;", 6);
        reads("h06,05,09;", 6);
        faulty("", 0, 1);
        faulty("h", 1, 1);
        faulty("g", 0, 1);
        faulty("2", 0, 1);
        faulty("h1,1,0;", 1, 2);
        faulty("h7,1,0;", 1, 2);
        faulty("h99", 1, 2);
        faulty("h2,0,0;", 3, 2);
        faulty("h2,6,0;", 3, 2);
        faulty("h2,1,21;", 5, 2);
        faulty("h2,1;", 4, 1);
        faulty("h2;1,0;", 2, 1);
        faulty("h2,1,0", 6, 1);
        faulty("h2,1,0,", 6, 1);
        faulty("hh2,1,0;", 1, 1);
        faulty("h2,1,0;h2,1,0;", 7, 1);
        faulty("h2,1,0;;", 7, 1);
        faulty("h2,1,0;5", 7, 1);
    }

    private static void walls() {
        String law = "h3,1,0;";
        String nine = law + "g0,1;g0,1;g0,1;g0,1;g1,0;g0,1;g0,1;g0,1;g2,1;";
        reads(nine, 3);
        SeenAgain x = Check.houseOf(nine);
        Check.due("7: told twice counts twice", x.count(2), 9);
        Check.due("7: a window each way", x.seat(0, 0, 0), 3);
        Check.due("7: a window each way", x.seat(1, 0, 0), 7);
        Check.due("7: a window each way", x.seat(2, 0, 0), 6);
        faulty(nine + "g0,1;", 52, 3);
        faulty(nine + "g", 52, 3);
        faulty(law + "g0,0;", 10, 2);
        faulty(law + "g3,0;", 8, 2);
        faulty(law + "g0,3;", 10, 2);
        faulty(law + "g0;", 9, 1);
        faulty(law + "g0,1", 11, 1);
        faulty(law + "gg", 8, 1);
        faulty(law + "g0,0", 10, 2);
    }

    private static void people() {
        String law = "h3,1,0;";
        String one = "r0,1,2,0,1,2,0,1;";
        reads(law + one + one + one + one, 3);
        SeenAgain x = Check.houseOf(law + one + "r2,2,2,2,2,2,2,2;");
        Check.due("7: PEOPLE", x.count(3), 2);
        for (int minute = 0; minute < 8; minute++) {
            Check.due("7: where PERSON 0 was", x.seat(minute % 3, minute, 2) & 1, 1);
            Check.due("7: where PERSON 1 was", x.seat(2, minute, 2) & 2, 2);
        }
        faulty(law + one + one + one + one + one, 7 + 4 * 17, 3);
        faulty(law + "r0,1,2,0,1,2,0;", 21, 1);
        faulty(law + "r0,1,2,0,1,2,0,1,", 23, 1);
        faulty(law + "r0,1,2,0,1,2,0,3;", 22, 2);
        faulty(law + "r3,", 8, 2);
        faulty(law + "r0,1,2,0,1,2,0,1t5;", 23, 1);
        faulty(law + "r,", 8, 1);
        faulty(law + one + "g0,1;", 24, 1);
    }

    private static void visitors() {
        String law = "h2,1,0;";
        String person = "r0,0,0,0,0,0,0,0;";
        reads(law + "a0;d99;l07;t1;", 2);
        SeenAgain x = Check.houseOf(law + "w1;a22;d03;l99;");
        Check.due("7: VISITORS", x.count(4), 4);
        Check.due("7: PURSE", x.visitor(0, 0), 1);
        Check.due("7: PURSE", x.visitor(1, 0), 22);
        Check.due("7: PURSE", x.visitor(2, 0), 3);
        Check.due("7: PURSE", x.visitor(3, 0), 99);
        faulty(law + "a0;d99;l07;t1;w2;", 21, 3);
        faulty(law + "a0;d99;l07;t1;x", 21, 1);
        faulty(law + "t100;", 8, 1);
        faulty(law + "t;", 8, 1);
        faulty(law + "t", 8, 1);
        faulty(law + "t5", 9, 1);
        faulty(law + "t5,", 9, 1);
        faulty(law + "t5;" + person, 10, 1);
        faulty(law + "t5;g0,1;", 10, 1);
        faulty(law + "b5;", 7, 1);
        faulty(law + "t1;t1;t1;t1;r", 19, 1);
    }

    private static void tokens() {
        faulty("h 2,1,0;", 1, 1);
        faulty(" h2,1,0;", 0, 1);
        faulty("H2,1,0;", 0, 1);
        faulty("h2.1,0;", 2, 1);
        faulty("h002,1,0;", 1, 1);
        faulty("h2,1,000;", 5, 1);
        faulty("h2,1,0;\n", 7, 1);
        faulty("h2,1,0;" + (char) 255, 7, 1);
        faulty("h2,1,0;" + (char) 0, 7, 1);
        faulty("h2,1,0;123", 7, 1);
        faulty("h-2,1,0;", 1, 1);
        faulty("h2,1,0;g0,12345678901234567890;", 10, 1);
    }

    private static void fault() {
        SeenAgain x = new SeenAgain();
        Check.due("8: before one", x.fault(), 0);
        Check.read(x, "h7");
        Check.due("8: a NUMBER", x.fault(), 2);
        Check.read(x, "h2,1,0;");
        Check.due("8: a HOUSE leaves it", x.fault(), 2);
        Check.read(x, "h2,1,0;t1;t1;t1;t1;t1;");
        Check.due("8: one more", x.fault(), 3);
        Check.read(x, "?");
        Check.due("8: the latest", x.fault(), 1);
    }

    private static void faultsChangeNothing() {
        Run ahead = new Run(x -> x.row(0, 0, 3)).told(Check.MANOR)
            .then(x -> x.buy(0, 0, 0), x -> x.curtain(0, 1, 0), x -> x.write(2), x -> x.ask(2, 0), x -> x.image(1))
            .then(SeenAgain::house);
        Run behind = ahead.told("h2,3,4;g0,1;r1,1,1,1,1,1,1,1;l5;1");
        Check.due("7: a FAULT", behind.last(), -1000132);
        Check.due("7: all but the tape stays", behind.portrait(), ahead.portrait());
        Check.due("7: ACTS stay", behind.then(SeenAgain::undo).last(), 2);
    }

    private static void houseInPlace() {
        SeenAgain x = Check.houseOf(Check.MANOR);
        x.row(0, 0, 3);
        x.buy(0, 0, 0);
        x.curtain(0, 1, 0);
        x.write(2);
        x.ask(2, 0);
        x.drop(7);
        x.image(1);
        Check.read(x, "h4,1,5;g0,1;t7;");
        int[] due = {1, 4, 1, 0, 1, 0, 0, 0, 0};
        for (int what = 0; what < 9; what++) {
            Check.due("7: anew, count(" + what + ")", x.count(what), due[what]);
        }
        Check.due("7: no SEAT is sold", x.seat(0, 0, 1), 0);
        Check.due("7: no curtain", x.seat(0, 0, 0), 3);
        Check.due("7: windows are told anew", x.seat(2, 0, 0), 4);
        Check.due("7: nothing written", x.price(0, 0, 2), 5);
        Check.due("7: no ACT", x.undo(), Check.STATE);
        Check.due("7: VISITORS are told anew", x.kind(1), Check.BAD);
        Check.due("7: THE TRACE stays", x.trace(0), 12);
        Check.due("7: status stays", x.status(), 1);
        Check.due("7: IMAGES stay", x.restore(1), 1);
        Check.due("7: as kept", x.count(5), 1);
    }
}
