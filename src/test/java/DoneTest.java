/** Promises 9 to 16: undo(), buy(), back(), curtain(), write(), visitor(), seat(), price(). */
public final class DoneTest {
    public static void main(String[] args) {
        undo();
        undoForgets();
        buy();
        buyInAll();
        back();
        curtain();
        write();
        visitor();
        seat();
        price();
        Check.end();
    }

    /** ACTS of each sort, behind them calls that are refused: undone one by one, all is as it was ahead of each. */
    private static void undo() {
        Run run = new Run().told(Check.MANOR).then(x -> x.image(0));
        Check.stays("9: none", run, SeenAgain::undo, Check.STATE);
        Run[] ahead = new Run[6];
        Run.Call[] acts = {x -> x.buy(2, 1, 0), x -> x.write(0), x -> x.buy(1, 1, 0), x -> x.curtain(2, 1, 0),
            x -> x.back(2, 1, 0), x -> x.buy(0, 0, 0)};
        for (int i = 0; i < acts.length; i++) {
            ahead[i] = run;
            run = run.then(acts[i]);
            Check.due("9: an ACT more", run.made().count(7), i + 1);
        }
        run = run.then(x -> x.buy(0, 0, 0), x -> x.write(0), x -> x.curtain(1, 2, 0), x -> x.back(2, 1, 0));
        for (int left = 5; left >= 0; left--) {
            run = run.then(SeenAgain::undo);
            Check.due("9: undo()", run.last(), left);
            Check.due("9: as ahead of ACT " + left, run.portrait(), ahead[left].portrait());
        }
        Check.stays("9: none any more", run, SeenAgain::undo, Check.STATE);
        Check.due("9: no HOUSE", new SeenAgain().undo(), Check.STATE);
    }

    private static void undoForgets() {
        SeenAgain x = Check.houseOf("h6,5,0;g0,1;g0,2;g0,3;g0,4;t9;");
        for (int i = 0; i < 27; i++) {
            Check.due("12: curtain()", x.curtain(0, 1 + i % 4, i / 4), i + 1);
            Check.due("9: 24 at most", x.count(7), Math.min(24, i + 1));
        }
        for (int left = 23; left >= 0; left--) {
            Check.due("9: undo()", x.undo(), left);
        }
        Check.due("9: the oldest are forgotten", x.undo(), Check.STATE);
        Check.due("9: three stay", x.count(6), 3);
        Check.due("9: these", x.seat(0, 0, 0), 1 + 16);
        for (int minute = 1; minute < 8; minute++) {
            Check.due("9: no others", x.seat(0, minute, 0), 31);
        }
        Check.due("9: another ACT", x.write(7), 1);
        Check.due("9: undone", x.undo(), 0);
    }

    private static void buy() {
        SeenAgain x = Check.houseOf(Check.MANOR);
        Check.due("10: a detective", x.buy(1, 0, 0), 3);
        Check.due("10: PURSE", x.visitor(1, 0), 6);
        Check.due("10: again", x.buy(1, 0, 0), Check.STATE);
        Check.due("10: a liar", x.buy(2, 0, 0), 8);
        Check.due("10: PURSE", x.visitor(2, 0), 22);
        Check.due("10: held", x.seat(0, 0, 1), 6);
        Check.due("10: none is left", x.buy(0, 0, 0), Check.FULL);
        Check.due("10: STATE ahead of FULL", x.buy(1, 0, 0), Check.STATE);
        Check.due("10: a writer", x.buy(3, 1, 0), 5);
        x.buy(3, 1, 1);
        Check.due("10: the PURSE is as much", x.buy(3, 1, 2), 5);
        Check.due("10: the PURSE is less", x.buy(3, 1, 3), Check.FULL);
        Check.due("10: no ACT by refusals", x.count(7), 5);
        Check.due("10: held in all", x.count(5), 5);
        Check.due("10: visitor 4", x.buy(4, 0, 0), Check.BAD);
        Check.due("10: visitor -1", x.buy(-1, 0, 0), Check.BAD);
        Check.due("10: room 4", x.buy(0, 4, 0), Check.BAD);
        Check.due("10: room -1", x.buy(0, -1, 0), Check.BAD);
        Check.due("10: minute 8", x.buy(0, 0, 8), Check.BAD);
        Check.due("10: minute -1", x.buy(0, 0, -1), Check.BAD);
        Check.due("10: no HOUSE", new SeenAgain().buy(0, 0, 0), Check.BAD);
    }

    private static void buyInAll() {
        SeenAgain x = Check.houseOf("h6,5,0;t9;t9;");
        for (int i = 0; i < 24; i++) {
            Check.due("10: SEAT " + i, x.buy(0, i % 6, i / 6), 0);
        }
        Check.due("10: none is left in all", x.buy(1, 0, 7), Check.FULL);
        Check.due("10: STATE", x.buy(0, 0, 0), Check.STATE);
        x.back(0, 0, 0);
        Check.due("10: one is", x.buy(1, 0, 7), 0);
        Check.due("10: none again", x.buy(1, 0, 6), Check.FULL);
    }

    private static void back() {
        SeenAgain x = Check.houseOf("h3,3,5;t9;w50;");
        x.buy(0, 1, 2);
        Check.due("11: half of FEE, cut", x.back(0, 1, 2), 6);
        Check.due("11: no SEAT", x.visitor(0, 1), 0);
        Check.due("11: held in all", x.count(5), 0);
        Check.due("11: not held", x.back(0, 1, 2), Check.STATE);
        x.buy(1, 1, 2);
        Check.due("11: another's", x.back(0, 1, 2), Check.STATE);
        x.write(2);
        Check.due("11: by FEE, not PRICE", x.back(1, 1, 2), 48);
        Check.due("11: visitor 2", x.back(2, 0, 0), Check.BAD);
        Check.due("11: visitor -1", x.back(-1, 0, 0), Check.BAD);
        Check.due("11: room 3", x.back(0, 3, 0), Check.BAD);
        Check.due("11: room -1", x.back(0, -1, 0), Check.BAD);
        Check.due("11: minute 8", x.back(0, 0, 8), Check.BAD);
        Check.due("11: minute -1", x.back(0, 0, -1), Check.BAD);
        x = Check.houseOf("h2,1,20;r0,0,0,0,0,0,0,0;a99;");
        x.buy(0, 0, 0);
        Check.due("11: an heir gains", x.back(0, 0, 0), 109);
    }

    private static void curtain() {
        SeenAgain x = Check.houseOf("h3,1,0;g0,1;g1,0;g1,2;t9;");
        Check.due("12: one for all windows", x.curtain(0, 1, 4), 1);
        Check.due("12: VIEW of 0", x.seat(0, 4, 0), 1);
        Check.due("12: VIEW of 1", x.seat(1, 4, 0), 6);
        Check.due("12: another MINUTE", x.seat(0, 5, 0), 3);
        Check.due("12: it was drawn", x.curtain(0, 1, 4), Check.STATE);
        Check.due("12: from the other side", x.curtain(1, 0, 4), Check.STATE);
        Check.due("12: in all MINUTES", x.curtain(2, 1, 7), 2);
        Check.due("12: count(6)", x.count(6), 2);
        Check.due("12: another one then", x.curtain(2, 1, 4), 3);
        Check.due("12: VIEW of 1", x.seat(1, 4, 0), 2);
        x.undo();
        Check.due("12: the one stays drawn", x.seat(1, 4, 0), 6);
        Check.due("12: no window", x.curtain(0, 2, 0), Check.BAD);
        Check.due("12: alike", x.curtain(1, 1, 0), Check.BAD);
        Check.due("12: room 3", x.curtain(1, 3, 0), Check.BAD);
        Check.due("12: room -1", x.curtain(-1, 1, 0), Check.BAD);
        Check.due("12: minute 8", x.curtain(0, 1, 8), Check.BAD);
        Check.due("12: minute -1", x.curtain(0, 1, -1), Check.BAD);
        Check.due("12: refusals change nothing", x.count(7), 2);
    }

    private static void write() {
        SeenAgain x = new SeenAgain();
        Check.due("13: no HOUSE, ahead of BAD", x.write(8), Check.STATE);
        Check.read(x, "h2,1,5;t9;");
        Check.due("13: write(0)", x.write(0), 1);
        Check.due("13: write(7)", x.write(7), 2);
        Check.due("13: it was", x.write(0), Check.STATE);
        Check.due("13: minute 8", x.write(8), Check.BAD);
        Check.due("13: minute -1", x.write(-1), Check.BAD);
        Check.due("13: 2 less", x.price(0, 0, 7), 3);
        Check.due("13: not there", x.price(0, 0, 6), 5);
    }

    private static void visitor() {
        SeenAgain x = Check.houseOf(Check.MANOR);
        Check.due("14: nothing LOOKED into", x.visitor(2, 2), 0);
        x.buy(2, 0, 0);
        x.buy(2, 3, 5);
        Check.due("14: PURSE", x.visitor(2, 0), 16);
        Check.due("14: SEATS", x.visitor(2, 1), 2);
        Check.due("14: LOOKED in any MINUTE", x.visitor(2, 2), 1 + 2 + 8);
        x.curtain(0, 1, 0);
        Check.due("14: a curtain", x.visitor(2, 2), 1 + 8);
        Check.due("14: others", x.visitor(1, 1), 0);
        Check.due("14: others", x.visitor(1, 2), 0);
        Check.due("14: what 3", x.visitor(2, 3), Check.BAD);
        Check.due("14: what -1", x.visitor(2, -1), Check.BAD);
        Check.due("14: visitor 4", x.visitor(4, 0), Check.BAD);
        Check.due("14: visitor -1", x.visitor(-1, 0), Check.BAD);
    }

    private static void seat() {
        SeenAgain x = Check.houseOf(Check.MANOR);
        x.buy(2, 1, 3);
        x.buy(0, 1, 3);
        Check.due("15: VIEW", x.seat(1, 3, 0), 7);
        Check.due("15: VIEW of one apart", x.seat(3, 3, 0), 8);
        Check.due("15: who hold a SEAT", x.seat(1, 3, 1), 5);
        Check.due("15: not there", x.seat(1, 2, 1), 0);
        Check.due("15: who was there", x.seat(3, 0, 2), 2);
        Check.due("15: who was there", x.seat(0, 0, 2), 1);
        Check.due("15: nobody", x.seat(1, 0, 2), 0);
        Check.due("15: what 3", x.seat(0, 0, 3), Check.BAD);
        Check.due("15: what -1", x.seat(0, 0, -1), Check.BAD);
        Check.due("15: room 4", x.seat(4, 0, 0), Check.BAD);
        Check.due("15: room -1", x.seat(-1, 0, 0), Check.BAD);
        Check.due("15: minute 8", x.seat(0, 8, 0), Check.BAD);
        Check.due("15: minute -1", x.seat(0, -1, 0), Check.BAD);
        x = Check.houseOf("h2,1,0;r1,1,1,1,1,1,1,1;r1,0,0,0,0,0,0,0;r1,1,1,1,1,1,1,1;");
        Check.due("15: together", x.seat(1, 0, 2), 7);
        Check.due("15: together", x.seat(1, 1, 2), 5);
    }

    private static void price() {
        SeenAgain x = Check.houseOf(Check.MANOR);
        Check.due("16: an heir, PERSON 0 was there", x.price(0, 0, 0), 0);
        Check.due("16: an heir, PERSON 1 was there", x.price(0, 3, 0), 5);
        Check.due("16: an heir, nobody", x.price(0, 1, 0), 5);
        Check.due("16: a detective", x.price(1, 0, 0), 3);
        Check.due("16: a liar", x.price(2, 0, 0), 7);
        Check.due("16: a writer", x.price(3, 0, 0), 5);
        x.buy(0, 0, 0);
        Check.due("16: one is held; for an heir", x.price(0, 0, 0), 0);
        Check.due("16: one is held; half, cut", x.price(1, 0, 0), 3);
        Check.due("16: one is held", x.price(2, 0, 0), 8);
        Check.due("16: one is held", x.price(3, 0, 0), 6);
        x.buy(1, 0, 0);
        Check.due("16: two are held, none is left", x.price(2, 0, 0), 9);
        Check.due("16: two are held", x.price(1, 0, 0), 4);
        x.write(0);
        Check.due("16: written down", x.price(2, 0, 0), 7);
        Check.due("16: written down", x.price(3, 1, 0), 3);
        Check.due("16: visitor 4", x.price(4, 0, 0), Check.BAD);
        Check.due("16: visitor -1", x.price(-1, 0, 0), Check.BAD);
        Check.due("16: room 4", x.price(0, 4, 0), Check.BAD);
        Check.due("16: room -1", x.price(0, -1, 0), Check.BAD);
        Check.due("16: minute 8", x.price(0, 0, 8), Check.BAD);
        Check.due("16: minute -1", x.price(0, 0, -1), Check.BAD);
        x = Check.houseOf("h2,3,1;a9;t9;l9;w9;");
        x.write(0);
        Check.due("16: 0 at least, an heir without PEOPLE", x.price(0, 0, 0), 0);
        Check.due("16: 0 at least", x.price(1, 0, 0), 0);
        Check.due("16: 0 at least, then 1 more", x.price(2, 0, 0), 1);
        Check.due("16: 0 at least", x.price(3, 0, 0), 0);
        x = Check.houseOf("h2,3,3;a9;t9;");
        Check.due("16: an heir without PEOPLE", x.price(0, 0, 0), 2);
        Check.due("16: a tourist", x.price(1, 0, 0), 3);
    }
}
