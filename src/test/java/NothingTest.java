/**
 * Nothing at all: no HOUSE, a HOUSE without windows, PEOPLE, VISITORS, ROWS without ITEMS; and calls by which nothing
 * changes. Told by promises.
 */
public final class NothingTest {
    public static void main(String[] args) {
        newObject();
        noHouse(new Run(x -> x.drop(0)));
        // The same where ROWS stand, bytes are on the tape, and a text had a FAULT.
        noHouse(new Run(x -> x.row(0, 1, 8), x -> x.row(7, 0, 0)).told("h7,1,0;").fed("h2,").then(x -> x.drop(3)));
        nobody();
        noWindows();
        noItems();
        nothingChanges();
        othersStay();
        Check.end();
    }

    private static void newObject() {
        Run none = new Run();
        for (int what = 0; what < 9; what++) {
            int which = what;
            Check.stays("1: new, count(" + what + ")", none, x -> x.count(which), 0);
        }
        for (int row = 0; row < 8; row++) {
            int one = row;
            Check.stays("5: a new ROW is missing, " + row, none, x -> x.drop(one), Check.NULL);
        }
        Check.stays("40: there was no call", none, SeenAgain::status, 0);
        Check.stays("8: before a FAULT", none, SeenAgain::fault, 0);
        Check.stays("38: THE TRACE is empty", none, x -> x.trace(0), Check.NONE);
    }

    private static void noHouse(Run none) {
        Check.stays("9: undo, no HOUSE", none, SeenAgain::undo, Check.STATE);
        Check.stays("10: buy, no HOUSE", none, x -> x.buy(0, 0, 0), Check.BAD);
        Check.stays("11: back, no HOUSE", none, x -> x.back(0, 0, 0), Check.BAD);
        Check.stays("12: curtain, no HOUSE", none, x -> x.curtain(0, 1, 0), Check.BAD);
        Check.stays("13: write, no HOUSE", none, x -> x.write(0), Check.STATE);
        Check.stays("13: write, no HOUSE ahead of BAD", none, x -> x.write(8), Check.STATE);
        Check.stays("13: write, no HOUSE ahead of BAD", none, x -> x.write(-1), Check.STATE);
        Check.stays("14: visitor, no HOUSE", none, x -> x.visitor(0, 0), Check.BAD);
        Check.stays("15: seat, no HOUSE", none, x -> x.seat(0, 0, 0), Check.BAD);
        Check.stays("16: price, no HOUSE", none, x -> x.price(0, 0, 0), Check.BAD);
        Check.stays("17: looked, no HOUSE", none, x -> x.looked(0, 0), Check.STATE);
        Check.stays("17: looked, no HOUSE ahead of BAD", none, x -> x.looked(-1, 0), Check.STATE);
        Check.stays("17: looked, no HOUSE ahead of BAD", none, x -> x.looked(0, 8), Check.STATE);
        Check.stays("18: seen, no HOUSE", none, x -> x.seen(0, 0, 0), Check.BAD);
        Check.stays("19: known, no HOUSE", none, x -> x.known(0, 0), Check.BAD);
        Check.stays("20: canBe, no HOUSE", none, x -> x.canBe(0, 0, 0, 0), Check.BAD);
        Check.stays("21: suspects, no HOUSE", none, x -> x.suspects(0, 0, 0), Check.STATE);
        Check.stays("21: suspects, no HOUSE ahead of BAD", none, x -> x.suspects(1, 0, 0), Check.STATE);
        Check.stays("21: suspects, no HOUSE ahead of BAD", none, x -> x.suspects(0, -1, 0), Check.STATE);
        Check.stays("21: suspects, no HOUSE ahead of BAD", none, x -> x.suspects(0, 0, 256), Check.STATE);
        Check.stays("22: settled, no HOUSE", none, x -> x.settled(0), Check.STATE);
        Check.stays("22: settled, no HOUSE ahead of BAD", none, x -> x.settled(8), Check.STATE);
        Check.stays("23: cheapest, no HOUSE", none, x -> x.cheapest(0, 0, 0), Check.BAD);
        Check.stays("24: nextSeat, no HOUSE", none, x -> x.nextSeat(0, 0, 0), Check.BAD);
        Check.stays("25: followed, no HOUSE", none, x -> x.followed(0, 0, 0), Check.BAD);
        Check.stays("26: crowd, no HOUSE", none, x -> x.crowd(0, 0), Check.BAD);
        Check.stays("27: told, no HOUSE", none, x -> x.told(0, 0, 0), Check.BAD);
        Check.stays("28: believed, no HOUSE", none, x -> x.believed(0, 0), Check.BAD);
        Check.stays("29: account, no HOUSE", none, x -> x.account(0, 0, 0, 0), Check.BAD);
        Check.stays("30: met, no HOUSE", none, x -> x.met(0, 1), Check.BAD);
        Check.stays("31: soldOut, no HOUSE", none, x -> x.soldOut(-1), Check.STATE);
        Check.stays("31: soldOut, no HOUSE ahead of BAD", none, x -> x.soldOut(-2), Check.STATE);
        Check.stays("32: haunted, no HOUSE", none, SeenAgain::haunted, Check.STATE);
        Check.stays("33: image, no HOUSE", none, x -> x.image(0), Check.STATE);
        Check.stays("33: image, no HOUSE", none, x -> x.image(1), Check.STATE);
        Check.stays("33: image, BAD ahead of no HOUSE", none, x -> x.image(2), Check.BAD);
        Check.stays("34: restore, none was kept", none, x -> x.restore(0), Check.STATE);
        Check.stays("34: restore, none was kept", none, x -> x.restore(1), Check.STATE);
        Check.stays("34: restore, BAD ahead of STATE", none, x -> x.restore(2), Check.BAD);
        Check.stays("35: kind, no HOUSE", none, x -> x.kind(0), Check.BAD);
        Check.stays("36: as, no HOUSE", none, x -> x.as(0, 0), Check.BAD);
        Check.stays("37: ask, no HOUSE", none, x -> x.ask(0, 0), Check.BAD);
    }

    /** A law and a wall alone: sets of nobody are none the less sets. */
    private static void nobody() {
        Run law = new Run(x -> x.row(0, 0, 8)).told("h2,1,0;g0,1;").then(x -> x.drop(7));
        Check.due("39: VISITORS", law.made().count(4), 0);
        Check.due("39: PEOPLE", law.made().count(3), 0);
        Check.stays("10: no VISITOR", law, x -> x.buy(0, 0, 0), Check.BAD);
        Check.stays("11: no VISITOR", law, x -> x.back(0, 0, 0), Check.BAD);
        Check.stays("14: no VISITOR", law, x -> x.visitor(0, 0), Check.BAD);
        Check.stays("16: no VISITOR", law, x -> x.price(0, 0, 0), Check.BAD);
        Check.stays("15: who hold a SEAT: nobody", law, x -> x.seat(0, 0, 1), 0);
        Check.stays("15: who was there: nobody", law, x -> x.seat(0, 0, 2), 0);
        Check.stays("17: by nobody", law, x -> x.looked(0, 0), 0);
        Check.stays("17: no VISITOR", law, x -> x.looked(1, 0), Check.BAD);
        Check.stays("18: no PERSON", law, x -> x.seen(0, 0, 0), Check.BAD);
        Check.stays("19: no PERSON", law, x -> x.known(0, 0), Check.BAD);
        Check.stays("20: no PERSON", law, x -> x.canBe(0, 0, 0, 0), Check.BAD);
        Check.stays("21: no SUSPECTS", law, x -> x.suspects(0, 0, 255), 0);
        Check.stays("21: no VISITOR", law, x -> x.suspects(1, 0, 255), Check.BAD);
        Check.stays("22: without VISITORS", law, x -> x.settled(0), 1);
        Check.stays("23: no VISITOR", law, x -> x.cheapest(0, 0, 0), Check.BAD);
        Check.stays("24: no VISITOR", law, x -> x.nextSeat(0, 0, 255), Check.BAD);
        Check.stays("25: no VISITOR", law, x -> x.followed(0, 0, 0), Check.BAD);
        Check.stays("26: no VISITOR", law, x -> x.crowd(0, 0), Check.BAD);
        Check.stays("27: no VISITOR", law, x -> x.told(0, 0, 0), Check.BAD);
        Check.stays("28: no PERSON", law, x -> x.believed(0, 0), Check.BAD);
        Check.stays("29: no PERSON", law, x -> x.account(0, 0, 0, 0), Check.BAD);
        Check.stays("30: no PEOPLE", law, x -> x.met(0, 1), Check.BAD);
        Check.stays("31: none is sold out", law, x -> x.soldOut(-1), 0);
        Check.stays("31: none is sold out", law, x -> x.soldOut(0), Check.NONE);
        Check.stays("32: nothing held", law, SeenAgain::haunted, 0);
        Check.stays("35: no VISITOR", law, x -> x.kind(0), Check.BAD);
        Check.stays("36: no VISITOR", law, x -> x.as(0, 0), Check.BAD);
        Check.stays("37: no VISITOR", law, x -> x.ask(0, 0), Check.BAD);
        Run people = law.told("h2,1,0;r0,0,0,0,0,0,0,0;r0,0,0,0,0,0,0,1;").then(x -> x.drop(7));
        Check.stays("18: by nobody", people, x -> x.seen(0, 1, 7), Check.NONE);
        Check.stays("19: by nobody", people, x -> x.known(0, 1), 0);
        Check.stays("20: by nobody", people, x -> x.canBe(0, 1, 0, 7), 1);
        Check.stays("21: by nobody", people, x -> x.suspects(0, 1, 128), 3);
        Check.stays("28: nobody tells", people, x -> x.believed(1, 7), Check.NONE);
        Check.stays("25: no VISITOR", people, x -> x.followed(0, 0, 0), Check.BAD);
        Check.stays("27: no VISITOR", people, x -> x.told(0, 0, 0), Check.BAD);
        Check.due("29: by nobody", people.then(x -> x.account(0, 1, 0, 0)).last(), 0);
        Check.due("30: two PEOPLE", people.made().met(1, 0), 127);
    }

    private static void noWindows() {
        Run law = new Run().told("h3,1,0;r0,1,2,0,1,2,0,1;t0;").then(x -> x.drop(7));
        Check.due("39: no windows", law.made().count(2), 0);
        Check.stays("12: no window", law, x -> x.curtain(0, 1, 0), Check.BAD);
        Check.stays("12: no window", law, x -> x.curtain(2, 0, 7), Check.BAD);
        for (int room = 0; room < 3; room++) {
            int one = room;
            Check.stays("15: the ROOM itself", law, x -> x.seat(one, 7, 0), 1 << room);
        }
        Check.stays("22: two of three", law, x -> x.settled(0), 3);
        Check.stays("23: two of three", law, x -> x.cheapest(0, 0, 0), 3);
    }

    private static void noItems() {
        Run none = new Run(x -> x.row(0, 0, 0), x -> x.row(1, 0, 1), x -> x.row(2, 1, 0)).told(Check.MANOR)
            .then(x -> x.drop(7));
        Check.due("2: no ITEMS are a ROW", none.made().count(0), 3);
        Check.stays("3: no ITEM", none, x -> x.set(0, 0, 0), Check.PLACE);
        Check.due("4: no ITEMS of none", none.then(x -> x.copy(0, 0, 0, 0, 0)).last(), 0);
        Check.due("4: no ITEMS of none", none.then(x -> x.copy(0, 0, 1, 1, 0)).last(), 0);
        Check.due("4: no ITEMS to none", none.then(x -> x.copy(1, 1, 0, 0, 0)).last(), 0);
        Check.stays("4: an ITEM of none", none, x -> x.copy(0, 0, 1, 0, 1), Check.PLACE);
        Check.stays("4: an ITEM to none", none, x -> x.copy(1, 0, 0, 0, 1), Check.PLACE);
        Check.stays("4: no ITEMS beyond none", none, x -> x.copy(0, 1, 1, 0, 0), Check.PLACE);
        Check.stays("4: no ITEMS beyond the end", none, x -> x.copy(1, 0, 0, 1, 0), Check.PLACE);
        Check.stays("4: no ITEMS of two LANES", none, x -> x.copy(0, 0, 2, 0, 0), Check.STORE);
        Check.stays("4: no ITEMS of a ROW that is missing", none, x -> x.copy(3, 0, 0, 0, 0), Check.NULL);
        Check.stays("4: no ITEMS to a ROW that is missing", none, x -> x.copy(0, 0, 3, 0, 0), Check.NULL);
        Check.stays("29: no ITEMS", none, x -> x.account(0, 0, 0, 0), Check.PLACE);
        Check.due("5: none", none.then(x -> x.drop(0)).last(), 0);
        Check.due("5: none, but it was there", none.then(x -> x.drop(0), x -> x.count(0)).last(), 2);
    }

    /** What is only asked, or foretold, leaves all as it was: status(), ACTS, IMAGES, THE TRACE and the tape, too. */
    private static void nothingChanges() {
        Run run = new Run(x -> x.row(0, 1, 8)).told(Check.MANOR)
            .then(x -> x.buy(1, 1, 0), x -> x.image(0), x -> x.buy(2, 3, 4), x -> x.curtain(1, 0, 2), x -> x.write(4))
            .then(x -> x.ask(1, 1), x -> x.drop(7)).fed("h2,1");
        Check.stays("8: fault()", run, SeenAgain::fault, 0);
        Check.stays("14: visitor()", run, x -> x.visitor(1, 2), 7);
        Check.stays("15: seat()", run, x -> x.seat(1, 0, 1), 2);
        Check.stays("16: price()", run, x -> x.price(2, 1, 0), 8);
        Check.stays("17: looked()", run, x -> x.looked(6, 0), 7);
        Check.stays("18: seen()", run, x -> x.seen(4, 0, 4), 3);
        Check.stays("19: known()", run, x -> x.known(6, 0), 17);
        Check.stays("20: canBe()", run, x -> x.canBe(2, 0, 1, 0), 0);
        Check.stays("21: suspects()", run, x -> x.suspects(6, 3, 17), 3);
        Check.stays("22: settled()", run, x -> x.settled(0), 2);
        Check.stays("23: cheapest()", run, x -> x.cheapest(1, 0, 1), 0);
        Check.stays("24: nextSeat()", run, x -> x.nextSeat(3, 2, 8), 18);
        Check.stays("25: followed()", run, x -> x.followed(2, 0, 0), 4);
        Check.stays("26: crowd()", run, x -> x.crowd(1, 0), 0);
        Check.stays("27: told()", run, x -> x.told(2, 0, 4), 0);
        Check.stays("28: believed()", run, x -> x.believed(0, 4), 0);
        Check.stays("30: met()", run, x -> x.met(0, 1), 0);
        Check.stays("31: soldOut()", run, x -> x.soldOut(-1), 0);
        Check.stays("32: haunted()", run, SeenAgain::haunted, 1);
        Check.stays("35: kind()", run, x -> x.kind(3), 4);
        Check.stays("38: trace()", run, x -> x.trace(0), 22);
        Check.stays("39: count()", run, x -> x.count(8), 4);
        Check.stays("40: status()", run, SeenAgain::status, 1);
        Run account = run.then(x -> x.account(6, 0, 0, 0));
        Check.due("29: account()", account.last(), 16);
        Check.due("29: account() changes status() alone", account.portrait(), run.portrait());
        Run as = run.then(x -> x.as(3, 0));
        Check.due("36: as()", as.last(), 3);
        Check.due("36: as() changes status() alone", as.portrait(), run.portrait());
    }

    /** What other objects were told and did is theirs. */
    private static void othersStay() {
        SeenAgain one = new Run(x -> x.row(0, 0, 8)).told(Check.MANOR).then(x -> x.image(0)).made();
        SeenAgain other = new SeenAgain();
        Check.due("1: no HOUSE but one's own", other.count(1), 0);
        Check.due("1: no ROW but one's own", other.drop(0), Check.NULL);
        Check.due("1: no IMAGE but one's own", other.restore(0), Check.STATE);
        Check.read(other, Check.HUT);
        other.write(0);
        Check.due("1: the one's ROOMS stay", one.count(1), 4);
        Check.due("1: nothing is written there", one.write(0), 1);
    }
}
