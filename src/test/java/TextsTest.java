import java.util.ArrayList;
import java.util.List;

/** Promises 6 to 8: each TOKEN of a text by each that cannot stand there, each NUMBER, each byte, each end. */
public final class TextsTest {
    private static final String LAW = "h3,1,0;";
    private static final String WALL = "g0,1;";
    private static final String PERSON = "r0,1,2,0,1,2,0,1;";
    private static final String VISITOR = "t5;";

    public static void main(String[] args) {
        wrongTokens();
        wrongBytes();
        numbers();
        figures();
        ends();
        statements();
        roomFor();
        leastOfOneToken();
        firstOfSeveral();
        wholeTape();
        inPlaceOfTheOneBefore();
        Check.end();
    }

    /** A text read on a new object. */
    private static void reads(String text, int rooms) {
        SeenAgain x = new SeenAgain();
        Check.due("7: " + text, Check.read(x, text), rooms);
        Check.due("8: no FAULT in " + text, x.fault(), 0);
        Check.due("7: ROOMS of " + text, x.count(1), rooms);
        Check.due("7: the tape is empty behind " + text, x.count(8), 0);
    }

    private static void faulty(String text, int place, int fault) {
        SeenAgain x = new SeenAgain();
        Check.due("7: " + text, Check.read(x, text), -1000100 - place);
        Check.due("8: the FAULT of " + text, x.fault(), fault);
        Check.due("7: no HOUSE by " + text, x.count(1), 0);
        Check.due("7: the tape is empty behind " + text, x.count(8), 0);
    }

    private static List<String> tokensOf(String text) {
        List<String> all = new ArrayList<>();
        int at = 0;
        while (at < text.length()) {
            int end = at + 1;
            while (isFigure(text.charAt(at)) && end < text.length() && isFigure(text.charAt(end))) {
                end++;
            }
            all.add(text.substring(at, end));
            at = end;
        }
        return all;
    }

    private static boolean isFigure(char letter) {
        return letter >= '0' && letter <= '9';
    }

    /** Behind the first TOKEN of a statement there is one way on alone; what stands there else is FAULT 1. */
    private static void wrongTokens() {
        String[] others = {"h", "g", "r", "t", "a", "b", "z", ",", ";", "0", "00", "100", " ", "A", "Z", "-", "?"};
        String ahead = "";
        for (String token : tokensOf(LAW + WALL + PERSON + VISITOR)) {
            for (String other : others) {
                boolean figures = isFigure(other.charAt(0)) && other.length() < 3;
                boolean fits = other.equals(token) || figures && isFigure(token.charAt(0));
                boolean longer = isFigure(other.charAt(0)) && isFigure(lastOf(ahead));
                if (!isLetter(token.charAt(0)) && !fits && !longer) {
                    faulty(ahead + other, ahead.length(), 1);
                    faulty(ahead + other + ";" + LAW, ahead.length(), 1);
                }
            }
            ahead += token;
        }
    }

    private static boolean isLetter(char sign) {
        return sign >= 'a' && sign <= 'z';
    }

    private static char lastOf(String text) {
        return text.isEmpty() ? ' ' : text.charAt(text.length() - 1);
    }

    /** All 256 bytes, where a text begins, where a NUMBER is due, a SIGN, and behind each statement. */
    private static void wrongBytes() {
        onlyFits("", "h");
        onlyFits("h", "0123456789");
        onlyFits("h3", ",0123456789");
        onlyFits("h3,1,0", ";0123456789");
        onlyFits(LAW, "gradltw");
        onlyFits(LAW + WALL, "gradltw");
        onlyFits(LAW + PERSON, "radltw");
        onlyFits(LAW + VISITOR, "adltw");
    }

    private static void onlyFits(String ahead, String fitting) {
        for (char letter = 0; letter < 256; letter++) {
            if (fitting.indexOf(letter) < 0) {
                faulty(ahead + letter, ahead.length(), 1);
            } else if (isLetter(letter)) {
                faulty(ahead + letter, ahead.length() + 1, 1);
            }
        }
    }

    /** Each NUMBER from 0 to 99, with one figure and with two. */
    private static void numbers() {
        for (int n = 0; n < 100; n++) {
            number("h", n, ",1,0;", n >= 2 && n <= 6 ? n : -1);
            number("h3,", n, ",0;", n >= 1 && n <= 5 ? 3 : -1);
            number("h3,1,", n, ";", n <= 20 ? 3 : -1);
            number(LAW + "g1,", n, ";", n == 0 || n == 2 ? 3 : -1);
            number(LAW + VISITOR + "w", n, ";", 3);
            if (n != 2) {
                number(LAW + "g", n, ",2;", n < 2 ? 3 : -1);
            }
            for (int minute = 0; minute < 8; minute++) {
                number(LAW + PERSON.substring(0, 1 + 2 * minute), n, PERSON.substring(2 + 2 * minute), n < 3 ? 3 : -1);
            }
        }
        faulty(LAW + "g2,2;", 10, 2);
        faulty("h6,1,0;g5,6;", 10, 2);
        faulty("h6,1,0;g6,5;", 8, 2);
        reads("h6,1,0;g5,4;", 6);
        faulty("h2,1,0;g0,1;g1,2;", 15, 2);
    }

    /** How many ROOMS there are by it, or -1: FAULT 2 at the NUMBER. */
    private static void number(String ahead, int n, String behind, int rooms) {
        String[] forms = {"" + n, n < 10 ? "0" + n : "" + n};
        for (String form : forms) {
            if (rooms < 0) {
                faulty(ahead + form + behind, ahead.length(), 2);
                faulty(ahead + form, ahead.length(), 2);
            } else {
                reads(ahead + form + behind, rooms);
            }
        }
    }

    /** A run of three figures or more is none, wherever a NUMBER is due: at its first figure. */
    private static void figures() {
        String[] runs = {"000", "003", "100", "999", "0000", "2147483648", "4294967298", "00000000000000000001"};
        String ahead = "";
        for (String token : tokensOf(LAW + WALL + PERSON + VISITOR)) {
            for (String run : runs) {
                if (isFigure(token.charAt(0))) {
                    faulty(ahead + run, ahead.length(), 1);
                    faulty(ahead + run + ",1,0;", ahead.length(), 1);
                }
            }
            ahead += token;
        }
        faulty("123", 0, 1);
        faulty(LAW + "123", 7, 1);
        faulty(LAW + "99", 7, 1);
    }

    /** A text that ends too early has its FAULT where it ends, one that ends behind a statement is a HOUSE. */
    private static void ends() {
        String text = LAW + WALL + WALL + PERSON + PERSON + VISITOR + VISITOR;
        for (int length = 0; length <= text.length(); length++) {
            String part = text.substring(0, length);
            if (part.endsWith(";")) {
                reads(part, 3);
            } else {
                faulty(part, length, 1);
            }
        }
    }

    /** Walls, then PEOPLE, then VISITORS, as few of each as one likes; one law, the first of all. */
    private static void statements() {
        String[] all = {LAW, WALL, PERSON, VISITOR};
        for (int i = 0; i < 256; i++) {
            int[] sorts = {i & 3, i >> 2 & 3, i >> 4 & 3, i >> 6};
            String text = "";
            int place = sorts[0] == 0 ? -1 : 0;
            for (int k = 0; k < 4; k++) {
                boolean stands = k == 0 ? sorts[0] == 0 : sorts[k] > 0 && sorts[k] >= sorts[k - 1];
                if (!stands && place < 0) {
                    place = text.length();
                }
                text += all[sorts[k]];
            }
            if (place < 0) {
                reads(text, 3);
            } else {
                faulty(text, place, 1);
            }
        }
    }

    private static void roomFor() {
        String walls = LAW + WALL.repeat(9);
        String people = LAW + PERSON.repeat(4);
        String visitors = LAW + "a1;d2;l3;w4;";
        reads(walls, 3);
        reads(people, 3);
        reads(visitors, 3);
        reads(walls + PERSON.repeat(4) + "t1;t2;t3;t4;", 3);
        String[] behind = {"", "?", ";", "7", "999", "0,1;", "0,1,2,0,1,2,0,1;", "5;"};
        for (String rest : behind) {
            faulty(walls + "g" + rest, walls.length(), 3);
            faulty(people + "r" + rest, people.length(), 3);
            for (char sort : "adltw".toCharArray()) {
                faulty(visitors + sort + rest, visitors.length(), 3);
            }
        }
        SeenAgain x = Check.houseOf(walls + PERSON.repeat(4) + "t1;t2;t3;t4;");
        Check.due("39: 9 windows", x.count(2), 9);
        Check.due("39: 4 PEOPLE", x.count(3), 4);
        Check.due("39: 4 VISITORS", x.count(4), 4);
    }

    /** What cannot stand there is FAULT 1, and no other, even if it is a NUMBER beyond, or there is no room for it. */
    private static void leastOfOneToken() {
        String walls = LAW + WALL.repeat(9) + PERSON;
        faulty(walls + WALL, walls.length(), 1);
        String people = LAW + PERSON.repeat(4) + VISITOR;
        faulty(people + PERSON, people.length(), 1);
        String visitors = LAW + VISITOR.repeat(4);
        faulty(visitors + WALL, visitors.length(), 1);
        faulty(visitors + PERSON, visitors.length(), 1);
        faulty(visitors + LAW, visitors.length(), 1);
        faulty(visitors + "b5;", visitors.length(), 1);
        faulty(LAW + "99;", 7, 1);
        faulty("h3,1,999;", 5, 1);
    }

    private static void firstOfSeveral() {
        faulty("h7,6,21;", 1, 2);
        faulty("h6,6,21;", 3, 2);
        faulty("h6,5,21;", 5, 2);
        faulty("h7;", 1, 2);
        faulty("h;7", 1, 1);
        faulty(LAW + "g3,3;", 8, 2);
        faulty(LAW + "g2,2,", 10, 2);
        faulty(LAW + "g2;2,", 9, 1);
        faulty(LAW + WALL.repeat(10) + "r9", 7 + 9 * 5, 3);
        faulty(LAW + VISITOR.repeat(5) + "h", 7 + 4 * 3, 3);
        faulty(LAW + VISITOR.repeat(3) + "t100;" + VISITOR, 7 + 3 * 3 + 1, 1);
    }

    /** All 140 bytes: a text that ends with the last of them, and one that would go on behind it. */
    private static void wholeTape() {
        reads(Check.CASTLE, 6);
        String longer = Check.CASTLE.replace("g0,1;", "g00,1;");
        SeenAgain x = new SeenAgain();
        Check.feed(x, longer);
        Check.due("6: 140 at most", x.count(8), 140);
        Check.due("7: the end of the tape", x.house(), -1000240);
        Check.due("8: the end of the tape", x.fault(), 1);
        x = new SeenAgain();
        Check.feed(x, Check.CASTLE + "?");
        Check.due("7: what is refused is not read", x.house(), 6);
        String places = LAW + VISITOR.repeat(4);
        x = new SeenAgain();
        Check.feed(x, places + "?".repeat(200));
        Check.due("7: the first byte behind", x.house(), -1000100 - places.length());
    }

    /** No SEAT, no curtain, nothing written, PURSES as told: as if it were read first; IMAGES and ROWS stay. */
    private static void inPlaceOfTheOneBefore() {
        Run first = new Run(x -> x.row(2, 1, 5)).told(Check.HUT).then(x -> x.image(0), x -> x.ask(0, 0));
        Run anew = first.told(Check.MANOR);
        Run again = first.then(x -> x.buy(0, 0, 0), x -> x.curtain(0, 1, 7), x -> x.write(7)).told(Check.MANOR);
        Check.due("7: in place of another", again.portrait(), anew.portrait());
        Run done = anew.then(x -> x.buy(0, 0, 0), x -> x.buy(2, 3, 7), x -> x.curtain(0, 1, 0))
            .then(x -> x.curtain(2, 1, 7), x -> x.write(0), x -> x.write(7)).told(Check.MANOR);
        Check.due("7: in place of the same", done.portrait(), anew.portrait());
        Check.due("7: no ACT can be undone", done.made().undo(), Check.STATE);
        Check.due("7: IMAGES stay", done.then(x -> x.restore(0), x -> x.count(1)).last(), 2);
        Check.due("7: ROWS stay", done.made().drop(2), 5);
        Check.due("7: THE TRACE stays", done.made().trace(0), 11);
    }
}
