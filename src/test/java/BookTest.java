/** Promises 44 to 50. */
public final class BookTest {
    private static final Check check = new Check("BookTest");

    public static void main(String[] args) {
        keepsAndBack();
        book();
        longBook();
        told();
        undo();
        counts();
        rows();
        check.end();
    }

    private static void keepsAndBack() {
        CardsAndBans x = Check.ordinary();
        check.is("nothing kept", x.back(), -2);
        check.is("no act", x.count(5), 0);
        Check.play(x, 0, 0, 1, "y0,r1");
        check.is("keeps", x.keeps(), 1);
        check.is("keeps is no act", x.count(5), 1);
        Check.play(x, 0, 0, 1, "y0,r2");
        x.move(0, 3);
        Check.rules(x, "0a1x0");
        x.fair();
        Check.put(x, "abc");
        check.tells(x, "back", x.back(), 1, 2, 3, 1, 0);
        check.is("text stays", x.count(10), 3);
        check.is("acts", x.count(5), 4);
        check.is("bans", x.count(1), 1);
        check.is("team", x.team(0), 0);
        check.is("cautions", x.cautions(0, 0), 1);
        check.is("points", x.points(0), 4);
        check.is("played", x.played(1, 0), 1);
        check.is("entries", x.count(6), 1);
        check.is("rules aside", x.rule(0, 0), 1);
        check.is("undo", x.undo(), 3);
        check.is("bans", x.count(1), 3);
        check.is("team", x.team(0), 3);
        check.is("back again", x.back(), 1);
        x.undo();
        check.is("keeps in place", x.keeps(), 2);
        x.undo();
        x.undo();
        check.is("kept is not undone", x.back(), 2);
        check.is("team as kept", x.team(0), 3);
        Check.squads(x, "x");
        check.is("kept behind a refused squads", x.back(), 2);
        Check.squads(x, "01");
        check.is("not kept behind squads", x.back(), -2);
    }

    private static void entry(CardsAndBans x, int i, int what, int ban, int match) {
        check.is("book(" + i + ", 0)", x.book(i, 0), what);
        check.is("book(" + i + ", 1)", x.book(i, 1), ban);
        check.is("book(" + i + ", 2)", x.book(i, 2), match);
    }

    private static void book() {
        CardsAndBans x = Check.ordinary();
        x.bans(0, 0, 1);
        Check.play(x, 0, 0, 1, "r2");
        x.appeal(1);
        x.decide(1, false, 1);
        x.pardon(1, 1);
        x.pardon(1, 3);
        x.bans(3, 0, 1);
        x.appeal(2);
        x.decide(2, true, 0);
        int[] what = {3, 4, 0, 3, 5, 4, 0, 2, 1, 0};
        int[] ban = {2, 2, 2, 1, 1, 1, 1, 0, 0, 0};
        for (int i = 0; i < what.length; i++) {
            entry(x, i, what[i], ban[i], i == what.length - 1 ? 0 : 1);
        }
        check.is("none such", x.book(10, 0), -1);
        check.is("none such", x.book(-1, 0), -1);
        check.is("another what", x.book(0, 3), -1);
        check.is("another what", x.book(0, -1), -1);
        x.undo();
        check.is("entries are undone", x.count(6), 9);
        entry(x, 0, 4, 2, 1);
    }

    private static void longBook() {
        CardsAndBans x = Check.ordinary();
        Check.fill(x, 60);
        check.is("sixty", x.count(6), 60);
        check.is("the first", x.book(59, 1), 0);
        x.bans(1, 0, 1);
        check.is("sixty still", x.count(6), 60);
        check.is("the earliest is gone", x.book(59, 1), 1);
        check.is("the latest", x.book(0, 1), 60);
        check.is("none such", x.book(60, 0), -1);
        check.tells(x, "told(0)", x.told(0), 59, 59, 0, 0, 0, 0, 0);
        x.undo();
        check.is("the first again", x.book(59, 1), 0);
    }

    private static void told() {
        CardsAndBans x = Check.ordinary();
        Check.given(x, "0c0n1,0c0n2,2c0n9");
        Check.play(x, 0, 0, 1, "");
        x.appeal(1);
        x.decide(1, false, 1);
        x.pardon(1, 3);
        check.tells(x, "told(0)", x.told(0), 7, 2, 1, 1, 1, 1, 1);
        check.tells(x, "told(2)", x.told(2), 2, 1, 1, 0, 0, 0, 0);
        check.tells(x, "told(1)", x.told(1), 0, 0, 0, 0, 0, 0, 0);
        check.tells(x, "told(6)", x.told(6), -1, 0, 0, 0, 0, 0, 0);
    }

    private static void undo() {
        CardsAndBans x = Check.ordinary();
        check.is("none", x.undo(), -2);
        for (int i = 0; i < 11; i++) {
            x.bans(0, 0, 1);
        }
        check.is("eight", x.count(5), 8);
        for (int i = 7; i >= 5; i--) {
            check.is("undo", x.undo(), i);
        }
        check.is("bans", x.count(1), 8);
        x.bans(1, 0, 2);
        x.fair();
        for (int i = 5; i >= 0; i--) {
            check.tells(x, "undo, the row stays", x.undo(), i, 0, 1, 2, 3);
        }
        check.is("none more", x.undo(), -2);
        check.is("bans", x.count(1), 3);
        check.is("numbers go on", x.bans(1, 1, 1), 3);
        check.is("refused calls are no acts", x.bans(1, 1, 0), -1);
        check.is("asking is no act", x.may(1, 1), 0);
        check.is("one", x.count(5), 1);
    }

    private static void counts() {
        CardsAndBans x = Check.ordinary();
        Check.play(x, 0, 0, 1, "y0,r1,y2,r3");
        Check.given(x, "5c1n2");
        x.appeal(0);
        x.pardon(1, 3);
        x.fair();
        Check.put(x, "12345");
        int[] due = {6, 3, 2, 1, 1, 4, 5, 2, 32, 4, 5, -1};
        for (int what = 0; what < due.length; what++) {
            check.is("count(" + what + ")", x.count(what), due[what]);
        }
        check.is("count(-1)", x.count(-1), -1);
        check.is("count(max)", x.count(Integer.MAX_VALUE), -1);
    }

    private static void rows() {
        CardsAndBans x = Check.ordinary();
        check.is("row(0) at first", Check.hasRow(x, 0), false);
        check.is("row(-1) at first", Check.hasRow(x, -1), false);
        x.fair();
        check.is("row(3)", x.row(3), 3);
        check.is("row(4)", Check.hasRow(x, 4), false);
        check.is("row(-1)", Check.hasRow(x, -1), false);
        check.is("row(max)", Check.hasRow(x, Integer.MAX_VALUE), false);
        check.is("row(min)", Check.hasRow(x, Integer.MIN_VALUE), false);
        x.open(0);
        check.is("an empty one", Check.hasRow(x, 0), false);
    }
}
