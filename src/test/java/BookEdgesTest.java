/** Boundaries of promises 44 to 50 and of promise 1, a method for each sentence. */
public final class BookEdgesTest {
    private static final Check check = new Check("BookEdgesTest");
    private static final int NONE = CardsAndBans.NONE;

    public static void main(String[] args) {
        newObjects();
        keptInPlace();
        nothingKept();
        backAsAnAct();
        entriesOfTheBook();
        whatsOfAnEntry();
        toldOfTheLatestSixty();
        noneCanBeUndone();
        undoneAsIfNeverBeen();
        undoneInTurn();
        countsOfNothing();
        countsOfAll();
        anotherWhat();
        numbersOfTheRow();
        check.end();
    }

    /** "Four CUPS with RULES as at first, no PLAYERS": of each object, whatever another one was told. */
    private static void newObjects() {
        CardsAndBans other = Check.ordinary();
        Check.play(other, 0, 0, 1, "y0,r1");
        other.keeps();
        Check.put(other, "abc");
        CardsAndBans x = new CardsAndBans();
        for (int what = 0; what <= 10; what++) {
            check.is("count(" + what + ")", x.count(what), 0);
        }
        check.is("rules", Check.written(x).equals("0o1x0;1o1x0;2o1x0;3o1x0"), true);
        check.is("nothing kept", x.back(), -2);
        check.is("nothing to be undone", x.undo(), -2);
        for (int team = 0; team < 4; team++) {
            check.tells(x, "squad", x.squad(team), 0, 0);
            check.tells(x, "points", x.points(team), 0, 0, 0, 0);
        }
        check.is("the other is as it was", other.count(1) * 100 + other.count(10), 103);
    }

    // ---- promises 44 and 45

    /** "All that is (RULES aside) is kept, in place of what was: how many MATCHES there were." */
    private static void keptInPlace() {
        CardsAndBans x = Check.ordinary();
        check.is("no matches", x.keeps(), 0);
        Check.play(x, 0, 0, 1, "y0,r1");
        check.is("one match", x.keeps(), 1);
        String was = Snapshot.of(x);
        Check.play(x, 0, 0, 1, "y0,r2");
        Check.given(x, "5c1n1");
        x.appeal(0);
        x.move(0, 3);
        x.season();
        check.is("back to the latest", x.back(), 1);
        check.is("all is so again", Snapshot.of(x).equals(was), true);
        Check.play(x, 0, 0, 1, "y0");
        check.is("back again", x.back(), 1);
        check.is("what is kept does not change", Snapshot.of(x).equals(was), true);
        check.is("keeps is no act", x.count(5) + x.keeps(), 8 + 1);
        check.is("keeps is no act", x.count(5), 8);
        Check.squads(x, "");
        check.is("nothing but no players", x.keeps(), 0);
        check.is("back to it", x.back(), 0);
    }

    /** "-2: nothing is kept (since squads())." */
    private static void nothingKept() {
        CardsAndBans x = Check.ordinary();
        check.refuses(x, "never kept", -2, 0, x::back);
        x.keeps();
        check.refuses(x, "a refused squads", -22, 0, () -> Check.squads(x, "04"));
        check.is("kept yet", x.back(), 0);
        Check.squads(x, "001122");
        check.refuses(x, "kept ahead of squads", -2, 0, x::back);
        x.keeps();
        Check.rules(x, "");
        check.is("kept behind squads", x.back(), 0);
    }

    /** "All that was kept is so again, as an ACT": it can be undone, RULES stay, THE TEXT and the ROW, too. */
    private static void backAsAnAct() {
        CardsAndBans x = Check.ordinary();
        x.keeps();
        for (int i = 0; i < 7; i++) {
            x.bans(0, 0, 1);
        }
        String was = Snapshot.of(x);
        check.is("the eighth act", x.back(), 0);
        check.is("eight", x.count(5), 8);
        check.is("the ninth", x.back(), 0);
        check.is("eight still", x.count(5), 8);
        x.undo();
        check.is("undone", x.undo(), 6);
        check.is("as it was", Snapshot.of(x).equals(was), true);
        Check.rules(x, "3a9x9");
        x.told(0);
        Check.put(x, "abcdefg");
        check.tells(x, "the row stays", x.back(), 0, 7, 0, 0, 0, 0, 0);
        check.is("the text stays", x.count(10), 7);
        check.is("rules stay", x.rule(3, 1), 9);
    }

    // ---- promises 46 and 47

    /** "Entry i of THE BOOK (0 the latest)", "NONE: none such". */
    private static void entriesOfTheBook() {
        CardsAndBans x = Check.ordinary();
        for (int entries = 0; entries <= 61; entries++) {
            int last = Math.min(entries, 60) - 1;
            check.is("the last of " + entries, x.book(last, 0), last < 0 ? NONE : 0);
            for (int i : new int[] {-1, last + 1, 60, 61, Integer.MIN_VALUE, Integer.MAX_VALUE}) {
                check.is("entry " + i + " of " + entries, x.book(i, 0), NONE);
            }
            x.bans(0, 0, 1);
        }
    }

    /** "what 0: WHAT, 1: the BAN, 2: the MATCH. NONE: another what", each WHAT from 0 to 5. */
    private static void whatsOfAnEntry() {
        CardsAndBans x = Check.ordinary();
        Check.given(x, "0c0n2,0c0n1");
        Check.play(x, 0, 0, 1, "r2");
        Check.play(x, 0, 0, 1, "");
        x.appeal(1);
        x.decide(1, false, 0);
        x.appeal(2);
        x.decide(2, true, 0);
        int[][] due = {{3, 2, 2}, {4, 2, 2}, {5, 1, 2}, {4, 1, 2}, {1, 2, 2}, {2, 0, 2}, {1, 0, 2}, {0, 2, 1}, {1, 0, 1},
            {0, 1, 0}, {0, 0, 0}};
        for (int i = 0; i < due.length; i++) {
            for (int what = 0; what < 3; what++) {
                check.is("book(" + i + ", " + what + ")", x.book(i, what), due[i][what]);
            }
        }
        check.is("no more", x.count(6), due.length);
        for (int what : new int[] {-1, 3, Integer.MIN_VALUE, Integer.MAX_VALUE}) {
            check.refuses(x, "book(0, " + what + ")", NONE, 0, () -> x.book(0, what));
        }
    }

    /** "How many entries of THE BOOK are of a PLAYER; the ROW: how many by WHAT 0 .. 5", of the latest 60 alone. */
    private static void toldOfTheLatestSixty() {
        CardsAndBans x = Check.ordinary();
        check.tells(x, "an empty book", x.told(5), 0, 0, 0, 0, 0, 0, 0);
        x.bans(5, 0, 1);
        Check.fill(x, 59);
        check.tells(x, "the earliest of sixty", x.told(5), 1, 1, 0, 0, 0, 0, 0);
        check.tells(x, "the others", x.told(0), 59, 59, 0, 0, 0, 0, 0);
        x.appeal(1);
        check.tells(x, "it is gone", x.told(5), 0, 0, 0, 0, 0, 0, 0);
        check.tells(x, "sixty of one", x.told(0), 60, 59, 0, 0, 0, 1, 0);
        x.decide(1, false, 0);
        check.tells(x, "one more, one less", x.told(0), 60, 58, 0, 0, 0, 1, 1);
        Check.play(x, 0, 0, 1, "");
        check.tells(x, "served and over", x.told(0), 60, 56, 1, 1, 0, 1, 1);
        x.pardon(2, 1);
        check.tells(x, "struck", x.told(0), 60, 55, 1, 1, 1, 1, 1);
    }

    // ---- promise 48

    /** "how many can be undone still. -2: none can." */
    private static void noneCanBeUndone() {
        CardsAndBans x = new CardsAndBans();
        check.refuses(x, "a new object", -2, 0, x::undo);
        x.season();
        check.is("one", x.undo(), 0);
        check.refuses(x, "none more", -2, 0, x::undo);
        x.season();
        x.season();
        check.is("the second", x.undo(), 1);
        check.is("the first", x.undo(), 0);
        check.refuses(x, "none more", -2, 0, x::undo);
        x.season();
        Check.squads(x, "01");
        check.refuses(x, "behind squads", -2, 0, x::undo);
        x.keeps();
        Check.rules(x, "");
        check.refuses(x, "keeps and rules are no acts", -2, 0, x::undo);
    }

    private static long act(CardsAndBans x, int which) {
        switch (which) {
            case 0: return Check.play(x, 0, 0, 1, "y0,r1,y2,y2");
            case 1: return x.move(0, 3);
            case 2: return x.swaps(1, 4);
            case 3: return x.bans(4, 1, 3);
            case 4: return Check.given(x, "4c2n2,5c3n1");
            case 5: return x.appeal(1);
            case 6: return x.decide(2, false, 1);
            case 7: return x.decides(true);
            case 8: return x.pardon(1, 1);
            case 9: return x.season();
            case 10: return x.back();
            default: return Check.given(x, "");
        }
    }

    private static CardsAndBans busy() {
        CardsAndBans x = Check.ordinary();
        x.keeps();
        Check.play(x, 0, 0, 1, "y1,y3");
        Check.given(x, "3c0n1,5c1n2,4c0n3");
        x.appeal(2);
        return x;
    }

    /** Each kind of ACT, and what is done again behind it, is as it was, too. */
    private static void undoneAsIfNeverBeen() {
        for (int which = 0; which <= 11; which++) {
            CardsAndBans x = busy();
            String was = Snapshot.of(x);
            long answer = act(x, which);
            String then = Snapshot.of(x);
            check.is("act " + which + " is not refused", answer >= 0, true);
            check.is("act " + which + " changes what there is", then.equals(was), which == 11);
            check.is("act " + which + " can be undone", x.count(5), 4);
            check.is("undo of " + which, x.undo(), 3);
            check.is("as if " + which + " had never been", Snapshot.of(x).equals(was), true);
            check.is("the same again", act(x, which), answer);
            check.is("as it was then", Snapshot.of(x).equals(then), true);
        }
    }

    /** Undone and done in turn, round the eight places and back: what comes back is always the state ahead. */
    private static void undoneInTurn() {
        CardsAndBans x = Check.ordinary();
        String[] was = new String[200];
        int done = 0;
        for (int turn = 1; turn <= 12; turn++) {
            for (int i = 0; i < turn; i++) {
                was[done] = Snapshot.of(x);
                x.bans(done % 6, turn % 4, 1 + (done + turn) % 9);
                done++;
            }
            int back = Math.min(turn, 8) / 2;
            for (int i = 0; i < back; i++) {
                done--;
                check.is("undo in turn " + turn, x.undo() >= 0, true);
                check.is("as it was in turn " + turn, Snapshot.of(x).equals(was[done]), true);
            }
        }
        for (int left = x.count(5); left > 0; left--) {
            done--;
            check.is("how many still", x.undo(), left - 1);
            check.is("as it was", Snapshot.of(x).equals(was[done]), true);
        }
        check.refuses(x, "none more", -2, 0, x::undo);
    }

    // ---- promises 49 and 50

    private static void countsOfNothing() {
        CardsAndBans x = new CardsAndBans();
        for (int what = 0; what <= 10; what++) {
            check.is("count(" + what + ") of nothing", x.count(what), 0);
        }
        x.season();
        check.is("an act", x.count(5), 1);
        check.is("nobody is out", x.count(8), 0);
    }

    /** "What 0: PLAYERS, 1: BANS, .. 10: signs of THE TEXT", each as many as there can be. */
    private static void countsOfAll() {
        CardsAndBans x = new CardsAndBans();
        Check.squads(x, "000000111111");
        Check.play(x, 0, 0, 1, "y0,y5,y6,y11");
        Check.play(x, 3, 0, 1, "y0,y11");
        for (int ban = 0; ban < 100; ban++) {
            x.bans(ban % 12, ban % 4, 1);
        }
        for (int i = 0; i < 50; i++) {
            x.sign(0);
        }
        x.open(0);
        int[] due = {12, 100, 100, 0, 2, 8, 60, 6, 4095, 9, 200};
        for (int what = 0; what < due.length; what++) {
            check.is("count(" + what + ")", x.count(what), due[what]);
        }
        for (int ban = 0; ban < 100; ban++) {
            x.appeal(ban);
        }
        check.is("open ones, pending, too", x.count(2), 100);
        check.is("pending ones", x.count(3), 100);
        check.is("nobody is out", x.count(8), 0);
        x.decide(11, false, 0);
        check.is("99", x.count(3), 99);
        check.is("the last is out of one", x.count(8), 2048);
        x.pardon(0, 1);
        check.is("one less is open", x.count(2), 99);
        check.is("a forgiven one is decided", x.count(3), 98);
    }

    /** "NONE for another what." */
    private static void anotherWhat() {
        CardsAndBans x = Check.ordinary();
        for (int what : new int[] {-1, 11, 12, Integer.MIN_VALUE, Integer.MAX_VALUE}) {
            check.refuses(x, "count(" + what + ")", NONE, 0, () -> x.count(what));
        }
    }

    /** "Number i of the ROW. NoSuchElementException: none such." */
    private static void numbersOfTheRow() {
        CardsAndBans x = Check.ordinary();
        int[] none = {-1, 0, 1, Integer.MIN_VALUE, Integer.MAX_VALUE};
        for (int i : none) {
            check.is("row(" + i + ") at first", Check.hasRow(x, i), false);
        }
        Check.fill(x, 100);
        for (int n = 100; n >= 0; n -= 20) {
            check.is("numbers", x.open(0), n);
            check.is("the last of " + n, n == 0 || x.row(n - 1) == 99, true);
            for (int i : new int[] {-1, n, n + 1, 100, Integer.MIN_VALUE, Integer.MAX_VALUE}) {
                check.is("row(" + i + ") of " + n, Check.hasRow(x, i), false);
            }
            for (int ban = 100 - n; ban < 120 - n && ban < 100; ban++) {
                x.pardon(ban, 1);
            }
        }
    }
}
