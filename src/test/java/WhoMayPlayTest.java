/** Promises 20 to 33. */
public final class WhoMayPlayTest {
    private static final Check check = new Check("WhoMayPlayTest");

    public static void main(String[] args) {
        may();
        out();
        misses();
        owed();
        sides();
        until();
        cautions();
        risks();
        tempts();
        costs();
        played();
        plan();
        returns();
        behind();
        wrongLists();
        check.end();
    }

    /** PLAYER 0 has BANS of 2 (OWN 0), 1 (ALL, PENDING) and 3 (ALL), PLAYER 3 of 3 (OWN 0), PLAYER 4 of 1 (OWN 2). */
    private static CardsAndBans banned() {
        CardsAndBans x = Check.ordinary();
        Check.given(x, "0c0n2,0c1n1,0c1n3,3c0n3,4c2n1");
        x.appeal(1);
        return x;
    }

    private static void may() {
        CardsAndBans x = banned();
        check.tells(x, "may(0, 0)", x.may(0, 0), 0, 0);
        check.tells(x, "may(0, 3)", x.may(0, 3), 0, 2);
        check.tells(x, "may(3, 1)", x.may(3, 1), 1, -1);
        check.tells(x, "may(4, 2)", x.may(4, 2), 0, 4);
        check.tells(x, "no player", x.may(6, 0), -1, 4);
        check.tells(x, "no player", x.may(-1, 0), -1, 4);
        check.tells(x, "no cup", x.may(0, 4), -1, 4);
        check.tells(x, "no cup", x.may(0, -1), -1, 4);
    }

    private static void out() {
        CardsAndBans x = banned();
        x.bans(1, 0, 7);
        check.tells(x, "out(0, 0)", x.out(0, 0), 3, 2, 5, 7);
        check.tells(x, "out(0, 2)", x.out(0, 2), 1, 1, 3);
        check.tells(x, "out(3, 0)", x.out(3, 0), 0, 0);
        check.tells(x, "no team", x.out(4, 0), -1, 0);
        check.tells(x, "no cup", x.out(0, 4), -1, 0);
    }

    private static void misses() {
        CardsAndBans x = banned();
        check.tells(x, "misses(0, 0)", x.misses(0, 0), 5, 6);
        check.tells(x, "misses(0, 1)", x.misses(0, 1), 3, 4);
        check.tells(x, "misses(4, 0)", x.misses(4, 0), 0, 0);
        x.appeal(0);
        check.tells(x, "misses(0, 0)", x.misses(0, 0), 3, 6);
        check.tells(x, "an own one of another cup", x.misses(0, 1), 3, 4);
        check.tells(x, "no player", x.misses(6, 0), -1, 4);
        check.tells(x, "no cup", x.misses(0, -1), -1, 4);
    }

    private static void owed() {
        CardsAndBans x = banned();
        check.tells(x, "owed(0)", x.owed(0), 6, 5, 3, 3, 3);
        check.tells(x, "owed(3)", x.owed(3), 3, 3, 0, 0, 0);
        check.tells(x, "owed(6)", x.owed(6), -1, 3, 0, 0, 0);
    }

    private static void sides() {
        CardsAndBans x = banned();
        check.tells(x, "sides(0, 0, 1)", x.sides(0, 0, 1), 6, 1, 1, 9);
        check.tells(x, "sides(2, 2, 0)", x.sides(2, 2, 0), 34, 1, 1, 17);
        check.tells(x, "sides(1, 1, 3)", x.sides(1, 1, 3), 12, 2, 0, 0);
        check.tells(x, "a is b", x.sides(0, 1, 1), -1, 2, 0, 0);
        check.tells(x, "no team", x.sides(0, 4, 1), -1, 2, 0, 0);
        check.tells(x, "no team", x.sides(0, 1, -1), -1, 2, 0, 0);
        check.tells(x, "no cup", x.sides(4, 0, 1), -1, 2, 0, 0);
    }

    private static void until() {
        CardsAndBans x = banned();
        check.tells(x, "until(0, 0)", x.until(0, 0), 5, 1);
        x.bans(1, 0, 5);
        check.tells(x, "until(0, 0)", x.until(0, 0), 5, 3);
        x.bans(1, 0, 1);
        check.tells(x, "until(0, 0)", x.until(0, 0), 6, 2);
        check.tells(x, "until(2, 2)", x.until(2, 2), 1, 16);
        check.tells(x, "until(2, 0)", x.until(2, 0), 0, 0);
        check.tells(x, "no team", x.until(-1, 0), -1, 0);
        check.tells(x, "no cup", x.until(0, 4), -1, 0);
    }

    private static void cautions() {
        CardsAndBans x = new CardsAndBans();
        Check.squads(x, "01");
        Check.rules(x, "0o1x0:2/3,4/5");
        int[] more = {2, 1, 2, 1, -1, -1};
        int[] matches = {3, 3, 5, 5, -1, -1};
        for (int i = 0; i < more.length; i++) {
            check.tells(x, "cautions(0, 0)", x.cautions(0, 0), i, more[i], matches[i]);
            Check.play(x, 0, 0, 1, "y0");
            for (int ban = 0; ban < x.count(1); ban++) {
                x.pardon(ban, x.ban(ban, 2));
            }
        }
        check.tells(x, "no steps", x.cautions(0, 1), 0, -1, -1);
        x.fair();
        check.tells(x, "no player", x.cautions(2, 0), -1, 1, 2, 3, 0);
        check.tells(x, "no cup", x.cautions(0, 4), -1, 1, 2, 3, 0);
    }

    private static void risks() {
        CardsAndBans x = new CardsAndBans();
        Check.squads(x, "00001");
        Check.rules(x, "0o1x0:2/3,3/5;1o1x0:1/1");
        Check.play(x, 0, 0, 1, "y0,y1,y4");
        Check.play(x, 0, 0, 1, "y1,y2");
        check.tells(x, "risks(0, 0)", x.risks(0, 0), 7, 2);
        check.tells(x, "risks(1, 0)", x.risks(1, 0), 16, 1);
        check.tells(x, "risks(0, 1)", x.risks(0, 1), 15, 4);
        check.tells(x, "risks(0, 2)", x.risks(0, 2), 0, 0);
        check.tells(x, "no team", x.risks(4, 0), -1, 0);
        check.tells(x, "no cup", x.risks(0, -1), -1, 0);
    }

    private static void tempts() {
        CardsAndBans x = new CardsAndBans();
        Check.squads(x, "01");
        Check.rules(x, "0o1x8:2/1,3/2");
        check.tells(x, "tempts(0, 0, 1)", x.tempts(0, 0, 1), 0, 0, 1);
        check.tells(x, "tempts(0, 0, 3)", x.tempts(0, 0, 3), 1, 1, 2);
        check.tells(x, "tempts(0, 0, 6)", x.tempts(0, 0, 6), 3, 2, 3);
        check.tells(x, "tempts(0, 0, 7)", x.tempts(0, 0, 7), 3, 2, 4);
        check.tells(x, "wiped in the 8th", x.tempts(0, 0, 8), 3, 2, 0);
        check.tells(x, "tempts(0, 0, 40)", x.tempts(0, 0, 40), 6, 4, 29);
        x.bans(0, 0, 4);
        x.bans(0, 0, 4);
        x.appeal(1);
        check.tells(x, "bans ahead, pending aside", x.tempts(0, 0, 5), 4, 0, 1);
        check.is("nothing changed", x.ban(0, 2), 4);
        x.fair();
        check.tells(x, "n 0", x.tempts(0, 0, 0), -1, 0, 1, 2, 3);
        check.tells(x, "n 41", x.tempts(0, 0, 41), -1, 0, 1, 2, 3);
        check.tells(x, "no player", x.tempts(2, 0, 1), -1, 0, 1, 2, 3);
        check.tells(x, "no cup", x.tempts(0, 4, 1), -1, 0, 1, 2, 3);

        Check.squads(x, "01");
        for (int i = 0; i < 99; i++) {
            x.bans(1, 1, 1);
        }
        check.tells(x, "the hundredth", x.tempts(0, 0, 3), 1, 1, 2);
        check.tells(x, "one more", x.tempts(0, 0, 4), -4, 1, 2);
        check.is("n first", x.tempts(0, 0, 41), -1);
    }

    private static void costs() {
        CardsAndBans x = new CardsAndBans();
        Check.rules(x, "0o1x3:2/1,4/2,20/9");
        check.tells(x, "costs(0, 0)", x.costs(0, 0), 0, 0);
        check.tells(x, "costs(0, 1)", x.costs(0, 1), 0, 0);
        check.tells(x, "costs(0, 2)", x.costs(0, 2), 1, 1);
        check.tells(x, "costs(0, 19)", x.costs(0, 19), 3, 2);
        check.tells(x, "costs(0, 20)", x.costs(0, 20), 12, 3);
        check.tells(x, "costs(0, 40)", x.costs(0, 40), 12, 3);
        Check.rules(x, "1o1x3:1/4,2/9;0o1x3:2/1,4/2,20/9");
        check.tells(x, "a step of one caution", x.costs(1, 1), 4, 1);
        check.tells(x, "two steps", x.costs(1, 2), 13, 2);
        check.tells(x, "none", x.costs(1, 0), 0, 0);
        x.costs(0, 40);
        check.tells(x, "n 41", x.costs(0, 41), -1, 3);
        check.tells(x, "n -1", x.costs(0, -1), -1, 3);
        check.tells(x, "no cup", x.costs(4, 1), -1, 3);
    }

    private static void played() {
        CardsAndBans x = Check.ordinary();
        int[] more = {3, 2, 1, -1, -1};
        for (int i = 0; i < more.length; i++) {
            check.tells(x, "played(0, 0)", x.played(0, 0), i, more[i]);
            Check.play(x, 0, 0, i % 2 + 1, "");
        }
        check.tells(x, "played(1, 0)", x.played(1, 0), 3, -1);
        check.tells(x, "played(2, 0)", x.played(2, 0), 2, 1);
        check.tells(x, "played(0, 1)", x.played(0, 1), 0, -1);
        x.season();
        check.tells(x, "played(0, 0)", x.played(0, 0), 0, 3);
        check.tells(x, "no team", x.played(4, 0), -1, 3);
        check.tells(x, "no cup", x.played(0, 4), -1, 3);
    }

    private static void plan() {
        CardsAndBans x = banned();
        check.tells(x, "plan(0)", Check.plan(x, 0, "301,012,010,120,001,002,203"), 61, 5, 1);
        check.is("text is empty", x.count(10), 0);
        check.is("nothing changed", x.owed(0), 6);
        check.tells(x, "plan(0)", Check.plan(x, 0, "001,002,003,001,002,003"), 31, 5, 1);
        check.tells(x, "plan(3)", Check.plan(x, 3, "101,012,002,013"), 10, 2, 1);
        check.tells(x, "none", Check.plan(x, 0, ""), 0, 0, 6);
        StringBuilder all = new StringBuilder("001");
        for (int i = 1; i < 50; i++) {
            all.append(i < 45 ? ",223" : ",001");
        }
        Check.given(x, "0c0n2");
        check.tells(x, "fifty", Check.plan(x, 0, all.toString()), 1L | 31L << 45, 6, 2);
        check.tells(x, "no player", Check.plan(x, 6, "001"), -1, 6, 2);
        check.is("text is empty behind NONE", x.count(10), 0);
    }

    private static void returns() {
        CardsAndBans x = banned();
        check.tells(x, "returns(0)", Check.returns(x, 0, "012,001,002,003,112,010,020,030"), 7, 5);
        check.tells(x, "returns(3)", Check.returns(x, 3, "001,113,001"), 1, 1);
        check.tells(x, "returns(5)", Check.returns(x, 5, "001,201,020"), 2, 0);
        check.tells(x, "none may be played", Check.returns(x, 0, "001,012,002"), -2, 0);
        check.tells(x, "none of its team", Check.returns(x, 5, "001"), -2, 0);
        check.tells(x, "an empty one", Check.returns(x, 5, ""), -2, 0);
        check.tells(x, "no player", Check.returns(x, -1, ""), -1, 0);
        check.is("nothing changed", x.owed(0), 6);
    }

    private static void behind() {
        CardsAndBans x = banned();
        check.tells(x, "behind nothing", Check.behind(x, ""), 25, 0, 5);
        check.tells(x, "behind some", Check.behind(x, "001,001,202,001"), 1, 8, 2);
        check.tells(x, "behind more", Check.behind(x, "001,001,202,001,001"), 0, 9, 1);
        check.is("nothing changed", x.count(2), 5);
        check.is("no entries", x.count(6), 6);
        check.is("text is empty", x.count(10), 0);
    }

    private static void wrongLists() {
        CardsAndBans x = banned();
        x.fair();
        String[] texts = {"4", "0", "04", "00", "000", "004", "001,", "001;", "0012", ",", "001,a", "112,133"};
        int[] places = {0, 1, 1, 2, 2, 2, 4, 3, 3, 0, 4, 6};
        for (int i = 0; i < texts.length; i++) {
            check.tells(x, "plan " + texts[i], Check.plan(x, 9, texts[i]), -21 - places[i], 0, 1, 2, 3);
            check.tells(x, "returns " + texts[i], Check.returns(x, 9, texts[i]), -21 - places[i], 0, 1, 2, 3);
            check.tells(x, "behind " + texts[i], Check.behind(x, texts[i]), -21 - places[i], 0, 1, 2, 3);
            check.is("text is empty", x.count(10), 0);
        }
    }
}
