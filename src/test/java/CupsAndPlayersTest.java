/** Promises 1 to 9. */
public final class CupsAndPlayersTest {
    private static final Check check = new Check("CupsAndPlayersTest");
    private static final String AT_FIRST = "0o1x0;1o1x0;2o1x0;3o1x0";

    public static void main(String[] args) {
        newObject();
        signs();
        ends();
        rules();
        wrongRules();
        squads();
        nothingIsLeft();
        rule();
        written();
        team();
        squad();
        check.end();
    }

    private static void newObject() {
        CardsAndBans x = new CardsAndBans();
        for (int what = 0; what <= 10; what++) {
            check.is("count(" + what + ") of a new object", x.count(what), 0);
        }
        check.is("written at first", Check.written(x).equals(AT_FIRST), true);
        check.is("row(0) of a new object", Check.hasRow(x, 0), false);
        check.is("book(0, 0) of a new object", x.book(0, 0), -1);
        check.is("ban(0, 0) of a new object", x.ban(0, 0), -1);
        check.is("team(0) of a new object", x.team(0), -1);
        check.is("NONE", CardsAndBans.NONE, -1);
    }

    private static void signs() {
        CardsAndBans x = new CardsAndBans();
        check.is("sign, highest byte first", x.sign('0' << 24 | '1' << 16 | '2' << 8 | '3'), 4);
        check.is("squads of it", x.squads(), 4);
        check.is("team(0)", x.team(0), 0);
        check.is("team(3)", x.team(3), 3);
        for (int i = 1; i <= 50; i++) {
            check.is("sign to " + 4 * i, x.sign(-1), 4 * i);
        }
        check.is("sign above 200", x.sign(0), -1);
        check.is("signs behind a refused one", x.count(10), 200);
        check.is("end(197)", x.end(197), true);
        check.is("sign above 200 by one", x.sign(0), -1);
        check.is("end(196)", x.end(196), true);
        check.is("sign to 200 again", x.sign(0), 200);
        check.is("squads of signs 255", x.squads(), -21);
    }

    private static void ends() {
        CardsAndBans x = new CardsAndBans();
        x.sign(0);
        check.is("end(5) of 4", x.end(5), false);
        check.is("end(-1)", x.end(-1), false);
        check.is("end(min)", x.end(Integer.MIN_VALUE), false);
        check.is("signs stay", x.count(10), 4);
        check.is("end(4) of 4", x.end(4), true);
        check.is("end(2)", x.end(2), true);
        check.is("signs of end(2)", x.count(10), 2);
        check.is("end(3) of 2", x.end(3), false);
        check.is("end(0)", x.end(0), true);
        check.is("end(0) of none", x.end(0), true);
    }

    private static void rules() {
        CardsAndBans x = new CardsAndBans();
        check.is("rules of one", Check.rules(x, "0o3x6:5/1,10/2"), 1);
        check.is("text is empty", x.count(10), 0);
        check.is("written", Check.written(x).equals("0o3x6:5/1,10/2;1o1x0;2o1x0;3o1x0"), true);
        check.is("rules of four", Check.rules(x, "3a9x20:17/9,18/9,19/9,20/9;2o1x0:1/1;0a5x10;1o2x19"), 4);
        check.is("written", Check.written(x).equals("0a5x10;1o2x19;2o1x0:1/1;3a9x20:17/9,18/9,19/9,20/9"), true);
        check.is("rules of none", Check.rules(x, ""), 0);
        check.is("written", Check.written(x).equals(AT_FIRST), true);

        x = Check.ordinary();
        Check.play(x, 0, 0, 1, "y0,r2");
        x.squad(0);
        check.is("rules in between", Check.rules(x, "2o1x1"), 1);
        check.is("bans stay", x.count(1), 1);
        check.is("cautions stay", x.cautions(0, 0), 1);
        check.is("acts stay", x.count(5), 1);
        check.is("undo", x.undo(), 0);
        check.is("rules are not undone", x.rule(2, 2), 1);
    }

    private static void wrong(String text, int place) {
        CardsAndBans x = new CardsAndBans();
        Check.rules(x, "2a7x7:7/7");
        x.fair();
        check.tells(x, "rules " + text, Check.rules(x, text), -21 - place, 0, 1, 2, 3);
        check.is("rules stay", Check.written(x).equals("0o1x0;1o1x0;2a7x7:7/7;3o1x0"), true);
        check.is("text is empty behind a refused one", x.count(10), 0);
    }

    private static void wrongRules() {
        wrong("4", 0);
        wrong(";", 0);
        wrong(" ", 0);
        wrong("0", 1);
        wrong("0b", 1);
        wrong("0O1x0", 1);
        wrong("0o", 2);
        wrong("0o0x1", 2);
        wrong("0o1", 3);
        wrong("0o12", 3);
        wrong("0o1x", 4);
        wrong("0o1x:", 4);
        wrong("0o1x00", 5);
        wrong("0o1x21", 5);
        wrong("0o1x30", 5);
        wrong("0o1x201", 6);
        wrong("0o1x20x", 6);
        wrong("0o1x0;", 6);
        wrong("0o1x0;;", 6);
        wrong("0o1x0;0o1x0", 6);
        wrong("0o1x0;1o1x0;2o1x0;3o1x0;", 24);
        wrong("0o1x0;1o1x0;2o1x0;3o1x0;2", 24);
        wrong("0o1x0:", 6);
        wrong("0o1x0:;", 6);
        wrong("0o1x0:0/1", 6);
        wrong("0o1x0:05/1", 6);
        wrong("0o1x0:21/1", 7);
        wrong("0o1x0:99/1", 7);
        wrong("0o1x0:5", 7);
        wrong("0o1x0:5,", 7);
        wrong("0o1x0:123/1", 8);
        wrong("0o1x0:5/", 8);
        wrong("0o1x0:5/0", 8);
        wrong("0o1x0:5/11", 9);
        wrong("0o1x0:5/1,", 10);
        wrong("0o1x0:5/1,5/1", 10);
        wrong("0o1x0:5/1,4", 10);
        wrong("0o1x0:5/1,2", 10);
        wrong("0o1x0:5/1,21/1", 11);
        wrong("0o1x0:12/1,12/1", 12);
        wrong("0o1x0:12/1,11/1", 12);
        wrong("0o1x0:20/1,5/1", 11);
        wrong("0o1x0:1/1,2/1,3/1,4/1,5/1", 21);
        wrong("0o1x0:1/1,2/1,3/1,4/1,", 21);
        wrong("0o1x0:1/1;0o1x0", 10);
        wrong("0o1x0:1/1:", 9);
    }

    private static void squads() {
        CardsAndBans x = Check.ordinary();
        Check.play(x, 0, 0, 1, "y0,r2");
        x.bans(3, 1, 2);
        x.appeal(1);
        x.keeps();
        x.fair();
        check.tells(x, "squads of a wrong text", Check.squads(x, "0124"), -24, 2, 3, 0, 1);
        check.is("players stay", x.count(0), 6);
        check.is("squads of 13", Check.squads(x, "0123012301230"), -33);
        check.is("squads of 13, the 5th wrong", Check.squads(x, "0123x12301230"), -25);
        check.is("squads of 12", Check.squads(x, "012301230123"), 12);
        int[] due = {12, 0, 0, 0, 0, 0, 0, 0, 0, 4, 0};
        for (int what = 0; what < due.length; what++) {
            check.is("count(" + what + ") behind squads", x.count(what), due[what]);
        }
        check.is("played", x.played(0, 0), 0);
        check.is("points", x.points(0), 0);
        check.is("points", x.points(1), 0);
        check.is("cards", x.cards(2), 0);
        check.tells(x, "told", x.told(2), 0, 0, 0, 0, 0, 0, 0);
        check.is("back", x.back(), -2);
        check.is("undo", x.undo(), -2);
        check.is("rules stay", x.rule(0, 1), 3);
        check.is("a ban's number", x.bans(11, 0, 1), 0);
        check.is("undo", x.undo(), 0);
        check.is("squads anew", Check.squads(x, "21"), 2);
        check.is("in place of those there were", x.team(0), 2);
        check.is("in place of those there were", x.team(2), -1);
        check.is("squads of none", Check.squads(x, ""), 0);
        check.is("players", x.count(0), 0);
        check.is("a player", x.cautions(0, 0), -1);
    }

    /** Nothing of what was ahead of squads() shows through in numbers that are used again. */
    private static void nothingIsLeft() {
        CardsAndBans x = Check.ordinary();
        Check.given(x, "0c1n9,0c1n9,1c1n9,1c0n9");
        Check.play(x, 0, 0, 1, "y2,y3");
        x.appeal(0);
        x.appeal(1);
        x.decide(1, false, 3);
        Check.squads(x, "0123");
        check.tells(x, "open", x.open(0), 0);
        check.tells(x, "frees", x.frees(0, 0), 0);
        check.tells(x, "owed", x.owed(0), 0, 0, 0, 0, 0);
        check.tells(x, "misses", x.misses(0, 1), 0, 0);
        check.tells(x, "sum", x.sum(1), 0, 0, 0, 0);
        check.is("longest", x.longest(1), -2);
        check.is("decides", x.decides(true), -2);
        check.tells(x, "out", x.out(0, 0), 0, 0);
        check.is("out of some", x.count(8), 0);
        check.is("bans", x.bans(0, 1, 2), 0);
        int[] due = {0, 1, 2, 1, 0, 2, 0, 0};
        for (int what = 0; what < due.length; what++) {
            check.is("ban(0, " + what + ") anew", x.ban(0, what), due[what]);
        }
        check.is("bans", x.bans(0, 0, 2), 1);
        check.is("no appeal", x.ban(1, 4), 0);
        check.tells(x, "most", x.most(0), 0, 0, 4);
    }

    private static void rule() {
        CardsAndBans x = new CardsAndBans();
        Check.rules(x, "3a9x20:3/4,5/6,17/8,20/9;1o2x7:4/1");
        int[] due = {1, 9, 20, 4, 3, 4, 5, 6, 17, 8, 20, 9, -1};
        for (int what = 0; what < due.length; what++) {
            check.is("rule(3, " + what + ")", x.rule(3, what), due[what]);
        }
        check.is("rule(1, 5)", x.rule(1, 5), 1);
        check.is("rule(1, 6)", x.rule(1, 6), -1);
        check.is("rule(0, 3)", x.rule(0, 3), 0);
        check.is("rule(0, 4)", x.rule(0, 4), -1);
        check.is("rule(0, -1)", x.rule(0, -1), -1);
        check.is("rule(-1, 0)", x.rule(-1, 0), -1);
        check.is("rule(4, 0)", x.rule(4, 0), -1);
        check.is("rule(0, max)", x.rule(0, Integer.MAX_VALUE), -1);
    }

    private static void written() {
        CardsAndBans x = new CardsAndBans();
        String longest = "0a9x20:17/9,18/9,19/9,20/9;1a9x20:17/9,18/9,19/9,20/9;"
            + "2a9x20:17/9,18/9,19/9,20/9;3a9x20:17/9,18/9,19/9,20/9";
        check.is("rules", Check.rules(x, longest), 4);
        check.is("written(NONE)", x.written(-1), longest.length());
        check.is("written", Check.written(x).equals(longest), true);
        check.is("written behind the last", x.written(longest.length()), -1);
        check.is("written(-2)", x.written(-2), -1);
        check.is("rules as written", Check.rules(x, Check.written(x)), 4);
        check.is("text is not written to", x.count(10), 0);
    }

    private static void team() {
        CardsAndBans x = Check.ordinary();
        x.bans(4, 0, 1);
        x.bans(4, 1, 2);
        x.bans(4, 2, 2);
        x.appeal(2);
        x.pardon(1, 2);
        check.tells(x, "team(4)", x.team(4), 2, 2, 3);
        check.tells(x, "team(6)", x.team(6), -1, 2, 3);
        check.tells(x, "team(-1)", x.team(-1), -1, 2, 3);
        check.tells(x, "team(0)", x.team(0), 0, 0, 0);
    }

    private static void squad() {
        CardsAndBans x = Check.ordinary();
        check.tells(x, "squad(2)", x.squad(2), 48, 2);
        check.tells(x, "squad(4)", x.squad(4), -1, 2);
        check.tells(x, "squad(-1)", x.squad(-1), -1, 2);
        check.tells(x, "squad(3)", x.squad(3), 0, 0);
    }
}
