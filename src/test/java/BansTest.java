/** Promises 34 to 40. */
public final class BansTest {
    private static final Check check = new Check("BansTest");

    public static void main(String[] args) {
        ban();
        open();
        frees();
        sum();
        worst();
        most();
        longest();
        check.end();
    }

    private static void ban() {
        CardsAndBans x = Check.ordinary();
        Check.play(x, 2, 2, 3, "");
        x.bans(0, 1, 4);
        Check.play(x, 0, 0, 1, "");
        x.appeal(0);
        int[] due = {0, 1, 3, 1, 1, 4, 1, 1, -1};
        for (int what = 0; what < due.length; what++) {
            check.is("ban(0, " + what + ")", x.ban(0, what), due[what]);
        }
        check.is("ban(0, -1)", x.ban(0, -1), -1);
        check.is("ban(1, 0)", x.ban(1, 0), -1);
        check.is("ban(-1, 0)", x.ban(-1, 0), -1);
        x.decide(0, false, 2);
        check.is("left", x.ban(0, 2), 5);
        check.is("appeal", x.ban(0, 4), 2);
        check.is("at first", x.ban(0, 5), 4);
    }

    private static void open() {
        CardsAndBans x = Check.ordinary();
        Check.given(x, "1c0n1,0c0n1,1c1n1,1c2n2");
        x.appeal(3);
        x.pardon(0, 1);
        check.tells(x, "open(1)", x.open(1), 2, 2, 3);
        check.tells(x, "open(2)", x.open(2), 0);
        check.tells(x, "open(0)", x.open(0), 1, 1);
        check.tells(x, "open(6)", x.open(6), -1, 1);
        Check.squads(x, "0");
        Check.fill(x, 100);
        check.is("a hundred", x.open(0), 100);
        check.is("the last", x.row(99), 99);
        check.is("no more", Check.hasRow(x, 100), false);
    }

    private static void frees() {
        CardsAndBans x = Check.ordinary();
        Check.given(x, "0c0n1,0c1n1,0c2n1,0c0n3");
        check.tells(x, "frees(0, 0)", x.frees(0, 0), 3, 0, 1, 3);
        check.tells(x, "frees(0, 3)", x.frees(0, 3), 1, 1);
        check.tells(x, "frees(1, 0)", x.frees(1, 0), 0);
        x.appeal(0);
        check.tells(x, "a pending one", x.frees(0, 0), 2, 1, 3);
        x.decide(0, false, 0);
        check.tells(x, "a decided one", x.frees(0, 0), -2, 1, 3);
        check.tells(x, "of another cup", x.frees(0, 2), 2, 1, 2);
        check.tells(x, "no player", x.frees(6, 0), -1, 1, 2);
        check.tells(x, "no cup", x.frees(0, 4), -1, 1, 2);
    }

    private static void sum() {
        CardsAndBans x = Check.ordinary();
        Check.given(x, "0c0n1,0c0n3,2c0n2,2c1n2");
        Check.play(x, 0, 0, 1, "");
        Check.play(x, 0, 0, 1, "");
        x.appeal(1);
        x.decide(1, false, 3);
        check.tells(x, "sum(0)", x.sum(0), 3, 1, 6, 4);
        check.tells(x, "sum(1)", x.sum(1), 1, 1, 2, 0);
        check.tells(x, "sum(2)", x.sum(2), 0, 0, 0, 0);
        check.tells(x, "sum(4)", x.sum(4), -1, 0, 0, 0);
        check.tells(x, "sum(-1)", x.sum(-1), -1, 0, 0, 0);
    }

    private static void worst() {
        CardsAndBans x = Check.ordinary();
        check.tells(x, "worst of none", x.worst(), 0, 0);
        Check.given(x, "4c0n3,2c1n2,2c0n1");
        check.tells(x, "worst, equal ones", x.worst(), 2, 3);
        x.appeal(0);
        x.pardon(1, 1);
        check.tells(x, "worst, pending too", x.worst(), 4, 3);
        Check.squads(x, "");
        check.tells(x, "no players", x.worst(), -1, 3);
    }

    private static void most() {
        CardsAndBans x = Check.ordinary();
        check.tells(x, "most of none", x.most(0), 0, 0, 6);
        Check.play(x, 0, 0, 1, "y1,y3");
        check.tells(x, "equal ones", x.most(0), 1, 1, 2);
        Check.play(x, 0, 2, 1, "y3");
        check.tells(x, "one", x.most(0), 3, 2, 1);
        check.tells(x, "another cup", x.most(1), 0, 0, 6);
        check.tells(x, "no cup", x.most(4), -1, 0, 6);
        Check.squads(x, "");
        check.tells(x, "no players", x.most(0), -2, 0, 6);
        check.tells(x, "no cup, no players", x.most(-1), -1, 0, 6);
    }

    private static void longest() {
        CardsAndBans x = Check.ordinary();
        Check.given(x, "0c0n2,1c0n3,2c0n3,3c1n9");
        check.tells(x, "longest(0)", x.longest(0), 1, 3, 0);
        Check.play(x, 0, 0, 1, "");
        check.tells(x, "a third", x.longest(0), 1, 3, 333);
        x.appeal(1);
        x.decide(1, false, 3);
        for (int i = 0; i < 5; i++) {
            Check.play(x, 0, 0, 2, "");
        }
        check.tells(x, "more than at first", x.longest(0), 1, 3, 2000);
        check.tells(x, "longest(1)", x.longest(1), 3, 9, 111);
        x.bans(5, 3, 1);
        check.tells(x, "of one match", x.longest(3), 4, 1, 0);
        Check.play(x, 3, 2, 1, "");
        check.tells(x, "served", x.longest(3), 4, 1, 1000);
        check.tells(x, "one more of all", x.longest(1), 3, 9, 222);
        x.undo();
        x.longest(1);
        check.tells(x, "none of it", x.longest(2), -2, 9, 111);
        check.tells(x, "no cup", x.longest(4), -1, 9, 111);
    }
}
