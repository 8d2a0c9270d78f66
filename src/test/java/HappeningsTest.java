/** Promises 10 to 19. */
public final class HappeningsTest {
    private static final Check check = new Check("HappeningsTest");

    public static void main(String[] args) {
        cautionsAddUp();
        twoInOneMatch();
        reds();
        serving();
        rounds();
        refusedCards();
        tooManyBansInMatch();
        move();
        swaps();
        bans();
        given();
        appeal();
        decide();
        decides();
        pardon();
        season();
        check.end();
    }

    private static void cautionsAddUp() {
        CardsAndBans x = new CardsAndBans();
        Check.squads(x, "001122");
        Check.rules(x, "0o3x0:2/1,4/2;1a2x0:1/9");
        check.tells(x, "play", Check.play(x, 0, 0, 1, "y0,y2"), 0, 1, 0, 0);
        check.is("text is empty", x.count(10), 0);
        check.tells(x, "play", Check.play(x, 0, 0, 1, "y0,y2"), 2, 2, 0, 0);
        check.is("first ban", x.ban(0, 0), 0);
        check.is("second ban", x.ban(1, 0), 2);
        check.is("its matches", x.ban(1, 2), 1);
        check.is("its kind", x.ban(1, 3), 0);
        check.tells(x, "play", Check.play(x, 0, 0, 2, "y1"), 0, 3, 1, 1);
        check.tells(x, "play", Check.play(x, 0, 1, 2, ""), 0, 4, 1, 4);
        check.is("third caution", Check.play(x, 0, 0, 1, "y0,y2"), 0);
        check.is("fourth caution", Check.play(x, 0, 0, 1, "y0"), 1);
        check.is("matches of the second step", x.ban(2, 5), 2);
        check.is("the match it came in", x.ban(2, 6), 6);
        check.is("a cup for itself", x.cautions(0, 1), 0);
        check.is("all cup", Check.play(x, 1, 1, 2, "y3"), 1);
        check.is("a ban for all cups", x.ban(3, 3), 1);
        check.is("out of another cup", x.may(3, 2), 0);
    }

    private static void twoInOneMatch() {
        CardsAndBans x = Check.ordinary();
        check.tells(x, "two cautions", Check.play(x, 0, 0, 1, "y0,y1,y0"), 1, 1, 0, 0);
        check.is("one does not count", x.cautions(0, 0), 0);
        check.is("the other counts", x.cautions(1, 0), 1);
        check.is("one match", x.ban(0, 5), 1);
        check.is("sent off", Check.play(x, 0, 0, 2, "y1,y1,y1"), -3);
        check.is("a step and a second one", Check.play(x, 0, 0, 2, "y1,y1"), 2);
        check.is("the ban of the step stays", x.ban(1, 2), 1);
        check.is("the second ban", x.ban(2, 5), 1);
        check.is("one less", x.cautions(1, 0), 1);
        check.tells(x, "cards", x.cards(1), 3, 0, 1);

        x = new CardsAndBans();
        Check.squads(x, "01");
        Check.rules(x, "0o3x0:1/4");
        check.is("a step twice", Check.play(x, 0, 0, 1, "y0,y0"), 2);
        x.pardon(0, 4);
        x.pardon(1, 1);
        check.is("a step again", Check.play(x, 0, 0, 1, "y0"), 1);
    }

    private static void reds() {
        CardsAndBans x = Check.ordinary();
        check.is("a red", Check.play(x, 0, 1, 0, "r0,r3"), 2);
        check.is("its matches", x.ban(0, 2), 3);
        check.is("caution and red", Check.play(x, 1, 1, 2, "y2,r2"), 1);
        check.is("the caution counts", x.cautions(2, 1), 1);
        check.is("red of cup 1", x.ban(2, 2), 2);
        check.is("sent off", Check.play(x, 2, 0, 2, "r4,r4"), -3);
        check.is("sent off", Check.play(x, 2, 0, 2, "r4,y4"), -3);
    }

    private static void serving() {
        CardsAndBans x = Check.ordinary();
        Check.given(x, "0c0n1,0c1n1,2c0n2,4c0n1");
        check.tells(x, "serving", Check.play(x, 0, 0, 1, ""), 0, 1, 2, 5);
        check.is("the first of two", x.ban(0, 2), 0);
        check.is("the second waits", x.ban(1, 2), 1);
        check.is("another team does not serve", x.ban(3, 2), 1);
        check.is("what was served", x.book(2, 0), 1);
        check.is("is over", x.book(1, 0), 2);
        check.is("its match", x.book(1, 2), 1);
        check.is("not over", x.book(0, 0), 1);
        check.is("its ban", x.book(0, 1), 2);
        check.tells(x, "another cup", Check.play(x, 3, 0, 1, "y2"), 0, 2, 1, 1);
        check.is("all is served there", x.ban(1, 7), 1);
        check.is("own is not", x.ban(2, 7), 1);

        x = Check.ordinary();
        Check.given(x, "0c0n1,0c0n2");
        x.appeal(0);
        check.tells(x, "pending one aside", Check.play(x, 0, 0, 1, ""), 0, 1, 1, 1);
        check.is("pending", x.ban(0, 2), 1);
        check.is("the next", x.ban(1, 2), 1);
    }

    private static void rounds() {
        CardsAndBans x = Check.ordinary();
        Check.play(x, 0, 0, 1, "y0");
        Check.play(x, 0, 2, 1, "y2,y4");
        check.is("cautions", x.count(7), 3);
        Check.play(x, 0, 0, 1, "y1,y3");
        check.is("wiped for team 1 alone", x.count(7), 3);
        check.is("cautions(0, 0)", x.cautions(0, 0), 1);
        check.is("cautions(2, 0)", x.cautions(2, 0), 0);
        check.is("cautions(4, 0)", x.cautions(4, 0), 1);
        Check.play(x, 0, 1, 2, "y2");
        check.is("never more wiped", x.cautions(2, 0), 1);
        Check.play(x, 0, 0, 2, "y0");
        check.is("a ban and wiped", x.ban(0, 5), 1);
        check.is("wiped", x.count(7), 1);
        Check.play(x, 2, 0, 2, "y4");
        check.is("no round, no wiping", x.cautions(4, 2), 1);

        Check.squads(x, "0011");
        Check.rules(x, "0o1x1;1o1x2");
        check.is("round 1", Check.play(x, 0, 0, 1, "y0,y2"), 0);
        check.is("wiped at once", x.count(7), 0);
        Check.play(x, 0, 0, 1, "y0,y1,y2,y3");
        Check.play(x, 1, 0, 1, "y0,y1,y2,y3");
        check.is("eight", x.count(7), 8);
        Check.play(x, 1, 0, 2, "");
        check.is("of this team alone", x.count(7), 6);
        check.is("of this cup alone", x.cautions(0, 0), 1);
        check.is("of this cup alone", x.cautions(1, 0), 1);
        check.is("wiped", x.cautions(0, 1), 0);
        check.is("wiped", x.cautions(1, 1), 0);
    }

    private static void refusedCards() {
        CardsAndBans x = Check.ordinary();
        Check.given(x, "0c0n2");
        x.fair();
        String[] texts = {"x", "y", "y6", "y05", "y12", "y65", "y1,", "y1;", ",y1", "y1 ", "r1,b"};
        int[] places = {0, 1, 1, 2, 2, 2, 3, 2, 0, 2, 3};
        for (int i = 0; i < texts.length; i++) {
            check.is("play " + texts[i], Check.play(x, 9, 9, 9, texts[i]), -21 - places[i]);
            check.is("text is empty", x.count(10), 0);
        }
        check.is("no cup", Check.play(x, -1, 0, 1, "y4"), -1);
        check.is("no team a", Check.play(x, 0, 4, 1, "y4"), -1);
        check.is("no team b", Check.play(x, 0, 0, -1, "y4"), -1);
        check.is("a is b", Check.play(x, 0, 1, 1, "y4"), -1);
        check.is("text is empty behind NONE", x.count(10), 0);
        check.is("of neither", Check.play(x, 0, 0, 1, "y1,y4"), -2);
        check.is("was out", Check.play(x, 0, 0, 1, "y1,y0,y4"), -3);
        check.is("may in another cup", Check.play(x, 2, 0, 1, "y0"), 0);
        check.is("undo", x.undo(), 1);
        check.tells(x, "nothing changed", x.count(4), 0, 1, 0, 0);
        check.is("nothing served", x.ban(0, 7), 0);
        check.is("no cautions", x.count(7), 0);
        check.is("no points", x.points(0), 0);
        check.is("entries", x.count(6), 1);
        Check.play(x, 0, 0, 1, "");
        Check.play(x, 0, 0, 1, "");
        check.is("free again", Check.play(x, 0, 0, 1, "y0"), 0);

        Check.squads(x, "012301230123");
        check.is("players of two digits", Check.play(x, 3, 2, 3, "y10,r11"), 1);
        check.is("there is no 12", Check.play(x, 3, 2, 3, "y12"), -23);
        check.is("three digits", Check.play(x, 3, 2, 3, "y102"), -24);
        Check.squads(x, "");
        check.is("no players", Check.play(x, 0, 0, 1, "y0"), -22);
        check.tells(x, "a match of nobody", Check.play(x, 0, 0, 1, ""), 0, 1, 0, 0);
    }

    private static void tooManyBansInMatch() {
        CardsAndBans x = Check.ordinary();
        Check.fill(x, 99);
        check.is("the hundredth and one more", Check.play(x, 0, 1, 2, "r2,r3"), -4);
        check.is("a wrong card behind", Check.play(x, 0, 1, 2, "r2,r3,y0"), -4);
        check.is("a wrong card ahead", Check.play(x, 0, 1, 2, "r2,y0,r3"), -2);
        check.is("nothing changed", x.count(1), 99);
        check.is("the hundredth", Check.play(x, 0, 1, 2, "r2,y3"), 1);
        check.is("by a step", Check.play(x, 0, 1, 2, "y3"), -4);
        check.is("by a second one", Check.play(x, 1, 0, 1, "y1,y1"), -4);
        check.is("none needed", Check.play(x, 1, 0, 1, "y1"), 0);
    }

    private static void move() {
        CardsAndBans x = Check.ordinary();
        Check.play(x, 0, 0, 1, "y0,r2");
        check.is("move", x.move(2, 3), 1);
        check.is("where it is", x.team(2), 3);
        check.is("its ban", x.may(2, 0), 0);
        check.is("move(0, 1)", x.move(0, 1), 0);
        check.is("its cautions", x.cautions(0, 0), 1);
        check.is("again", x.move(0, 1), -2);
        check.is("no player", x.move(6, 1), -1);
        check.is("no player", x.move(-1, 1), -1);
        check.is("no team", x.move(0, 4), -1);
        check.is("no team", x.move(0, -1), -1);
        check.is("acts", x.count(5), 3);
        check.is("served with the new team", Check.play(x, 0, 3, 2, ""), 0);
        check.is("one less", x.ban(0, 2), 2);
        check.is("points stay with the old team", x.points(1), 3);
        check.is("points of the new one", x.points(3), 0);
    }

    private static void swaps() {
        CardsAndBans x = Check.ordinary();
        check.is("swaps", x.swaps(0, 5), 2);
        check.is("team(0)", x.team(0), 2);
        check.is("team(5)", x.team(5), 0);
        check.is("of one team", x.swaps(0, 4), -2);
        check.is("itself", x.swaps(0, 0), -2);
        check.is("no player", x.swaps(0, 6), -1);
        check.is("no player", x.swaps(-1, 0), -1);
        check.is("acts", x.count(5), 1);
    }

    private static void bans() {
        CardsAndBans x = Check.ordinary();
        check.is("bans", x.bans(1, 1, 9), 0);
        check.is("bans", x.bans(1, 0, 1), 1);
        check.is("matches", x.ban(0, 2), 9);
        check.is("kind", x.ban(0, 3), 1);
        check.is("kind", x.ban(1, 3), 0);
        check.is("match", x.ban(0, 6), 0);
        check.is("n 0", x.bans(1, 0, 0), -1);
        check.is("n 10", x.bans(1, 0, 10), -1);
        check.is("no player", x.bans(6, 0, 1), -1);
        check.is("no cup", x.bans(0, 4, 1), -1);
        check.is("entries", x.count(6), 2);
        Check.rules(x, "0a1x0");
        check.is("kind as it came", x.ban(1, 3), 0);
        check.is("kind as it came", x.ban(0, 3), 1);
        Check.fill(x, 97);
        check.is("the hundredth", x.bans(1, 0, 1), 99);
        check.is("one more", x.bans(1, 0, 1), -4);
        check.is("one more, n 0", x.bans(1, 0, 0), -1);
    }

    private static void given() {
        CardsAndBans x = Check.ordinary();
        check.is("given", Check.given(x, "5c1n9,0c0n1"), 2);
        check.is("player", x.ban(0, 0), 5);
        check.is("cup", x.ban(0, 1), 1);
        check.is("matches", x.ban(0, 2), 9);
        check.is("kind", x.ban(0, 3), 1);
        check.is("none, an act", Check.given(x, ""), 0);
        check.is("acts", x.count(5), 2);
        String[] texts = {"c", "6c0n1", "00c0n1", "10c0n1", "1", "1d", "1c4n1", "1c", "1c0m1", "1c0n", "1c0n0", "1c0n11",
            "1c0n1,", "1c0n1;"};
        int[] places = {0, 0, 1, 1, 1, 1, 2, 2, 3, 4, 4, 5, 6, 5};
        for (int i = 0; i < texts.length; i++) {
            check.is("given " + texts[i], Check.given(x, texts[i]), -21 - places[i]);
            check.is("text is empty", x.count(10), 0);
        }
        check.is("bans", x.count(1), 2);
        Check.fill(x, 96);
        check.is("three above 98", Check.given(x, "1c0n1,1c0n1,1c0n1"), -4);
        check.is("none came", x.count(1), 98);
        check.is("a wrong sign first", Check.given(x, "1c0n1,1c0n1,1c0n0"), -37);
        check.is("two", Check.given(x, "1c0n1,1c0n1"), 2);
        check.is("none of a hundred", Check.given(x, ""), 0);
        check.is("one of a hundred", Check.given(x, "1c0n1"), -4);
        Check.squads(x, "012301230123");
        check.is("two digits", Check.given(x, "11c3n2,10c2n3"), 2);
        check.is("player 11", x.ban(0, 0), 11);
    }

    private static void appeal() {
        CardsAndBans x = Check.ordinary();
        Check.given(x, "0c0n2,0c0n1");
        check.is("no ban", x.appeal(2), -1);
        check.is("no ban", x.appeal(-1), -1);
        check.is("appeal", x.appeal(0), 2);
        check.is("pending", x.ban(0, 4), 1);
        check.is("entry", x.book(0, 0), 4);
        check.is("its ban", x.book(0, 1), 0);
        check.is("again", x.appeal(0), -3);
        x.decide(0, false, 0);
        check.is("decided", x.appeal(0), -3);
        x.pardon(0, 2);
        check.is("not open comes first", x.appeal(0), -2);
        x.pardon(1, 1);
        check.is("not open", x.appeal(1), -2);
    }

    private static void decide() {
        CardsAndBans x = Check.ordinary();
        Check.given(x, "0c0n9,0c0n1");
        check.is("not pending", x.decide(0, true, 0), -2);
        check.is("no ban", x.decide(2, true, 0), -1);
        check.is("another more first", x.decide(0, false, 4), -1);
        check.is("another more first", x.decide(0, false, -1), -1);
        check.is("granted and more", x.decide(0, true, 1), -1);
        x.appeal(0);
        x.appeal(1);
        check.is("not granted", x.decide(0, false, 3), 12);
        check.is("decided", x.ban(0, 4), 2);
        check.is("at first", x.ban(0, 5), 9);
        check.is("entry", x.book(0, 0), 5);
        check.is("again", x.decide(0, false, 3), -2);
        check.is("granted", x.decide(1, true, 0), 0);
        check.is("entry", x.book(0, 0), 3);
        check.is("not open", x.ban(1, 2), 0);
        check.is("not served", x.ban(1, 7), 0);
    }

    private static void decides() {
        CardsAndBans x = Check.ordinary();
        Check.given(x, "0c0n2,1c0n3,2c0n4");
        check.is("none", x.decides(false), -2);
        x.appeal(2);
        x.appeal(0);
        check.is("not granted", x.decides(false), 2);
        check.is("left", x.ban(0, 2), 2);
        check.is("entries by numbers", x.book(0, 1), 2);
        check.is("entries by numbers", x.book(1, 1), 0);
        check.is("entries", x.book(1, 0), 5);
        check.is("none more", x.decides(true), -2);
        check.is("undone", x.undo(), 3);
        check.is("granted", x.decides(true), 2);
        check.is("left", x.ban(2, 2), 0);
        check.is("untouched", x.ban(1, 2), 3);
        check.is("untouched", x.ban(1, 4), 0);
        check.is("entries", x.book(1, 0), 3);
    }

    private static void pardon() {
        CardsAndBans x = Check.ordinary();
        Check.given(x, "0c0n3,1c0n2");
        x.appeal(0);
        check.is("no ban", x.pardon(2, 1), -1);
        check.is("n 0", x.pardon(0, 0), -1);
        check.is("n above left", x.pardon(0, 4), -1);
        check.is("a part", x.pardon(0, 1), 2);
        check.is("pending still", x.ban(0, 4), 1);
        check.is("no entry", x.count(6), 3);
        check.is("all", x.pardon(0, 2), 0);
        check.is("decided", x.ban(0, 4), 2);
        check.is("entry", x.book(0, 0), 3);
        check.is("not open", x.pardon(0, 1), -2);
        check.is("not open, n 9", x.pardon(0, 9), -2);
        check.is("not open, n 0", x.pardon(0, 0), -1);
        check.is("without an appeal", x.pardon(1, 2), 0);
        check.is("none was made", x.ban(1, 4), 0);
        check.is("not served", x.ban(1, 7), 0);
        check.is("acts", x.count(5), 5);
    }

    private static void season() {
        CardsAndBans x = Check.ordinary();
        Check.play(x, 0, 0, 1, "y0,y1,r2");
        Check.play(x, 1, 0, 1, "y0");
        check.is("season", x.season(), 3);
        check.is("no cautions", x.count(7), 0);
        check.is("none played", x.played(0, 0), 0);
        check.is("none played", x.played(1, 1), 0);
        check.is("bans stay", x.ban(0, 2), 3);
        check.is("matches stay", x.count(4), 2);
        check.is("points stay", x.points(0), 3);
        check.is("again", x.season(), 0);
        check.is("acts", x.count(5), 4);
        x.undo();
        x.undo();
        check.is("cautions again", x.count(7), 3);
        check.is("played again", x.played(0, 0), 1);
    }
}
