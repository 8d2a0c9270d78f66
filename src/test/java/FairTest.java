/** Promises 41 to 43. */
public final class FairTest {
    private static final Check check = new Check("FairTest");

    public static void main(String[] args) {
        CardsAndBans x = Check.ordinary();
        check.tells(x, "fair at first", x.fair(), 0, 0, 1, 2, 3);
        Check.play(x, 2, 0, 1, "y0,y0,y1,r1,r2,y3");
        check.tells(x, "points(0)", x.points(0), 6, 3, 1, 2);
        check.tells(x, "points(1)", x.points(1), 4, 1, 1, 1);
        check.tells(x, "points(2)", x.points(2), 0, 0, 0, 0);
        check.tells(x, "no team", x.points(4), -1, 0, 0, 0);
        check.tells(x, "no team", x.points(-1), -1, 0, 0, 0);
        check.tells(x, "fair", x.fair(), 2, 2, 3, 1, 0);
        check.tells(x, "cards(0)", x.cards(0), 2, 0, 1);
        check.tells(x, "cards(1)", x.cards(1), 1, 1, 1);
        check.tells(x, "cards(3)", x.cards(3), 1, 0, 0);
        check.tells(x, "no player", x.cards(6), -1, 0, 0);
        x.move(3, 3);
        x.season();
        check.tells(x, "of players as they were", x.points(1), 4, 1, 1, 1);
        Check.play(x, 1, 3, 2, "y3,r3,y5");
        check.tells(x, "of the new team", x.points(3), 4, 1, 1, 1);
        check.tells(x, "cards go with a player", x.cards(3), 2, 1, 1);
        check.tells(x, "equal ones", x.fair(), 2, 2, 1, 3, 0);
        x.undo();
        check.tells(x, "undone", x.points(3), 0, 0, 0, 0);
        check.tells(x, "undone", x.cards(3), 1, 0, 0);
        check.end();
    }
}
