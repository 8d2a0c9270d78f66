/** As much as there can be of everything, and every call with arguments in and around what there is. */
public final class FullTest {
    private static final Check check = new Check("FullTest");
    private static final int[] NUMBERS = {Integer.MIN_VALUE, -22, -2, -1, 0, 1, 2, 3, 4, 5, 6, 7, 8, 9, 10, 11, 12, 13, 40,
        41, 59, 60, 61, 99, 100, 101, 199, 200, 201, Integer.MAX_VALUE};

    public static void main(String[] args) {
        answers();
        fullSquads();
        everyCall();
        allTexts();
        check.end();
    }

    private static CardsAndBans full() {
        CardsAndBans x = new CardsAndBans();
        Check.squads(x, "012301230123");
        Check.rules(x, "0a9x20:17/9,18/9,19/9,20/9;1a9x20:17/9,18/9,19/9,20/9;"
            + "2a9x20:17/9,18/9,19/9,20/9;3a9x20:1/9,2/9,3/9,4/9");
        for (int i = 0; i < 100; i++) {
            x.bans(i % 12, i % 4, 9);
        }
        x.keeps();
        return x;
    }

    private static void answers() {
        CardsAndBans x = full();
        check.is("bans", x.count(1), 100);
        check.is("entries", x.count(6), 60);
        check.is("out of some", x.count(8), 4095);
        check.tells(x, "owed(11)", x.owed(11), 72, 72, 72, 72, 72);
        check.tells(x, "until(3, 0)", x.until(3, 0), 81, 8);
        check.tells(x, "worst", x.worst(), 0, 81);
        check.tells(x, "behind", Check.behind(x, "001,123"), 4095, 12, 100);
        check.tells(x, "a match", Check.play(x, 3, 2, 3, ""), 0, 1, 6, 0xccc);
        for (int ban = 0; ban < 100; ban++) {
            x.appeal(ban);
        }
        check.is("pending", x.count(3), 100);
        check.is("nobody is out", x.count(8), 0);
        check.is("one more", Check.play(x, 3, 2, 3, "y11"), -4);
        check.is("tempts", x.tempts(11, 3, 1), -4);
        check.tells(x, "decides", x.decides(false), 100, 1, 6, 0xccc);
        check.is("out of some", x.count(8), 4095);
    }

    private static void fullSquads() {
        CardsAndBans x = new CardsAndBans();
        Check.squads(x, "000000000000");
        Check.rules(x, "3o1x6:1/1,2/1,3/1,4/1");
        for (int i = 1; i <= 5; i++) {
            check.is("caution " + i, Check.play(x, 3, 0, 1, "y11"), i == 5 ? 0 : 1);
            x.pardon(i - 1, 1);
        }
        check.tells(x, "no step more", x.cautions(11, 3), 5, -1, -1);
        check.tells(x, "the last round", Check.play(x, 3, 0, 1, "y0"), 1, 6, 0, 0);
        check.is("all are wiped", x.count(7), 0);
    }

    private static int call(CardsAndBans x, int which, int i, int k) {
        switch (which) {
            case 0: return x.rule(i, k);
            case 1: return x.written(i) + x.team(i) + x.squad(i);
            case 2: return x.move(i, k) + x.swaps(i, k);
            case 3: return x.bans(i, k, 1) + x.bans(0, 0, i);
            case 4: return x.appeal(i);
            case 5: return x.decide(i, k % 2 == 0, k);
            case 6: return x.pardon(i, k);
            case 7: return x.may(i, k) + x.out(i, k) + x.misses(i, k) + x.owed(i);
            case 8: return x.sides(0, i, k) + x.sides(i, 0, k) + x.until(i, k) + x.cautions(i, k) + x.risks(i, k);
            case 9: return x.tempts(0, i, k) + x.tempts(i, 0, k) + x.costs(i, k) + x.played(i, k);
            case 10: return x.ban(i, k) + x.open(i) + x.frees(i, k) + x.sum(i) + x.most(i) + x.longest(i);
            case 11: return x.points(i) + x.cards(i) + x.book(i, k) + x.told(i) + x.count(i);
            case 12: return x.play(0, i, k) + x.play(i, 0, k) + (int) x.plan(i) + x.returns(i);
            default: return (x.end(i) ? 1 : 0) + (Check.hasRow(x, i) ? 1 : 0) + x.fair() + x.worst() + x.behind();
        }
    }

    /** No call throws but row(), whatever it is given: a throw would end this test. */
    private static void everyCall() {
        for (int which = 0; which <= 13; which++) {
            for (int i : NUMBERS) {
                CardsAndBans x = which % 2 == 0 ? full() : new CardsAndBans();
                for (int k : NUMBERS) {
                    call(x, which, i, k);
                    x.back();
                }
                check.is("acts that can be undone", x.count(5) <= 8, true);
            }
        }
    }

    /** A text of two hundred signs of each kind, to each reader. */
    private static void allTexts() {
        for (int sign = 0; sign < 256; sign++) {
            CardsAndBans x = full();
            String text = String.valueOf((char) sign).repeat(200);
            check.is("rules of " + sign, Check.rules(x, text) <= -21, true);
            check.is("play of " + sign, Check.play(x, 0, 0, 1, text) <= -21, true);
            check.is("given of " + sign, Check.given(x, text) <= -21, true);
            check.is("plan of " + sign, Check.plan(x, 0, text) <= -21, true);
            check.is("returns of " + sign, Check.returns(x, 0, text) <= -21, true);
            check.is("behind of " + sign, Check.behind(x, text) <= -21, true);
            check.is("squads of " + sign, Check.squads(x, text), sign >= '0' && sign <= '3' ? -33 : -21);
        }
        CardsAndBans x = new CardsAndBans();
        Check.squads(x, "012301230123");
        check.is("67 cards", Check.play(x, 0, 0, 1, "y0,".repeat(66) + "y1"), -3);
        check.is("67 cards", Check.play(x, 0, 0, 1, "y2,".repeat(66) + "y1"), -2);
        check.is("33 bans", Check.given(x, "1c0n1,".repeat(32) + "1c0n1"), 33);
        check.is("50 matches", Check.plan(x, 1, "012,".repeat(49) + "012"), (1L << 33) - 1);
    }
}
