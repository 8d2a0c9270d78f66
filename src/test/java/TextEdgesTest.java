/** Boundaries of THE TEXT and of what is read from it: promises 2 to 7 and the texts of 10, 14 and 31 to 33. */
public final class TextEdgesTest {
    private static final Check check = new Check("TextEdgesTest");
    private static final int NONE = CardsAndBans.NONE;
    private static final String DIGITS = "0123456789";
    private static final String FROM_ONE = "123456789";
    private static final String AT_FIRST = "0o1x0;1o1x0;2o1x0;3o1x0";
    private static final String LONGEST = "0a9x20:17/9,18/9,19/9,20/9;1a9x20:17/9,18/9,19/9,20/9;"
        + "2a9x20:17/9,18/9,19/9,20/9;3a9x20:17/9,18/9,19/9,20/9";

    private interface Reader {
        long read(CardsAndBans x, String text);
    }

    public static void main(String[] args) {
        twoHundredSigns();
        highestByteFirst();
        firstSignsAlone();
        signsOfRules();
        numbersOfRules();
        risingCautions();
        cupsToldOnce();
        fourSteps();
        othersAsAtFirst();
        refusedRulesStay();
        rulesAsRead();
        signsOfSquads();
        twelvePlayers();
        inPlaceOfThoseThereWere();
        signsOfCards();
        playersOfCards();
        signsOfGiven();
        playersOfGiven();
        signsOfMatches();
        endsTooEarly();
        fullTexts();
        ruleNumbers();
        writtenSigns();
        check.end();
    }

    // ---- promises 2 and 3

    /** "Refused: there would be more than 200." */
    private static void twoHundredSigns() {
        for (int first = 0; first < 4; first++) {
            CardsAndBans x = new CardsAndBans();
            x.sign(0);
            x.end(first);
            int signs = first;
            for (; signs + 4 <= 200; signs += 4) {
                check.is("sign behind " + signs, x.sign(0), signs + 4);
            }
            int most = signs;
            check.refuses(x, "sign behind " + most, NONE, most, () -> x.sign('0' << 24));
        }
        CardsAndBans x = new CardsAndBans();
        for (int i = 0; i < 50; i++) {
            x.sign(0);
        }
        x.behind();
        check.is("sign behind a text that was read", x.sign(0), 4);
    }

    /** "Four signs come behind THE TEXT, of v the highest byte first", the highest byte above 127, too. */
    private static void highestByteFirst() {
        CardsAndBans x = new CardsAndBans();
        x.sign('3' << 24 | '1' << 16 | '0' << 8 | '2');
        x.sign('2' << 24 | '0' << 16 | '3' << 8 | '1');
        check.is("squads", x.squads(), 8);
        int[] due = {3, 1, 0, 2, 2, 0, 3, 1};
        for (int player = 0; player < due.length; player++) {
            check.is("team of " + player, x.team(player), due[player]);
        }
        int digits = '0' << 24 | '0' << 16 | '0' << 8 | '0';
        for (int place = 0; place < 4; place++) {
            int shift = 24 - 8 * place;
            x.sign(digits ^ 255 << shift);
            check.is("a byte above 127 at " + place, x.squads(), -21 - place);
            x.sign(digits & ~(255 << shift));
            check.is("a byte of 0 at " + place, x.squads(), -21 - place);
            x.sign(digits | 128 << shift);
            check.is("a digit and 128 at " + place, x.squads(), -21 - place);
        }
    }

    /** "THE TEXT has its first n signs alone: true; false if it has not so many, or n is below 0." */
    private static void firstSignsAlone() {
        for (int n = 0; n <= 8; n++) {
            CardsAndBans x = new CardsAndBans();
            Check.put(x, "01230123");
            check.is("end(" + n + ")", x.end(n), true);
            check.is("signs of end(" + n + ")", x.count(10), n);
            check.is("players of end(" + n + ")", x.squads(), n);
        }
        CardsAndBans x = new CardsAndBans();
        check.is("end(0) of none", x.end(0), true);
        check.refuses(x, "end(1) of none", 0, 0, () -> x.end(1) ? 1 : 0);
        Check.put(x, "01230123");
        for (int n : new int[] {9, -1, 200, Integer.MAX_VALUE, Integer.MIN_VALUE}) {
            check.refuses(x, "end(" + n + ")", 0, 8, () -> x.end(n) ? 1 : 0);
        }
        x.end(2);
        check.refuses(x, "end does not bring signs back", 0, 2, () -> x.end(3) ? 1 : 0);
        x.sign('3' << 24 | '3' << 16 | '3' << 8 | '3');
        check.is("signs come behind the first n", x.squads(), 6);
        check.is("the third", x.team(2), 3);
    }

    // ---- which signs can stand

    /** Of all 256 signs just these can stand behind a beginning; each of the others is told by its place. */
    private static void stand(String name, String squads, Reader reader, String beginning, String signs) {
        for (char sign = 0; sign < 256; sign++) {
            CardsAndBans x = new CardsAndBans();
            Check.squads(x, squads);
            long answer = reader.read(x, beginning + sign);
            check.is(name + " of " + beginning + " and sign " + (int) sign, answer == -21 - beginning.length(),
                signs.indexOf(sign) < 0);
            check.is(name + " empties the text", x.count(10), 0);
        }
    }

    private static void rulesStand(String beginning, String signs) {
        stand("rules", "", Check::rules, beginning, signs);
    }

    /** "LINES with ; between: CUP, o or a, RED, x, ROUND, and, if there are STEPS, : and these". */
    private static void signsOfRules() {
        rulesStand("", "0123");
        rulesStand("2", "oa");
        rulesStand("0o", FROM_ONE);
        rulesStand("0a9", "x");
        rulesStand("0o3x", DIGITS);
        rulesStand("0o3x0", ":;");
        rulesStand("0o3x1", DIGITS + ":;");
        rulesStand("0o3x2", "0:;");
        rulesStand("0o3x3", ":;");
        rulesStand("0o3x9", ":;");
        rulesStand("0o3x10", ":;");
        rulesStand("0o3x19", ":;");
        rulesStand("0o3x20", ":;");
        rulesStand("0o3x6:", FROM_ONE);
        rulesStand("0o3x6:1", DIGITS + "/");
        rulesStand("0o3x6:2", "0/");
        rulesStand("0o3x6:3", "/");
        rulesStand("0o3x6:19", "/");
        rulesStand("0o3x6:20", "/");
        rulesStand("0o3x6:5/", FROM_ONE);
        rulesStand("0o3x6:5/1", ",;");
        rulesStand("0o3x6:5/1,", "6789");
        rulesStand("0o3x6:5/1,10", "/");
        rulesStand("0o3x6:5/1,10/", FROM_ONE);
        rulesStand("0o3x6:5/1,10/2", ",;");
        rulesStand("0o3x6:1/1,2/1,3/1,4/1", ";");
        rulesStand("0o3x6;", "123");
        rulesStand("0o3x6:5/1;", "123");
        rulesStand("3o1x0;0o1x0;2o1x0;", "1");
        rulesStand("0o1x0;1o1x0;2o1x0;3o1x0;", "");
    }

    private static void wrongRules(String text, int place) {
        CardsAndBans x = new CardsAndBans();
        Check.rules(x, "2a7x7:7/7");
        check.refuses(x, "rules " + text, -21 - place, 0, () -> Check.rules(x, text));
    }

    private static void goodRules(String text, int told, String written) {
        CardsAndBans x = new CardsAndBans();
        Check.rules(x, "2a7x7:7/7");
        check.is("rules " + text, Check.rules(x, text), told);
        check.is("written of " + text, Check.written(x).equals(written), true);
    }

    /** "RED 1 .. 9; ROUND 0 .. 20; CAUTIONS 1 .. 20, MATCHES 1 .. 9"; "one or two digits are read, where that can't be ..
     *  the last one of these"; "Numbers of two digits have no nought ahead". */
    private static void numbersOfRules() {
        goodRules("0o1x0", 1, "0o1x0;1o1x0;2o1x0;3o1x0");
        goodRules("0a9x20", 1, "0a9x20;1o1x0;2o1x0;3o1x0");
        wrongRules("0o0x0", 2);
        wrongRules("0o10x0", 3);
        wrongRules("0o1x21", 5);
        wrongRules("0o1x30", 5);
        wrongRules("0o1x99", 5);
        wrongRules("0o1x00", 5);
        wrongRules("0o1x05", 5);
        wrongRules("0o1x-1", 4);
        wrongRules("0o1x200", 6);
        wrongRules("0o1x255", 5);
        goodRules("0o1x0:1/1", 1, "0o1x0:1/1;1o1x0;2o1x0;3o1x0");
        goodRules("0o1x0:20/9", 1, "0o1x0:20/9;1o1x0;2o1x0;3o1x0");
        wrongRules("0o1x0:0/1", 6);
        wrongRules("0o1x0:21/1", 7);
        wrongRules("0o1x0:30/1", 7);
        wrongRules("0o1x0:99/1", 7);
        wrongRules("0o1x0:01/1", 6);
        wrongRules("0o1x0:200/1", 8);
        wrongRules("0o1x0:211/1", 7);
        wrongRules("0o1x0:1/0", 8);
        wrongRules("0o1x0:1/10", 9);
    }

    /** "CAUTIONS 1 .. 20, rising"; "does not rise, the last one of these". */
    private static void risingCautions() {
        goodRules("0o1x0:1/1,2/1", 1, "0o1x0:1/1,2/1;1o1x0;2o1x0;3o1x0");
        goodRules("0o1x0:9/1,10/1", 1, "0o1x0:9/1,10/1;1o1x0;2o1x0;3o1x0");
        goodRules("0o1x0:17/1,18/1,19/1,20/1", 1, "0o1x0:17/1,18/1,19/1,20/1;1o1x0;2o1x0;3o1x0");
        wrongRules("0o1x0:5/1,5/1", 10);
        wrongRules("0o1x0:5/1,4/1", 10);
        wrongRules("0o1x0:5/1,1/1", 10);
        wrongRules("0o1x0:5/1,0/1", 10);
        wrongRules("0o1x0:10/1,9/1", 11);
        wrongRules("0o1x0:10/1,10/1", 12);
        wrongRules("0o1x0:11/1,10/1", 12);
        wrongRules("0o1x0:1/1,3/1,2/1", 14);
        wrongRules("0o1x0:1/1,3/1,3/1", 14);
        wrongRules("0o1x0:20/1,20/1", 12);
        wrongRules("0o1x0:20/1,21/1", 12);
        wrongRules("0o1x0:2/1,1", 10);
        wrongRules("0o1x0:2/1,1,", 10);
        wrongRules("0o1x0:9/1,1/1", 10);
        for (int shown = 10; shown <= 20; shown++) {
            goodRules("0o1x0:9/1," + shown + "/1", 1, "0o1x0:9/1," + shown + "/1;1o1x0;2o1x0;3o1x0");
        }
        goodRules("0o1x0:5/1;1o1x0:4/1", 2, "0o1x0:5/1;1o1x0:4/1;2o1x0;3o1x0");
    }

    /** "a CUP that is told already: it". */
    private static void cupsToldOnce() {
        for (int cup = 0; cup < 4; cup++) {
            wrongRules(cup + "o1x0;" + cup + "o1x0", 6);
            wrongRules("0o1x0;1o1x0;2o1x0;3o1x0;" + cup, 24);
            wrongRules("3o1x0;2o1x0:1/1;1o1x0;0o1x0;" + cup + "a1x0", 28);
        }
        goodRules("3a1x0;2a1x0;1a1x0;0a1x0", 4, "0a1x0;1a1x0;2a1x0;3a1x0");
        wrongRules("0o1x0;1o1x0;2o1x0;3o1x0;4", 24);
    }

    /** "STEPS, at most 4", "a 5th STEP: the , ahead of it". */
    private static void fourSteps() {
        goodRules("0o1x0:1/9,2/9,3/9,4/9", 1, "0o1x0:1/9,2/9,3/9,4/9;1o1x0;2o1x0;3o1x0");
        wrongRules("0o1x0:1/9,2/9,3/9,4/9,5/9", 21);
        wrongRules("0o1x0:1/9,2/9,3/9,4/9,", 21);
        wrongRules("0o1x0:1/9,2/9,3/9,4/9,0", 21);
        wrongRules("0o1x20:10/9,12/9,13/9,14/9,15/9", 26);
        wrongRules("0o1x0:", 6);
        wrongRules("0o1x0:;1o1x0", 6);
        goodRules("0o1x0:1/9,2/9,3/9,4/9;1o1x0:1/9,2/9,3/9,4/9", 2, "0o1x0:1/9,2/9,3/9,4/9;1o1x0:1/9,2/9,3/9,4/9;2o1x0;3o1x0");
    }

    /** "How many CUPS are told (others have RULES as at first then; what there is else stays)", "an empty one: none". */
    private static void othersAsAtFirst() {
        goodRules("", 0, AT_FIRST);
        goodRules("3a2x2:2/2", 1, "0o1x0;1o1x0;2o1x0;3a2x2:2/2");
        goodRules("1o1x0;0o1x0", 2, AT_FIRST);
        goodRules(LONGEST, 4, LONGEST);
        CardsAndBans x = Check.ordinary();
        Check.play(x, 0, 0, 1, "y0,r2");
        x.keeps();
        x.appeal(0);
        int acts = x.count(5);
        String was = Snapshot.of(x);
        Check.rules(x, "1a9x1:1/1");
        check.is("acts stay", x.count(5), acts);
        check.is("what is kept stays", x.back() + x.undo(), 1 + acts);
        Check.rules(x, "0o3x3:2/1,4/2;1a2x0");
        check.is("what there is else stays", Snapshot.of(x).equals(was), true);
    }

    /** A refused rules() leaves RULES as they were, whatever LINES ahead of the wrong sign told. */
    private static void refusedRulesStay() {
        CardsAndBans x = Check.ordinary();
        Check.play(x, 0, 0, 1, "y0");
        check.refuses(x, "wrong behind two lines", -37, 0, () -> Check.rules(x, "0a9x1:1/9;1o9x1;"));
        check.refuses(x, "wrong in its steps", -31, 0, () -> Check.rules(x, "0a9x1:1/9,"));
        check.is("kind of a ban by hand", x.bans(5, 0, 1), 0);
        check.is("kind of a ban by hand", x.ban(0, 3), 0);
        check.refuses(x, "wrong at its end", -30, 0, () -> Check.rules(x, "1o9x1:1/9x"));
        Check.given(x, "5c1n1");
        check.is("kind of one that is given", x.ban(1, 3), 1);
        check.refuses(x, "wrong at its end", -30, 0, () -> Check.rules(x, "0a9x1:1/9x"));
        check.tells(x, "a step, a red", Check.play(x, 0, 0, 1, "y0,r2,y3"), 2, 2, 0, 0);
        check.is("matches of the step", x.ban(2, 2), 1);
        check.is("matches of a red", x.ban(3, 2), 3);
        check.is("kind of a red", x.ban(3, 3), 0);
        check.is("no round", x.cautions(0, 0), 2);
    }

    /** "written as rules() reads them": what is written is read to be the same. */
    private static void rulesAsRead() {
        String[] texts = {"", "0o3x6:5/1,10/2", "2a9x20", LONGEST, "3o1x10:1/1", "1a5x9:9/9,10/1,11/2,19/3"};
        for (String text : texts) {
            CardsAndBans x = new CardsAndBans();
            Check.rules(x, text);
            String written = Check.written(x);
            CardsAndBans other = new CardsAndBans();
            check.is("rules as written", Check.rules(other, written), 4);
            check.is("written as written", Check.written(other).equals(written), true);
        }
    }

    // ---- promise 5

    private static void squadsStand(String beginning, String signs) {
        stand("squads", "", Check::squads, beginning, signs);
    }

    private static void signsOfSquads() {
        String all = "012301230123";
        for (int place = 0; place < 12; place++) {
            squadsStand(all.substring(0, place), "0123");
        }
        squadsStand(all, "");
    }

    /** "a digit each (12 at most; none: no PLAYERS)". */
    private static void twelvePlayers() {
        for (int players = 0; players <= 12; players++) {
            CardsAndBans x = new CardsAndBans();
            check.is("squads of " + players, Check.squads(x, "321032103210".substring(0, players)), players);
            check.is("players", x.count(0), players);
            for (int player = 0; player < players; player++) {
                check.is("team of " + player, x.team(player), 3 - player % 4);
            }
            check.is("no more", x.team(players), NONE);
        }
        CardsAndBans x = Check.ordinary();
        for (int signs = 13; signs <= 200; signs++) {
            String text = "0".repeat(signs);
            check.is("squads of " + signs, Check.squads(x, text), -33);
        }
        check.refuses(x, "squads of 13", -33, 0, () -> Check.squads(x, "1111111111111"));
        check.refuses(x, "the first wrong one", -32, 0, () -> Check.squads(x, "00000000000x0"));
    }

    /** "in place of those there were .. There are no CAUTIONS, BANS, MATCHES, entries, nothing played or to be undone". */
    private static void inPlaceOfThoseThereWere() {
        for (String text : new String[] {"", "0", "012", "001122", "333333333333"}) {
            CardsAndBans x = Check.ordinary();
            Check.play(x, 0, 0, 1, "y0,y1,r2,y3,y3");
            Check.given(x, "0c0n9,4c1n9,5c2n9");
            x.appeal(2);
            Check.play(x, 1, 2, 1, "");
            x.keeps();
            CardsAndBans fresh = new CardsAndBans();
            Check.rules(fresh, "0o3x3:2/1,4/2;1a2x0");
            Check.squads(fresh, text);
            check.is("squads " + text, Check.squads(x, text), text.length());
            check.is("as a new object", Snapshot.of(x).equals(Snapshot.of(fresh)), true);
            check.is("nothing to be undone", x.undo(), -2);
            check.is("nothing kept", x.back(), -2);
            for (int i = 0; i < 9 && text.length() > 2; i++) {
                check.is("bans anew", x.bans(2, 3, 1), i);
                fresh.bans(2, 3, 1);
                x.appeal(i);
                fresh.appeal(i);
                check.is("nothing of old bans", Snapshot.of(x).equals(Snapshot.of(fresh)), true);
            }
            for (int team = 0; team < 4; team++) {
                check.tells(x, "points", x.points(team), 0, 0, 0, 0);
                check.tells(x, "played", x.played(team, 0), 0, 3);
            }
            check.is("its first match", Check.play(x, 0, 0, 1, ""), 0);
            check.is("its number", x.row(0), 1);
        }
    }

    // ---- promises 10 and 14

    private static long play(CardsAndBans x, String text) {
        return Check.play(x, 0, 0, 1, text);
    }

    /** "y (a caution) or r (red) and a PLAYER each, with , between". */
    private static void signsOfCards() {
        String[] squads = {"", "0", "012301", "0123012301", "01230123012", "012301230123"};
        String[] behindCard = {"", "0", "012345", DIGITS, DIGITS, DIGITS};
        String[] behindOne = {"", "", ",", ",", "0,", "01,"};
        for (int i = 0; i < squads.length; i++) {
            stand("play", squads[i], TextEdgesTest::play, "", "yr");
            stand("play", squads[i], TextEdgesTest::play, "y", behindCard[i]);
            stand("play", squads[i], TextEdgesTest::play, "r", behindCard[i]);
            if (i > 1) {
                stand("play", squads[i], TextEdgesTest::play, "y1", behindOne[i]);
                stand("play", squads[i], TextEdgesTest::play, "y0", ",");
                stand("play", squads[i], TextEdgesTest::play, "y2", ",");
                stand("play", squads[i], TextEdgesTest::play, "r1,", "yr");
                stand("play", squads[i], TextEdgesTest::play, "r1,y", behindCard[i]);
            }
        }
        stand("play", "012301230123", TextEdgesTest::play, "y10", ",");
        stand("play", "012301230123", TextEdgesTest::play, "y11", ",");
        stand("play", "012301230123", TextEdgesTest::play, "y10,r11", ",");
    }

    private static void wrongCards(String squads, String text, int place) {
        CardsAndBans x = new CardsAndBans();
        Check.squads(x, squads);
        check.refuses(x, "play " + text + " of " + squads, -21 - place, 0, () -> play(x, text));
    }

    /** "a PLAYER, one or two digits, there is none of: its last digit". */
    private static void playersOfCards() {
        wrongCards("001122", "y6", 1);
        wrongCards("001122", "y9", 1);
        wrongCards("001122", "y10", 2);
        wrongCards("001122", "y60", 2);
        wrongCards("001122", "y99", 2);
        wrongCards("001122", "y6,y1", 1);
        wrongCards("001122", "y00", 2);
        wrongCards("001122", "y01", 2);
        wrongCards("001122", "y1,r6", 4);
        wrongCards("001122", "y1,r12", 5);
        wrongCards("0123012301", "y10", 2);
        wrongCards("01230123012", "y11", 2);
        wrongCards("012301230123", "y12", 2);
        wrongCards("012301230123", "y20", 2);
        wrongCards("012301230123", "y110", 3);
        wrongCards("012301230123", "y123", 2);
        wrongCards("012301230123", "y100", 3);
        wrongCards("", "y0", 1);
        wrongCards("", "r10", 2);
        wrongCards("0", "y1", 1);
        CardsAndBans x = new CardsAndBans();
        Check.squads(x, "000011112222");
        check.is("the last of both", Check.play(x, 0, 2, 1, "r11,y10,r4"), 2);
    }

    /** "PLAYER, c, CUP, n, MATCHES (a digit, 1 .. 9), with , between". */
    private static void signsOfGiven() {
        Reader given = Check::given;
        stand("given", "", given, "", "");
        stand("given", "0", given, "", "0");
        stand("given", "012301", given, "", "012345");
        stand("given", "0123012301", given, "", DIGITS);
        stand("given", "012301230123", given, "", DIGITS);
        stand("given", "012301", given, "1", "c");
        stand("given", "0123012301", given, "1", "c");
        stand("given", "01230123012", given, "1", "0c");
        stand("given", "012301230123", given, "1", "01c");
        stand("given", "012301230123", given, "0", "c");
        stand("given", "012301230123", given, "11", "c");
        stand("given", "012301230123", given, "11c", "0123");
        stand("given", "012301", given, "3c0", "n");
        stand("given", "012301", given, "3c3n", FROM_ONE);
        stand("given", "012301", given, "3c0n9", ",");
        stand("given", "012301", given, "3c0n2,", "012345");
        stand("given", "012301", given, "3c0n2,5c3n1", ",");
    }

    private static void wrongGiven(String squads, String text, int place) {
        CardsAndBans x = new CardsAndBans();
        Check.squads(x, squads);
        check.refuses(x, "given " + text + " of " + squads, -21 - place, 0, () -> Check.given(x, text));
    }

    private static void playersOfGiven() {
        wrongGiven("001122", "6c0n1", 0);
        wrongGiven("001122", "10c0n1", 1);
        wrongGiven("001122", "60c0n1", 1);
        wrongGiven("001122", "00c0n1", 1);
        wrongGiven("001122", "05c0n1", 1);
        wrongGiven("001122", "5c0n1,6c0n1", 6);
        wrongGiven("001122", "5c0n1,66c0n1", 7);
        wrongGiven("01230123012", "11c0n1", 1);
        wrongGiven("012301230123", "12c0n1", 1);
        wrongGiven("012301230123", "111c0n1", 2);
        wrongGiven("012301230123", "123c0n1", 1);
        wrongGiven("001122", "5c4n1", 2);
        wrongGiven("001122", "5c00n1", 3);
        wrongGiven("001122", "5c0n0", 4);
        wrongGiven("001122", "5c0n10", 5);
        wrongGiven("", "0c0n1", 0);
    }

    // ---- promises 31 to 33

    private static void matchesStand(String beginning, String signs) {
        stand("plan", "0123", (x, text) -> Check.plan(x, 0, text), beginning, signs);
        stand("returns", "0123", (x, text) -> Check.returns(x, 0, text), beginning, signs);
        stand("behind", "0123", Check::behind, beginning, signs);
    }

    /** "CUP, TEAM, TEAM (three digits; unlike TEAMS), with , between", "a TEAM twice: its second digit". */
    private static void signsOfMatches() {
        matchesStand("", "0123");
        matchesStand("3", "0123");
        matchesStand("00", "123");
        matchesStand("01", "023");
        matchesStand("02", "013");
        matchesStand("33", "012");
        matchesStand("001", ",");
        matchesStand("332", ",");
        matchesStand("001,", "0123");
        matchesStand("001,1", "0123");
        matchesStand("001,10", "123");
        matchesStand("001,103", ",");
        for (String text : new String[] {"000,123", "011,001,002", "333001"}) {
            CardsAndBans x = Check.ordinary();
            check.refuses(x, "plan, a team twice", -23, 0, () -> Check.plan(x, 0, text));
            check.refuses(x, "returns, a team twice", -23, 0, () -> Check.returns(x, 0, text));
            check.refuses(x, "behind, a team twice", -23, 0, () -> Check.behind(x, text));
        }
    }

    // ---- all readers

    private static void early(String name, Reader reader, String whole, String ends) {
        for (int signs = 0; signs <= whole.length(); signs++) {
            CardsAndBans x = new CardsAndBans();
            Check.squads(x, "012301230123");
            long answer = reader.read(x, whole.substring(0, signs));
            char end = ends.charAt(signs);
            long due = end == '+' ? Math.max(answer, 0) : end == '*' ? -2 : -21 - signs;
            check.is(name + " of " + whole.substring(0, signs), answer, due);
        }
    }

    /** "(p is the number of its signs, if it ends too early)": each beginning of a text; + (or *: -2) where it may end. */
    private static void endsTooEarly() {
        early("rules", Check::rules, "0o3x16:5/1,6/2;3a1x0:10/1", "+----++---+---+-----+----+");
        early("play", (x, t) -> Check.play(x, 0, 0, 1, t), "y1,r0,y4", "+-+--+--+");
        early("given", Check::given, "10c0n2,3c1n9", "+-----+-----+");
        early("plan", (x, t) -> Check.plan(x, 0, t), "001,103,323", "+--+---+---+");
        early("returns", (x, t) -> Check.returns(x, 0, t), "001,103,323", "*--+---+---+");
        early("behind", Check::behind, "001,103,323", "+--+---+---+");
    }

    /** Texts of 200 signs, the last of them wrong, or with nothing behind it. */
    private static void fullTexts() {
        CardsAndBans x = new CardsAndBans();
        Check.squads(x, "012301230123");
        check.is("cards, too early at 200", Check.play(x, 0, 0, 1, "y10,".repeat(50)), -221);
        check.is("cards, the last wrong", Check.play(x, 0, 0, 1, "y10,".repeat(49) + "y10."), -220);
        check.is("bans, too early at 200", Check.given(x, "1c0n1,".repeat(33) + "1c"), -221);
        check.is("bans, the last wrong", Check.given(x, "1c0n1,".repeat(33) + "1d"), -220);
        check.is("matches, too early at 200", Check.plan(x, 0, "001,".repeat(50)), -221);
        check.is("matches, too early at 200", Check.returns(x, 0, "001,".repeat(50)), -221);
        check.is("matches, too early at 200", Check.behind(x, "001,".repeat(50)), -221);
        check.is("matches, the last wrong", Check.behind(x, "001,".repeat(49) + "0014"), -220);
        check.is("matches, to 199", Check.behind(x, "001,".repeat(49) + "001"), 0);
        check.is("rules, none behind", Check.rules(x, LONGEST + ";".repeat(200 - LONGEST.length())), -21 - LONGEST.length() - 1);
        check.is("squads of 200", Check.squads(x, "0".repeat(200)), -33);
    }

    // ---- promises 6 and 7

    /** "NONE: others, no such STEP." */
    private static void ruleNumbers() {
        String[] steps = {"", ":1/2", ":1/2,3/4", ":1/2,3/4,5/6", ":1/2,3/4,5/6,7/8"};
        for (int n = 0; n < steps.length; n++) {
            CardsAndBans x = new CardsAndBans();
            Check.rules(x, "0a9x20:17/9,18/9,19/9,20/9");
            Check.rules(x, "3a9x20:17/9,18/9,19/9,20/9;0o5x15" + steps[n] + ";1a9x20:17/9,18/9,19/9,20/9");
            check.is("kind", x.rule(0, 0), 0);
            check.is("red", x.rule(0, 1), 5);
            check.is("round", x.rule(0, 2), 15);
            check.is("steps", x.rule(0, 3), n);
            for (int what = 4; what < 4 + 2 * n; what++) {
                check.is("rule(0, " + what + ") of " + n + " steps", x.rule(0, what), what - 3);
            }
            for (int what : new int[] {-1, 4 + 2 * n, 5 + 2 * n, 12, 13, Integer.MIN_VALUE, Integer.MAX_VALUE}) {
                check.refuses(x, "rule(0, " + what + ") of " + n + " steps", NONE, 0, () -> x.rule(0, what));
            }
        }
    }

    /** "i NONE: how many signs. NONE: no such sign." */
    private static void writtenSigns() {
        for (String text : new String[] {AT_FIRST, LONGEST, "0o1x0:1/1;1a1x9;2o1x10:19/9,20/9;3o1x0"}) {
            CardsAndBans x = new CardsAndBans();
            Check.rules(x, text);
            check.is("how many of " + text, x.written(NONE), text.length());
            for (int i = 0; i < text.length(); i++) {
                check.is("sign " + i + " of " + text, x.written(i), text.charAt(i));
            }
            for (int i : new int[] {-2, text.length(), text.length() + 1, 200, Integer.MIN_VALUE, Integer.MAX_VALUE}) {
                check.refuses(x, "written(" + i + ")", NONE, 0, () -> x.written(i));
            }
        }
        CardsAndBans x = new CardsAndBans();
        Check.rules(x, LONGEST);
        Check.rules(x, "");
        check.is("nothing of longer ones is left", x.written(AT_FIRST.length()), NONE);
    }
}
