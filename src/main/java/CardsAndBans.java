import java.util.Arrays;
import java.util.NoSuchElementException;

/**
 * Players of teams, cups with rules of their own, matches with cards, cautions that add up to bans, bans that are
 * served, appealed, pardoned and undone. The document DOC.md tells every call as a numbered promise.
 */
public final class CardsAndBans {
    public static final int NONE = -1;

    private static final int CUPS = 4;
    private static final int TEAMS = 4;
    private static final int MOST_PLAYERS = 12;
    private static final int MOST_SIGNS = 200;
    // A card with the , behind it is three signs, and nothing that a text tells is shorter but a TEAM in squads().
    private static final int MOST_ITEMS = 67;
    private static final int ITEM_NUMBERS = 3;
    private static final int MOST_STEPS = 4;
    private static final int MOST_ROUND = 20;
    private static final int MOST_STEP_CAUTIONS = 20;
    private static final int MOST_BAN_MATCHES = 9;
    private static final int MOST_ADDED = 3;
    private static final int MOST_BANS = 100;
    private static final int MOST_ENTRIES = 60;
    private static final int MOST_UNDONE = 8;
    private static final int MOST_IN_THOUGHT = 40;
    private static final int RED_POINTS = 3;
    private static final int THOUSANDTHS = 1000;

    private static final int WRONG_SIGN = -21;
    private static final int SECOND_NO = -2;
    private static final int THIRD_NO = -3;
    private static final int TOO_MANY_BANS = -4;

    // Numbers of the RULES of a CUP, in the order in which rule() numbers them.
    private static final int SERVED_IN_ALL = 0;
    private static final int RED = 1;
    private static final int ROUND = 2;
    private static final int STEPS = 3;
    private static final int FIRST_STEP = 4;
    private static final int RULE_NUMBERS = 12;

    // Numbers of a BAN, in the order in which ban() numbers them.
    private static final int PLAYER = 0;
    private static final int CUP = 1;
    private static final int LEFT = 2;
    private static final int ALL = 3;
    private static final int APPEAL = 4;
    private static final int AT_FIRST = 5;
    private static final int MATCH = 6;
    private static final int SERVED = 7;
    private static final int BAN_NUMBERS = 8;

    private static final int NO_APPEAL = 0;
    private static final int PENDING = 1;
    private static final int DECIDED = 2;

    // WHAT of an entry of THE BOOK.
    private static final int CAME = 0;
    private static final int MATCH_SERVED = 1;
    private static final int OVER = 2;
    private static final int STRUCK = 3;
    private static final int APPEALED = 4;
    private static final int NOT_GRANTED = 5;
    private static final int WHATS = 6;
    private static final int ENTRY_NUMBERS = 3;

    // Numbers of the cards of a PLAYER or a TEAM; the first two are the kinds of a card, too.
    private static final int CAUTION = 0;
    private static final int RED_CARD = 1;
    private static final int SENT_OFF = 2;
    private static final int CARD_NUMBERS = 3;

    private final Text text = new Text();
    private final Text page = new Text();
    private final Items items = new Items();
    private final Row row = new Row();
    private final Rules rules = new Rules();
    private final Rules draft = new Rules();
    private final State now = new State();
    private final State thought = new State();
    private final State kept = new State();
    private final History history = new History();
    private boolean isKept;

    public CardsAndBans() {
        isKept = false;
    }

    // ---- cups, players

    public int sign(int v) {
        return text.addFour(v) ? text.length : NONE;
    }

    public boolean end(int n) {
        return text.cutTo(n);
    }

    public int rules() {
        int told = readRules();
        text.empty();
        if (!text.isSound()) {
            return wrongSign();
        }
        rules.copyFrom(draft);
        return told;
    }

    public int squads() {
        readTeams();
        text.empty();
        if (!text.isSound()) {
            return wrongSign();
        }
        now.startWith(items);
        history.forget();
        isKept = false;
        return now.players;
    }

    public int rule(int cup, int what) {
        if (!isCup(cup) || what < 0 || what >= FIRST_STEP + 2 * rules.steps(cup)) {
            return NONE;
        }
        return rules.number(cup, what);
    }

    public int written(int i) {
        writeRules();
        if (i == NONE) {
            return page.length;
        }
        return page.signAt(i);
    }

    public int team(int player) {
        if (!isPlayer(player)) {
            return NONE;
        }
        int had = 0;
        int opened = 0;
        for (int ban = 0; ban < now.banCount; ban++) {
            if (now.number(ban, PLAYER) == player) {
                had++;
                opened += now.isOpen(ban) ? 1 : 0;
            }
        }
        row.restart().add(opened).add(had);
        return now.teams[player];
    }

    public int squad(int team) {
        if (!isTeam(team)) {
            return NONE;
        }
        int members = now.membersOf(team);
        row.restart().add(Integer.bitCount(members));
        return members;
    }

    // ---- what happens

    public int play(int cup, int a, int b) {
        readCards();
        text.empty();
        if (!text.isSound()) {
            return wrongSign();
        }
        if (!isCup(cup) || !areRivals(a, b)) {
            return NONE;
        }
        thought.copyFrom(now);
        Match match = new Match(thought, rules, cup, a, b);
        int served = match.begin();
        for (int i = 0; i < items.size; i++) {
            int answer = match.show(items.first(i), items.second(i));
            if (answer < 0) {
                return answer;
            }
        }
        match.finish();
        history.keep(now);
        int came = thought.banCount - now.banCount;
        now.copyFrom(thought);
        row.restart().add(now.matches).add(served).add(match.outs);
        return came;
    }

    public int move(int player, int team) {
        if (!isPlayer(player) || !isTeam(team)) {
            return NONE;
        }
        int old = now.teams[player];
        if (old == team) {
            return SECOND_NO;
        }
        history.keep(now);
        now.teams[player] = team;
        return old;
    }

    public int swaps(int player, int other) {
        if (!isPlayer(player) || !isPlayer(other)) {
            return NONE;
        }
        int left = now.teams[player];
        int joined = now.teams[other];
        if (left == joined) {
            return SECOND_NO;
        }
        history.keep(now);
        now.teams[player] = joined;
        now.teams[other] = left;
        return joined;
    }

    public int bans(int player, int cup, int n) {
        if (!isPlayer(player) || !isCup(cup) || n < 1 || n > MOST_BAN_MATCHES) {
            return NONE;
        }
        if (now.banCount >= MOST_BANS) {
            return TOO_MANY_BANS;
        }
        history.keep(now);
        return now.addBan(player, cup, n, rules.number(cup, SERVED_IN_ALL));
    }

    public int given() {
        readGiven();
        text.empty();
        if (!text.isSound()) {
            return wrongSign();
        }
        if (now.banCount + items.size > MOST_BANS) {
            return TOO_MANY_BANS;
        }
        history.keep(now);
        for (int i = 0; i < items.size; i++) {
            int cup = items.second(i);
            now.addBan(items.first(i), cup, items.third(i), rules.number(cup, SERVED_IN_ALL));
        }
        return items.size;
    }

    public int appeal(int ban) {
        if (!isBan(ban)) {
            return NONE;
        }
        if (!now.isOpen(ban)) {
            return SECOND_NO;
        }
        if (now.number(ban, APPEAL) != NO_APPEAL) {
            return THIRD_NO;
        }
        history.keep(now);
        now.set(ban, APPEAL, PENDING);
        now.enter(APPEALED, ban);
        return now.number(ban, LEFT);
    }

    public int decide(int ban, boolean granted, int more) {
        int mostMore = granted ? 0 : MOST_ADDED;
        if (!isBan(ban) || more < 0 || more > mostMore) {
            return NONE;
        }
        if (!now.isPending(ban)) {
            return SECOND_NO;
        }
        history.keep(now);
        now.settle(ban, granted, more);
        return now.number(ban, LEFT);
    }

    public int decides(boolean granted) {
        int pending = now.countPending();
        if (pending == 0) {
            return SECOND_NO;
        }
        history.keep(now);
        for (int ban = 0; ban < now.banCount; ban++) {
            if (now.isPending(ban)) {
                now.settle(ban, granted, 0);
            }
        }
        return pending;
    }

    public int pardon(int ban, int n) {
        if (!isBan(ban) || n < 1) {
            return NONE;
        }
        if (!now.isOpen(ban)) {
            return SECOND_NO;
        }
        if (n > now.number(ban, LEFT)) {
            return NONE;
        }
        history.keep(now);
        now.forgive(ban, n);
        return now.number(ban, LEFT);
    }

    public int season() {
        int ended = now.countCautions();
        history.keep(now);
        Arrays.fill(now.cautionCounts, 0);
        Arrays.fill(now.playedCounts, 0);
        return ended;
    }

    // ---- who may play

    public int may(int player, int cup) {
        if (!isPlayer(player) || !isCup(cup)) {
            return NONE;
        }
        int first = now.firstBar(player, cup);
        row.restart().add(first);
        return first == NONE ? 1 : 0;
    }

    public int out(int team, int cup) {
        if (!isTeam(team) || !isCup(cup)) {
            return NONE;
        }
        int outs = now.outsOf(team, cup);
        row.restart().add(Integer.bitCount(outs));
        for (int player = 0; player < now.players; player++) {
            if (hasBit(outs, player)) {
                row.add(now.barredMatches(player, cup));
            }
        }
        return outs;
    }

    public int misses(int player, int cup) {
        if (!isPlayer(player) || !isCup(cup)) {
            return NONE;
        }
        int barred = now.barredMatches(player, cup);
        row.restart().add(barred + now.pendingMatches(player, cup));
        return barred;
    }

    public int owed(int player) {
        if (!isPlayer(player)) {
            return NONE;
        }
        row.restart();
        for (int cup = 0; cup < CUPS; cup++) {
            row.add(now.barredMatches(player, cup));
        }
        return now.leftOf(player);
    }

    public int sides(int cup, int a, int b) {
        if (!isCup(cup) || !areRivals(a, b)) {
            return NONE;
        }
        int outs = now.outsOf(a, cup) | now.outsOf(b, cup);
        int ready = now.membersOf(a) & ~outs;
        int readyRivals = now.membersOf(b) & ~outs;
        row.restart().add(Integer.bitCount(ready)).add(Integer.bitCount(readyRivals)).add(outs);
        return ready | readyRivals;
    }

    public int until(int team, int cup) {
        if (!isTeam(team) || !isCup(cup)) {
            return NONE;
        }
        int latest = 0;
        int last = 0;
        for (int player = 0; player < now.players; player++) {
            int missed = now.teams[player] == team ? now.barredMatches(player, cup) : 0;
            if (missed > latest) {
                latest = missed;
                last = 0;
            }
            if (missed > 0 && missed == latest) {
                last |= bit(player);
            }
        }
        row.restart().add(last);
        return latest;
    }

    public int cautions(int player, int cup) {
        if (!isPlayer(player) || !isCup(cup)) {
            return NONE;
        }
        int shown = now.cautionsOf(player, cup);
        int step = rules.nextStep(cup, shown);
        row.restart();
        if (step == NONE) {
            row.add(NONE).add(NONE);
        } else {
            row.add(rules.stepCautions(cup, step) - shown).add(rules.stepMatches(cup, step));
        }
        return shown;
    }

    public int risks(int team, int cup) {
        if (!isTeam(team) || !isCup(cup)) {
            return NONE;
        }
        int near = 0;
        for (int player = 0; player < now.players; player++) {
            if (now.teams[player] == team && rules.banAt(cup, now.cautionsOf(player, cup) + 1) > 0) {
                near |= bit(player);
            }
        }
        row.restart().add(Integer.bitCount(near & ~now.outsOf(team, cup)));
        return near;
    }

    public int tempts(int player, int cup, int n) {
        if (!isPlayer(player) || !isCup(cup) || n < 1 || n > MOST_IN_THOUGHT) {
            return NONE;
        }
        int left = now.barredMatches(player, cup);
        int shown = now.cautionsOf(player, cup);
        int matches = now.playedBy(now.teams[player], cup);
        int missed = 0;
        int came = 0;
        for (int i = 0; i < n; i++) {
            if (left > 0) {
                left--;
                missed++;
            } else {
                shown++;
                int length = rules.banAt(cup, shown);
                left += length;
                came += length > 0 ? 1 : 0;
            }
            matches++;
            shown = rules.isWipedAt(cup, matches) ? 0 : shown;
        }
        if (now.banCount + came > MOST_BANS) {
            return TOO_MANY_BANS;
        }
        row.restart().add(came).add(shown);
        return missed;
    }

    public int costs(int cup, int n) {
        if (!isCup(cup) || n < 0 || n > MOST_IN_THOUGHT) {
            return NONE;
        }
        int cost = 0;
        int came = 0;
        for (int shown = 1; shown <= n; shown++) {
            int length = rules.banAt(cup, shown);
            cost += length;
            came += length > 0 ? 1 : 0;
        }
        row.restart().add(came);
        return cost;
    }

    public int played(int team, int cup) {
        if (!isTeam(team) || !isCup(cup)) {
            return NONE;
        }
        int matches = now.playedBy(team, cup);
        int more = rules.number(cup, ROUND) - matches;
        row.restart().add(more > 0 ? more : NONE);
        return matches;
    }

    public long plan(int player) {
        readMatches();
        text.empty();
        if (!text.isSound()) {
            return wrongSign();
        }
        if (!isPlayer(player)) {
            return NONE;
        }
        thought.copyFrom(now);
        long missed = 0;
        for (int i = 0; i < items.size; i++) {
            if (isMatchOf(i, thought.teams[player]) && thought.serve(player, items.first(i))) {
                missed |= 1L << i;
            }
        }
        row.restart().add(Long.bitCount(missed)).add(thought.leftOf(player));
        return missed;
    }

    public int returns(int player) {
        readMatches();
        text.empty();
        if (!text.isSound()) {
            return wrongSign();
        }
        if (!isPlayer(player)) {
            return NONE;
        }
        thought.copyFrom(now);
        int ahead = 0;
        for (int i = 0; i < items.size; i++) {
            if (isMatchOf(i, thought.teams[player])) {
                if (!thought.serve(player, items.first(i))) {
                    row.restart().add(ahead);
                    return i;
                }
                ahead++;
            }
        }
        return SECOND_NO;
    }

    public int behind() {
        readMatches();
        text.empty();
        if (!text.isSound()) {
            return wrongSign();
        }
        thought.copyFrom(now);
        int served = 0;
        for (int i = 0; i < items.size; i++) {
            for (int player = 0; player < thought.players; player++) {
                if (isMatchOf(i, thought.teams[player]) && thought.serve(player, items.first(i))) {
                    served++;
                }
            }
        }
        row.restart().add(served).add(thought.countOpen());
        return thought.outsOfSome();
    }

    // ---- bans

    public int ban(int ban, int what) {
        if (!isBan(ban) || what < 0 || what >= BAN_NUMBERS) {
            return NONE;
        }
        return now.number(ban, what);
    }

    public int open(int player) {
        if (!isPlayer(player)) {
            return NONE;
        }
        row.restart();
        for (int ban = 0; ban < now.banCount; ban++) {
            if (now.number(ban, PLAYER) == player && now.isOpen(ban)) {
                row.add(ban);
            }
        }
        return row.size;
    }

    public int frees(int player, int cup) {
        if (!isPlayer(player) || !isCup(cup)) {
            return NONE;
        }
        for (int ban = 0; ban < now.banCount; ban++) {
            if (now.bars(ban, player, cup) && now.number(ban, APPEAL) != NO_APPEAL) {
                return SECOND_NO;
            }
        }
        row.restart();
        for (int ban = 0; ban < now.banCount; ban++) {
            if (now.bars(ban, player, cup)) {
                row.add(ban);
            }
        }
        return row.size;
    }

    public int sum(int cup) {
        if (!isCup(cup)) {
            return NONE;
        }
        int came = 0;
        int opened = 0;
        int matches = 0;
        int served = 0;
        for (int ban = 0; ban < now.banCount; ban++) {
            if (now.number(ban, CUP) == cup) {
                came++;
                opened += now.isOpen(ban) ? 1 : 0;
                matches += now.number(ban, AT_FIRST);
                served += now.number(ban, SERVED);
            }
        }
        row.restart().add(opened).add(matches).add(served);
        return came;
    }

    public int worst() {
        int found = NONE;
        int mostLeft = NONE;
        for (int player = 0; player < now.players; player++) {
            int left = now.leftOf(player);
            if (left > mostLeft) {
                mostLeft = left;
                found = player;
            }
        }
        if (found != NONE) {
            row.restart().add(mostLeft);
        }
        return found;
    }

    public int most(int cup) {
        if (!isCup(cup)) {
            return NONE;
        }
        int found = NONE;
        int mostShown = NONE;
        int ties = 0;
        for (int player = 0; player < now.players; player++) {
            int shown = now.cautionsOf(player, cup);
            if (shown > mostShown) {
                mostShown = shown;
                found = player;
                ties = 0;
            }
            ties += shown == mostShown ? 1 : 0;
        }
        if (found == NONE) {
            return SECOND_NO;
        }
        row.restart().add(mostShown).add(ties);
        return found;
    }

    public int longest(int cup) {
        if (!isCup(cup)) {
            return NONE;
        }
        int found = NONE;
        int length = 0;
        for (int ban = 0; ban < now.banCount; ban++) {
            if (now.number(ban, CUP) == cup && now.number(ban, AT_FIRST) > length) {
                found = ban;
                length = now.number(ban, AT_FIRST);
            }
        }
        if (found == NONE || length < 1) {
            return SECOND_NO;
        }
        row.restart().add(length).add(now.number(found, SERVED) * THOUSANDTHS / length);
        return found;
    }

    // ---- how fair

    public int points(int team) {
        if (!isTeam(team)) {
            return NONE;
        }
        row.restart();
        for (int what = 0; what < CARD_NUMBERS; what++) {
            row.add(now.teamCards[team * CARD_NUMBERS + what]);
        }
        return now.pointsOf(team);
    }

    public int fair() {
        row.restart();
        int ranked = 0;
        for (int place = 0; place < TEAMS; place++) {
            int next = fairestBeside(ranked);
            ranked |= bit(next);
            row.add(next);
        }
        return row.at(0);
    }

    public int cards(int player) {
        if (!isPlayer(player)) {
            return NONE;
        }
        int start = player * CARD_NUMBERS;
        row.restart().add(now.playerCards[start + RED_CARD]).add(now.playerCards[start + SENT_OFF]);
        return now.playerCards[start + CAUTION];
    }

    // ---- the book, undone, counted

    public int keeps() {
        kept.copyFrom(now);
        isKept = true;
        return kept.matches;
    }

    public int back() {
        if (!isKept) {
            return SECOND_NO;
        }
        history.keep(now);
        now.copyFrom(kept);
        return now.matches;
    }

    public int book(int i, int what) {
        if (i < 0 || i >= now.countEntries() || what < 0 || what >= ENTRY_NUMBERS) {
            return NONE;
        }
        return now.entryNumber(i, what);
    }

    public int told(int player) {
        if (!isPlayer(player)) {
            return NONE;
        }
        int all = 0;
        row.restart();
        for (int what = 0; what < WHATS; what++) {
            int found = now.countEntriesOf(player, what);
            row.add(found);
            all += found;
        }
        return all;
    }

    public int undo() {
        return history.takeBack(now) ? history.size : SECOND_NO;
    }

    public int count(int what) {
        switch (what) {
            case 0:
                return now.players;
            case 1:
                return now.banCount;
            case 2:
                return now.countOpen();
            case 3:
                return now.countPending();
            case 4:
                return now.matches;
            case 5:
                return history.size;
            case 6:
                return now.countEntries();
            case 7:
                return now.countCautions();
            case 8:
                return now.outsOfSome();
            case 9:
                return row.size;
            case 10:
                return text.length;
            default:
                return NONE;
        }
    }

    public long row(int i) throws NoSuchElementException {
        if (i < 0 || i >= row.size) {
            throw new NoSuchElementException();
        }
        return row.at(i);
    }

    // ---- what there is

    private static boolean isCup(int cup) {
        return cup >= 0 && cup < CUPS;
    }

    private static boolean isTeam(int team) {
        return team >= 0 && team < TEAMS;
    }

    private static boolean areRivals(int a, int b) {
        return isTeam(a) && isTeam(b) && a != b;
    }

    private boolean isPlayer(int player) {
        return player >= 0 && player < now.players;
    }

    private boolean isBan(int ban) {
        return ban >= 0 && ban < now.banCount;
    }

    private static int bit(int place) {
        return 1 << place;
    }

    private static boolean hasBit(int bits, int place) {
        return (bits & bit(place)) != 0;
    }

    private boolean isMatchOf(int item, int team) {
        return items.second(item) == team || items.third(item) == team;
    }

    private int fairestBeside(int ranked) {
        int found = NONE;
        for (int team = 0; team < TEAMS; team++) {
            if (!hasBit(ranked, team) && (found == NONE || now.pointsOf(team) < now.pointsOf(found))) {
                found = team;
            }
        }
        return found;
    }

    // ---- reading and writing texts

    private int wrongSign() {
        return WRONG_SIGN - text.fault;
    }

    private int readRules() {
        draft.reset();
        boolean more = text.startReading();
        int told = 0;
        for (int i = 0; i < MOST_SIGNS && more; i++) {
            int cup = text.digit(0, CUPS - 1);
            if (cup != NONE && hasBit(told, cup)) {
                text.failAt(text.at - 1);
            }
            readRulesOf(cup);
            if (text.isSound()) {
                told |= bit(cup);
            }
            more = text.goesOnBehind(';');
        }
        return Integer.bitCount(told);
    }

    private void readRulesOf(int cup) {
        boolean inAll = text.eitherOf('o', 'a') == 'a';
        int red = text.digit(1, MOST_BAN_MATCHES);
        text.expect('x');
        int round = text.number(0, MOST_ROUND);
        if (text.isSound()) {
            draft.set(cup, SERVED_IN_ALL, inAll ? 1 : 0);
            draft.set(cup, RED, red);
            draft.set(cup, ROUND, round);
        }
        if (text.isSound() && text.peek() == ':') {
            readStepsOf(cup);
        }
    }

    private void readStepsOf(int cup) {
        char ahead = ':';
        int last = 0;
        for (int step = 0; step < MOST_STEPS; step++) {
            text.expect(ahead);
            int shown = text.number(last + 1, MOST_STEP_CAUTIONS);
            text.expect('/');
            int matches = text.digit(1, MOST_BAN_MATCHES);
            if (!text.isSound()) {
                return;
            }
            draft.addStep(cup, shown, matches);
            last = shown;
            ahead = ',';
            if (text.peek() != ',') {
                return;
            }
        }
    }

    private void readTeams() {
        boolean more = text.startReading();
        items.clear();
        for (int i = 0; i < MOST_PLAYERS && more; i++) {
            items.add(text.digit(0, TEAMS - 1), 0, 0);
            more = text.isSound() && !text.isRead();
        }
        if (more) {
            text.failAt(MOST_PLAYERS);
        }
    }

    private void readCards() {
        boolean more = text.startReading();
        items.clear();
        for (int i = 0; i < MOST_SIGNS && more; i++) {
            int kind = text.eitherOf('y', 'r') == 'r' ? RED_CARD : CAUTION;
            items.add(kind, text.number(0, now.players - 1), 0);
            more = text.goesOnBehind(',');
        }
    }

    private void readGiven() {
        boolean more = text.startReading();
        items.clear();
        for (int i = 0; i < MOST_SIGNS && more; i++) {
            int player = text.number(0, now.players - 1);
            text.expect('c');
            int cup = text.digit(0, CUPS - 1);
            text.expect('n');
            items.add(player, cup, text.digit(1, MOST_BAN_MATCHES));
            more = text.goesOnBehind(',');
        }
    }

    private void readMatches() {
        boolean more = text.startReading();
        items.clear();
        for (int i = 0; i < MOST_SIGNS && more; i++) {
            int cup = text.digit(0, CUPS - 1);
            int team = text.digit(0, TEAMS - 1);
            int rival = text.digit(0, TEAMS - 1);
            if (rival != NONE && rival == team) {
                text.failAt(text.at - 1);
            }
            items.add(cup, team, rival);
            more = text.goesOnBehind(',');
        }
    }

    private void writeRules() {
        page.empty();
        for (int cup = 0; cup < CUPS; cup++) {
            if (cup > 0) {
                page.add(';');
            }
            page.addNumber(cup);
            page.add(rules.number(cup, SERVED_IN_ALL) == 1 ? 'a' : 'o');
            page.addNumber(rules.number(cup, RED));
            page.add('x');
            page.addNumber(rules.number(cup, ROUND));
            for (int step = 0; step < rules.steps(cup); step++) {
                page.add(step == 0 ? ':' : ',');
                page.addNumber(rules.stepCautions(cup, step));
                page.add('/');
                page.addNumber(rules.stepMatches(cup, step));
            }
        }
    }

    /** Signs, and a reader that goes over them once and remembers the first sign that can't stand where it is. */
    private static final class Text {
        private final char[] signs = new char[MOST_SIGNS];
        private int length;
        private int at;
        private int fault = NONE;

        boolean addFour(int v) {
            if (length + 4 > MOST_SIGNS) {
                return false;
            }
            for (int shift = 24; shift >= 0; shift -= 8) {
                add((char) ((v >>> shift) & 255));
            }
            return true;
        }

        void add(char sign) {
            if (length < MOST_SIGNS) {
                signs[length] = sign;
                length++;
            }
        }

        void addNumber(int number) {
            if (number >= 10) {
                add((char) ('0' + number / 10 % 10));
            }
            add((char) ('0' + number % 10));
        }

        boolean cutTo(int n) {
            if (n < 0 || n > length) {
                return false;
            }
            length = n;
            return true;
        }

        void empty() {
            length = 0;
        }

        int signAt(int place) {
            return place >= 0 && place < length ? signs[place] : NONE;
        }

        /** Whether there is anything to read. */
        boolean startReading() {
            at = 0;
            fault = NONE;
            return length > 0;
        }

        boolean isSound() {
            return fault == NONE;
        }

        boolean isRead() {
            return at >= length;
        }

        int peek() {
            return at >= 0 && at < length ? signs[at] : NONE;
        }

        void failAt(int place) {
            if (fault == NONE) {
                fault = place;
            }
        }

        void expect(char sign) {
            eitherOf(sign, sign);
        }

        /** The one of two signs that stands next, NONE where neither does. */
        int eitherOf(char one, char other) {
            int sign = peek();
            if (!isSound() || (sign != one && sign != other)) {
                failAt(at);
                return NONE;
            }
            at++;
            return sign;
        }

        private boolean isDigitNext() {
            int sign = peek();
            return sign >= '0' && sign <= '9';
        }

        /** A digit from low (0 or more) to high (9 or less). */
        int digit(int low, int high) {
            int value = peek() - '0';
            if (!isSound() || value < low || value > high) {
                failAt(at);
                return NONE;
            }
            at++;
            return value;
        }

        /** A number of one or two digits; behind a nought none is read, so that it can't be ahead of another. */
        int number(int low, int high) {
            int value = digit(0, 9);
            if (value > 0 && isDigitNext()) {
                value = 10 * value + digit(0, 9);
            }
            if (isSound() && (value < low || value > high)) {
                failAt(at - 1);
            }
            return isSound() ? value : NONE;
        }

        /** Whether a separator stands next, so that another part must follow; any other sign is a fault. */
        boolean goesOnBehind(char separator) {
            if (!isSound() || isRead()) {
                return false;
            }
            expect(separator);
            return isSound();
        }
    }

    /** What a text told: three numbers each. */
    private static final class Items {
        private final int[] numbers = new int[MOST_ITEMS * ITEM_NUMBERS];
        private int size;

        void clear() {
            size = 0;
        }

        void add(int first, int second, int third) {
            if (size < MOST_ITEMS) {
                int start = size * ITEM_NUMBERS;
                numbers[start] = first;
                numbers[start + 1] = second;
                numbers[start + 2] = third;
                size++;
            }
        }

        int first(int item) {
            return numbers[item * ITEM_NUMBERS];
        }

        int second(int item) {
            return numbers[item * ITEM_NUMBERS + 1];
        }

        int third(int item) {
            return numbers[item * ITEM_NUMBERS + 2];
        }
    }

    /** The ROW: no call tells more numbers than there can be BANS. */
    private static final class Row {
        private final int[] numbers = new int[MOST_BANS];
        private int size;

        Row restart() {
            size = 0;
            return this;
        }

        Row add(int number) {
            if (size < numbers.length) {
                numbers[size] = number;
                size++;
            }
            return this;
        }

        int at(int i) {
            return i >= 0 && i < size ? numbers[i] : NONE;
        }
    }

    /** RULES of all CUPS. */
    private static final class Rules {
        private final int[] numbers = new int[CUPS * RULE_NUMBERS];

        Rules() {
            reset();
        }

        void reset() {
            Arrays.fill(numbers, 0);
            for (int cup = 0; cup < CUPS; cup++) {
                set(cup, RED, 1);
            }
        }

        void copyFrom(Rules other) {
            System.arraycopy(other.numbers, 0, numbers, 0, numbers.length);
        }

        int number(int cup, int what) {
            return numbers[cup * RULE_NUMBERS + what];
        }

        void set(int cup, int what, int value) {
            numbers[cup * RULE_NUMBERS + what] = value;
        }

        int steps(int cup) {
            return number(cup, STEPS);
        }

        int stepCautions(int cup, int step) {
            return number(cup, FIRST_STEP + 2 * step);
        }

        int stepMatches(int cup, int step) {
            return number(cup, FIRST_STEP + 2 * step + 1);
        }

        void addStep(int cup, int shown, int matches) {
            int step = steps(cup);
            if (step < MOST_STEPS) {
                set(cup, FIRST_STEP + 2 * step, shown);
                set(cup, FIRST_STEP + 2 * step + 1, matches);
                set(cup, STEPS, step + 1);
            }
        }

        /** MATCHES of the STEP that has just so many CAUTIONS, 0 where none has. */
        int banAt(int cup, int shown) {
            for (int step = 0; step < steps(cup); step++) {
                if (stepCautions(cup, step) == shown) {
                    return stepMatches(cup, step);
                }
            }
            return 0;
        }

        /** The first STEP above so many CAUTIONS, or NONE. */
        int nextStep(int cup, int shown) {
            for (int step = 0; step < steps(cup); step++) {
                if (stepCautions(cup, step) > shown) {
                    return step;
                }
            }
            return NONE;
        }

        boolean isWipedAt(int cup, int matches) {
            return matches > 0 && matches == number(cup, ROUND);
        }
    }

    /** All that is, RULES aside. */
    private static final class State {
        private int players;
        private int matches;
        private int banCount;
        private int entriesEver;
        private final int[] teams = new int[MOST_PLAYERS];
        private final int[] cautionCounts = new int[MOST_PLAYERS * CUPS];
        private final int[] playedCounts = new int[TEAMS * CUPS];
        private final int[] playerCards = new int[MOST_PLAYERS * CARD_NUMBERS];
        private final int[] teamCards = new int[TEAMS * CARD_NUMBERS];
        private final int[] banNumbers = new int[MOST_BANS * BAN_NUMBERS];
        private final int[] entries = new int[MOST_ENTRIES * ENTRY_NUMBERS];

        void copyFrom(State other) {
            players = other.players;
            matches = other.matches;
            banCount = other.banCount;
            entriesEver = other.entriesEver;
            System.arraycopy(other.teams, 0, teams, 0, teams.length);
            System.arraycopy(other.cautionCounts, 0, cautionCounts, 0, cautionCounts.length);
            System.arraycopy(other.playedCounts, 0, playedCounts, 0, playedCounts.length);
            System.arraycopy(other.playerCards, 0, playerCards, 0, playerCards.length);
            System.arraycopy(other.teamCards, 0, teamCards, 0, teamCards.length);
            System.arraycopy(other.banNumbers, 0, banNumbers, 0, banNumbers.length);
            System.arraycopy(other.entries, 0, entries, 0, entries.length);
        }

        /** Nothing but PLAYERS, of the TEAMS told. */
        void startWith(Items told) {
            players = Math.min(told.size, MOST_PLAYERS);
            for (int player = 0; player < players; player++) {
                teams[player] = told.first(player);
            }
            matches = 0;
            banCount = 0;
            entriesEver = 0;
            Arrays.fill(cautionCounts, 0);
            Arrays.fill(playedCounts, 0);
            Arrays.fill(playerCards, 0);
            Arrays.fill(teamCards, 0);
        }

        int membersOf(int team) {
            int members = 0;
            for (int player = 0; player < players; player++) {
                if (teams[player] == team) {
                    members |= bit(player);
                }
            }
            return members;
        }

        int cautionsOf(int player, int cup) {
            return cautionCounts[player * CUPS + cup];
        }

        void addCaution(int player, int cup, int more) {
            cautionCounts[player * CUPS + cup] += more;
        }

        int countCautions() {
            int all = 0;
            for (int i = 0; i < cautionCounts.length; i++) {
                all += cautionCounts[i];
            }
            return all;
        }

        int playedBy(int team, int cup) {
            return playedCounts[team * CUPS + cup];
        }

        /** A TEAM has played one more: how many it has then. */
        int addPlayed(int team, int cup) {
            playedCounts[team * CUPS + cup]++;
            return playedBy(team, cup);
        }

        void wipeCautions(int team, int cup) {
            for (int player = 0; player < players; player++) {
                if (teams[player] == team) {
                    cautionCounts[player * CUPS + cup] = 0;
                }
            }
        }

        void addCard(int player, int what) {
            playerCards[player * CARD_NUMBERS + what]++;
            teamCards[teams[player] * CARD_NUMBERS + what]++;
        }

        int pointsOf(int team) {
            int start = team * CARD_NUMBERS;
            return teamCards[start + CAUTION] + RED_POINTS * teamCards[start + RED_CARD];
        }

        int number(int ban, int what) {
            return banNumbers[ban * BAN_NUMBERS + what];
        }

        void set(int ban, int what, int value) {
            banNumbers[ban * BAN_NUMBERS + what] = value;
        }

        boolean isOpen(int ban) {
            return number(ban, LEFT) > 0;
        }

        boolean isPending(int ban) {
            return number(ban, APPEAL) == PENDING;
        }

        /** Whether a BAN of a PLAYER is OPEN and of a kind that counts in a CUP, an APPEAL aside. */
        boolean concerns(int ban, int player, int cup) {
            return number(ban, PLAYER) == player && number(ban, LEFT) > 0
                && (number(ban, ALL) == 1 || number(ban, CUP) == cup);
        }

        boolean bars(int ban, int player, int cup) {
            return concerns(ban, player, cup) && !isPending(ban);
        }

        int firstBar(int player, int cup) {
            for (int ban = 0; ban < banCount; ban++) {
                if (bars(ban, player, cup)) {
                    return ban;
                }
            }
            return NONE;
        }

        /** Each MATCH serves one BAN alone, so that MATCHES of one CUP that are missed add up. */
        int barredMatches(int player, int cup) {
            int missed = 0;
            for (int ban = 0; ban < banCount; ban++) {
                missed += bars(ban, player, cup) ? number(ban, LEFT) : 0;
            }
            return missed;
        }

        int pendingMatches(int player, int cup) {
            int missed = 0;
            for (int ban = 0; ban < banCount; ban++) {
                missed += concerns(ban, player, cup) && isPending(ban) ? number(ban, LEFT) : 0;
            }
            return missed;
        }

        int leftOf(int player) {
            int left = 0;
            for (int ban = 0; ban < banCount; ban++) {
                left += number(ban, PLAYER) == player ? number(ban, LEFT) : 0;
            }
            return left;
        }

        int outsOf(int team, int cup) {
            int outs = 0;
            for (int player = 0; player < players; player++) {
                if (teams[player] == team && firstBar(player, cup) != NONE) {
                    outs |= bit(player);
                }
            }
            return outs;
        }

        int outsOfSome() {
            int outs = 0;
            for (int player = 0; player < players; player++) {
                for (int cup = 0; cup < CUPS; cup++) {
                    outs |= firstBar(player, cup) != NONE ? bit(player) : 0;
                }
            }
            return outs;
        }

        int countOpen() {
            int found = 0;
            for (int ban = 0; ban < banCount; ban++) {
                found += isOpen(ban) ? 1 : 0;
            }
            return found;
        }

        int countPending() {
            int found = 0;
            for (int ban = 0; ban < banCount; ban++) {
                found += isPending(ban) ? 1 : 0;
            }
            return found;
        }

        /** The number of a new BAN, NONE where there is no place for it. */
        int addBan(int player, int cup, int length, int all) {
            if (banCount >= MOST_BANS) {
                return NONE;
            }
            int ban = banCount;
            banCount++;
            set(ban, PLAYER, player);
            set(ban, CUP, cup);
            set(ban, LEFT, length);
            set(ban, ALL, all);
            set(ban, APPEAL, NO_APPEAL);
            set(ban, AT_FIRST, length);
            set(ban, MATCH, matches);
            set(ban, SERVED, 0);
            enter(CAME, ban);
            return ban;
        }

        /** A PLAYER who is OUT of a CUP serves a MATCH of it: whether it was OUT. */
        boolean serve(int player, int cup) {
            int ban = firstBar(player, cup);
            if (ban == NONE) {
                return false;
            }
            set(ban, LEFT, number(ban, LEFT) - 1);
            set(ban, SERVED, number(ban, SERVED) + 1);
            enter(MATCH_SERVED, ban);
            if (!isOpen(ban)) {
                enter(OVER, ban);
            }
            return true;
        }

        void settle(int ban, boolean granted, int more) {
            set(ban, APPEAL, DECIDED);
            set(ban, LEFT, granted ? 0 : number(ban, LEFT) + more);
            enter(granted ? STRUCK : NOT_GRANTED, ban);
        }

        void forgive(int ban, int n) {
            set(ban, LEFT, number(ban, LEFT) - n);
            if (isOpen(ban)) {
                return;
            }
            if (isPending(ban)) {
                set(ban, APPEAL, DECIDED);
            }
            enter(STRUCK, ban);
        }

        void enter(int what, int ban) {
            int start = entriesEver % MOST_ENTRIES * ENTRY_NUMBERS;
            entries[start] = what;
            entries[start + 1] = ban;
            entries[start + 2] = matches;
            entriesEver++;
        }

        int countEntries() {
            return Math.min(entriesEver, MOST_ENTRIES);
        }

        /** A number of the entry that is so many behind the latest. */
        int entryNumber(int i, int what) {
            return entries[(entriesEver - 1 - i) % MOST_ENTRIES * ENTRY_NUMBERS + what];
        }

        int countEntriesOf(int player, int what) {
            int found = 0;
            for (int i = 0; i < countEntries(); i++) {
                if (entryNumber(i, 0) == what && number(entryNumber(i, 1), PLAYER) == player) {
                    found++;
                }
            }
            return found;
        }
    }

    /** A MATCH while it is played, in a state that is thrown away if a card can't be shown. */
    private static final class Match {
        private final State state;
        private final Rules rules;
        private final int cup;
        private final int a;
        private final int b;
        private int outs;
        private int cautioned;
        private int sentOff;

        Match(State state, Rules rules, int cup, int a, int b) {
            this.state = state;
            this.rules = rules;
            this.cup = cup;
            this.a = a;
            this.b = b;
        }

        /** Those who are OUT serve: how many. */
        int begin() {
            state.matches++;
            outs = state.outsOf(a, cup) | state.outsOf(b, cup);
            for (int player = 0; player < state.players; player++) {
                if (hasBit(outs, player)) {
                    state.serve(player, cup);
                }
            }
            return Integer.bitCount(outs);
        }

        /** A card is shown: 0, or below 0 why it can't be. */
        int show(int kind, int player) {
            int team = state.teams[player];
            if (team != a && team != b) {
                return SECOND_NO;
            }
            if (hasBit(outs | sentOff, player)) {
                return THIRD_NO;
            }
            int length = banBy(kind, player);
            if (length > 0 && state.banCount >= MOST_BANS) {
                return TOO_MANY_BANS;
            }
            state.addCard(player, kind);
            if (kind == RED_CARD || hasBit(cautioned, player)) {
                sentOff |= bit(player);
                state.addCard(player, SENT_OFF);
            }
            if (kind == CAUTION) {
                state.addCaution(player, cup, hasBit(cautioned, player) ? -1 : 1);
                cautioned |= bit(player);
            }
            if (length > 0) {
                state.addBan(player, cup, length, rules.number(cup, SERVED_IN_ALL));
            }
            return 0;
        }

        /** MATCHES of the BAN that a card brings, 0 if it brings none. */
        private int banBy(int kind, int player) {
            if (kind == RED_CARD) {
                return rules.number(cup, RED);
            }
            return hasBit(cautioned, player) ? 1 : rules.banAt(cup, state.cautionsOf(player, cup) + 1);
        }

        void finish() {
            finishOf(a);
            finishOf(b);
        }

        private void finishOf(int team) {
            if (rules.isWipedAt(cup, state.addPlayed(team, cup))) {
                state.wipeCautions(team, cup);
            }
        }
    }

    /** What was ahead of the latest ACTS; places are made as they are first needed, so that new objects stay small. */
    private static final class History {
        private final State[] states = new State[MOST_UNDONE];
        private int next;
        private int size;

        void forget() {
            size = 0;
        }

        void keep(State state) {
            State place = states[next];
            if (place == null) {
                place = new State();
                states[next] = place;
            }
            place.copyFrom(state);
            next = (next + 1) % MOST_UNDONE;
            size = Math.min(size + 1, MOST_UNDONE);
        }

        /** The state ahead of the latest ACT is so again; false if none can be undone. */
        boolean takeBack(State state) {
            if (size == 0) {
                return false;
            }
            int latest = (next + MOST_UNDONE - 1) % MOST_UNDONE;
            State place = states[latest];
            if (place == null) {
                return false;
            }
            state.copyFrom(place);
            next = latest;
            size--;
            return true;
        }
    }
}
