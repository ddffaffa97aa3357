/**
 * A hall in which it is told who speaks next. What each call promises stands in the project's document;
 * words in capitals in the comments here are that document's terms.
 *
 * All rows are made with the object and used again, so that no call makes anything new.
 */
public final class SpeakHall {
    private static final int BEYOND = -100001;
    private static final int MISSING = -100002;
    private static final int SIZE = -100003;
    private static final int KIND = -100004;
    private static final int FULL = -100005;
    private static final int NONE = -100006;
    private static final int BUSY = -100007;
    private static final int NEVER = -100008;

    private static final int MOST_MEMBERS = 10;
    private static final int DELEGATIONS = 5;
    private static final int MOST_ASKINGS = 20;
    private static final int MOST_KEYS = 6;
    private static final int LAST_KEY = 9;
    private static final int MOST_BEHIND = 4;
    private static final int MOST_LIMIT = 50;
    private static final int MOST_WAIT = 100;
    private static final int MOST_FIT_TICKS = 1000;
    private static final int MOST_TICKS = 100;
    private static final int MOST_HANDS = 1000;
    private static final int MOST_DOUBT = 100;
    private static final int MOST_ROWS = 100;
    private static final int MOST_RIGHTS = 40;
    private static final int MOST_RIGHT_TICKS = 200;
    private static final int SHEETS = 4;
    private static final int MOST_NUMBERS = 12;

    private static final int KINDS = 4;
    private static final int GUEST = 1;
    private static final int CHAIR = 2;
    private static final int EXPERT = 3;

    private static final int SORTS = 3;
    private static final int SPEECH = 0;
    private static final int REPLY = 1;
    private static final int POINT = 2;
    private static final int ANY_SORT = -1;

    private static final int NOBODY = -1;
    private static final int NEITHER = 0;
    private static final int YES = 1;
    private static final int NO = 2;

    private final Roster roster;
    private final Standing standing;
    private final Standing supposed;
    private final Rule rule;
    private final Listing list;
    private final Floor floor;
    private final Ballot ballot;
    private final Minutes minutes;
    private final Sheet[] sheets;
    private int findings;

    public SpeakHall() {
        roster = new Roster();
        standing = new Standing(roster);
        supposed = new Standing(roster);
        rule = new Rule(roster);
        list = new Listing(roster, rule, standing);
        floor = new Floor();
        ballot = new Ballot(roster);
        minutes = new Minutes();
        sheets = new Sheet[SHEETS];
        for (int s = 0; s < sheets.length; s++) {
            sheets[s] = new Sheet();
        }
        findings = 0;
    }

    // ---- members

    public int member(int kind, int delegation) {
        if (!isWithin(kind, 0, KINDS - 1) || !isWithin(delegation, 0, DELEGATIONS - 1)) {
            return finding(BEYOND);
        }
        if (roster.size() >= MOST_MEMBERS) {
            return finding(FULL);
        }
        return roster.enter(kind, delegation);
    }

    public int as(int member, int kind) {
        if (!roster.has(member) || !isWithin(kind, 0, KINDS - 1)) {
            return finding(BEYOND);
        }
        if (!roster.isOfKind(member, kind)) {
            return finding(KIND);
        }
        return member;
    }

    public int present(int member, boolean is) {
        if (!roster.has(member)) {
            return finding(BEYOND);
        }
        if (roster.isHere(member) == is) {
            return 0;
        }
        roster.setHere(member, is);
        return 1;
    }

    public int of(int member, int what) {
        if (!roster.has(member)) {
            return finding(BEYOND);
        }
        switch (what) {
            case 0: return roster.kindOf(member);
            case 1: return roster.delegationOf(member);
            case 2: return roster.isHere(member) ? 1 : 0;
            case 3: return standing.timeOf(member);
            case 4: return standing.speechesOf(member);
            default: return finding(BEYOND);
        }
    }

    public int time(int delegation) {
        if (!isWithin(delegation, 0, DELEGATIONS - 1)) {
            return finding(BEYOND);
        }
        return standing.delegationTime(delegation);
    }

    // ---- askings, the rule

    public int ask(int member, int sort) {
        if (!isAsking(member, sort)) {
            return finding(BEYOND);
        }
        if (standing.find(member, sort) != NOBODY) {
            return finding(SIZE);
        }
        if (standing.size() >= MOST_ASKINGS) {
            return finding(FULL);
        }
        standing.append(member, sort);
        return standing.size();
    }

    public int withdraw(int member, int sort) {
        if (!isAsking(member, sort)) {
            return finding(BEYOND);
        }
        int asking = standing.find(member, sort);
        if (asking == NOBODY) {
            return finding(NONE);
        }
        standing.drop(asking);
        return standing.size();
    }

    public int key(int key) {
        if (!isKey(key)) {
            return finding(BEYOND);
        }
        if (rule.has(key)) {
            return finding(SIZE);
        }
        if (rule.size() >= MOST_KEYS) {
            return finding(FULL);
        }
        rule.append(key);
        return rule.size();
    }

    public int noKeys() {
        int had = rule.size();
        rule.clear();
        return had;
    }

    public int listed(int place, boolean sort) {
        list.lay();
        if (!isWithin(place, 0, list.size() - 1)) {
            return finding(NONE);
        }
        int asking = list.askingAt(place);
        return sort ? standing.sortAt(asking) : standing.memberAt(asking);
    }

    public int place(int member, int sort) {
        if (!isAsking(member, sort)) {
            return finding(BEYOND);
        }
        int asking = standing.find(member, sort);
        if (asking == NOBODY || !roster.isHere(member)) {
            return finding(NONE);
        }
        list.lay();
        return list.placeOf(asking);
    }

    public int wait(int member) {
        if (!roster.has(member)) {
            return finding(BEYOND);
        }
        if (standing.find(member, SPEECH) == NOBODY || !roster.isHere(member)) {
            return finding(NONE);
        }
        supposed.become(standing);
        for (int ahead = 0; ahead < MOST_WAIT; ahead++) {
            int asking = rule.firstOf(supposed, SPEECH);
            int speaker = supposed.memberAt(asking);
            if (speaker == member) {
                return ahead;
            }
            supposed.take(asking);
            supposed.addTime(speaker, ticksFor(speaker, SPEECH));
            supposed.append(speaker, SPEECH);
        }
        return finding(NEVER);
    }

    public int fits(int t, boolean skipping) {
        if (!isWithin(t, 0, MOST_FIT_TICKS)) {
            return finding(BEYOND);
        }
        list.lay();
        int left = t;
        int fitting = 0;
        for (int place = 0; place < list.size(); place++) {
            int asking = list.askingAt(place);
            int ticks = ticksFor(standing.memberAt(asking), standing.sortAt(asking));
            if (ticks <= left) {
                left -= ticks;
                fitting++;
            } else if (!skipping) {
                return fitting;
            }
        }
        return fitting;
    }

    // ---- the floor

    public int begin() {
        if (floor.isHeld()) {
            return finding(BUSY);
        }
        int asking = rule.firstOf(standing, ANY_SORT);
        if (asking == NOBODY) {
            return finding(NONE);
        }
        return takeFloor(asking);
    }

    public int cut() {
        int asking = rule.firstOf(standing, POINT);
        if (!floor.isHeld() || asking == NOBODY) {
            return finding(NONE);
        }
        if (floor.behind() >= MOST_BEHIND) {
            return finding(FULL);
        }
        return takeFloor(asking);
    }

    public int tick(int n) {
        if (!isWithin(n, 1, MOST_TICKS)) {
            return finding(BEYOND);
        }
        int held = 0;
        for (int i = 0; i < n && floor.isHeld(); i++) {
            standing.addTime(floor.holder(), 1);
            floor.spendTick();
            if (floor.ticksLeft() <= 0) {
                endHolding();
            }
            held++;
        }
        return held;
    }

    public int yield() {
        if (!floor.isHeld()) {
            return finding(NONE);
        }
        endHolding();
        return floor.holder();
    }

    public int floor(int what) {
        if (!isWithin(what, 0, 3)) {
            return finding(BEYOND);
        }
        if (what == 3) {
            return floor.behind();
        }
        if (!floor.isHeld()) {
            return finding(NONE);
        }
        switch (what) {
            case 0: return floor.holder();
            case 1: return floor.sortHeld();
            default: return floor.ticksLeft();
        }
    }

    public int limit(int sort, int v) {
        if (!isWithin(sort, 0, SORTS - 1) || !isWithin(v, 1, MOST_LIMIT)) {
            return finding(BEYOND);
        }
        int was = floor.limitOf(sort);
        floor.setLimit(sort, v);
        return was;
    }

    // ---- votes

    public int vote() {
        if (ballot.isOpen()) {
            return finding(BUSY);
        }
        ballot.open();
        return 1;
    }

    public int say(int member, int v) {
        if (!roster.has(member) || !isWithin(v, NEITHER, NO)) {
            return finding(BEYOND);
        }
        if (!ballot.isOpen()) {
            return finding(NONE);
        }
        if (!roster.mayVote(member)) {
            return finding(KIND);
        }
        int said = ballot.saidBy(member);
        ballot.mark(member, v);
        return said;
    }

    public int votes(int v) {
        if (!isWithin(v, NEITHER, NO)) {
            return finding(BEYOND);
        }
        if (!ballot.isOpen()) {
            return finding(NONE);
        }
        return ballot.count(v);
    }

    public int close(int need) {
        if (!isNeed(need)) {
            return finding(BEYOND);
        }
        if (!ballot.isOpen()) {
            return finding(NONE);
        }
        boolean passed = passes(need, ballot.count(YES), ballot.count(NO));
        ballot.shut();
        return passed ? 1 : 0;
    }

    public int hands(int need, int a, int b, int e) {
        if (!isNeed(need) || !isWithin(a, 0, MOST_HANDS) || !isWithin(b, 0, MOST_HANDS)
                || !isWithin(e, 0, MOST_DOUBT)) {
            return finding(BEYOND);
        }
        // More yes or less no never turns a pass into a failure, so the two outermost counts tell of all.
        if (passes(need, Math.max(0, a - e), b + e)) {
            return 1;
        }
        return passes(need, a + e, Math.max(0, b - e)) ? 2 : 0;
    }

    // ---- fairness, minutes

    public int apart() {
        int most = 0;
        int least = 0;
        boolean seen = false;
        for (int d = 0; d < DELEGATIONS; d++) {
            if (roster.isPeopled(d)) {
                int its = standing.delegationTime(d);
                most = seen ? Math.max(most, its) : its;
                least = seen ? Math.min(least, its) : its;
                seen = true;
            }
        }
        return most - least;
    }

    public int uneven(boolean below) {
        int above = gapsOfPairs();
        int under = peopledDelegations() * allTime();
        int divisor = greatestDivisor(above, under);
        // Only 0 by 0 has no divisor: there is no TIME.
        if (divisor == 0) {
            return below ? 1 : 0;
        }
        return (below ? under : above) / divisor;
    }

    public int minutes(int i, int what) {
        if (!minutes.has(i)) {
            return finding(BEYOND);
        }
        switch (what) {
            case 0: return minutes.memberAt(i);
            case 1: return minutes.sortAt(i);
            case 2: return minutes.ticksAsOf(i, minutes.latestCount());
            case 3: return minutes.firstTicksAt(i);
            default: return finding(BEYOND);
        }
    }

    public int right(int i, int ticks) {
        if (!minutes.has(i) || !isWithin(ticks, 0, MOST_RIGHT_TICKS)) {
            return finding(BEYOND);
        }
        if (minutes.latestCount() >= MOST_RIGHTS) {
            return finding(FULL);
        }
        minutes.correct(i, ticks);
        return minutes.latestCount();
    }

    public int sum(int member, int k) {
        if (!roster.has(member) || !isWithin(k, 0, minutes.latestCount())) {
            return finding(BEYOND);
        }
        return minutes.ticksOfMember(member, k);
    }

    // ---- sheets

    public int sheet(int s, int bits, int n) {
        Sheet chosen = sheetAt(s);
        if (chosen == null || !isWidth(bits)) {
            return finding(BEYOND);
        }
        if (n < 0) {
            return finding(SIZE);
        }
        if (n > MOST_NUMBERS) {
            return finding(BEYOND);
        }
        chosen.lay(bits, n);
        return chosen.size();
    }

    public int put(int s, int i, int v) {
        Sheet chosen = sheetAt(s);
        if (chosen == null) {
            return finding(BEYOND);
        }
        if (chosen.isMissing()) {
            return finding(MISSING);
        }
        if (!isWithin(i, 0, chosen.size() - 1)) {
            return finding(BEYOND);
        }
        chosen.store(i, v);
        return 0;
    }

    public int copy(int s, int from, int t, int to, int n) {
        Sheet source = sheetAt(s);
        Sheet target = sheetAt(t);
        if (source == null || target == null) {
            return finding(BEYOND);
        }
        if (source.isMissing() || target.isMissing()) {
            return finding(MISSING);
        }
        if (source.width() != target.width()) {
            return finding(KIND);
        }
        if (!source.spans(from, n) || !target.spans(to, n)) {
            return finding(BEYOND);
        }
        target.take(to, source, from, n);
        return n;
    }

    public int read(int s) {
        Sheet chosen = sheetAt(s);
        if (chosen == null) {
            return finding(BEYOND);
        }
        if (chosen.isMissing()) {
            return finding(MISSING);
        }
        int n = chosen.lengthToZero();
        int fault = faultOfKeys(chosen, n);
        if (fault != 0) {
            return finding(fault);
        }
        rule.clear();
        for (int i = 0; i < n; i++) {
            rule.append(chosen.numberAt(i));
        }
        return n;
    }

    public int told(int what) {
        switch (what) {
            case 0: return roster.size();
            case 1: return standing.size();
            case 2: return rule.size();
            case 3: return minutes.size();
            case 4: return findings;
            case 5: return minutes.latestCount();
            case 6: return ballot.isOpen() ? 1 : 0;
            default: return finding(BEYOND);
        }
    }

    // ---- helpers of the calls

    private int finding(int which) {
        findings++;
        return which;
    }

    private boolean isAsking(int member, int sort) {
        return roster.has(member) && isWithin(sort, 0, SORTS - 1);
    }

    private int ticksFor(int member, int sort) {
        int ticks = floor.limitOf(sort);
        return roster.isOfKind(member, EXPERT) ? 2 * ticks : ticks;
    }

    private int takeFloor(int asking) {
        int member = standing.memberAt(asking);
        int sort = standing.sortAt(asking);
        standing.take(asking);
        floor.push(member, sort, ticksFor(member, sort));
        return member;
    }

    private void endHolding() {
        minutes.write(floor.holder(), floor.sortHeld(), floor.ticksHad());
        floor.pop();
    }

    private int gapsOfPairs() {
        int gaps = 0;
        for (int d = 0; d < DELEGATIONS; d++) {
            for (int other = 0; other < d; other++) {
                if (roster.isPeopled(d) && roster.isPeopled(other)) {
                    gaps += Math.abs(standing.delegationTime(d) - standing.delegationTime(other));
                }
            }
        }
        return gaps;
    }

    private int peopledDelegations() {
        int n = 0;
        for (int d = 0; d < DELEGATIONS; d++) {
            if (roster.isPeopled(d)) {
                n++;
            }
        }
        return n;
    }

    private int allTime() {
        int all = 0;
        for (int d = 0; d < DELEGATIONS; d++) {
            all += standing.delegationTime(d);
        }
        return all;
    }

    private Sheet sheetAt(int s) {
        return s >= 0 && s < sheets.length ? sheets[s] : null;
    }

    private static int faultOfKeys(Sheet chosen, int n) {
        for (int i = 0; i < n; i++) {
            if (!isKey(chosen.numberAt(i))) {
                return BEYOND;
            }
        }
        for (int i = 0; i < n; i++) {
            for (int j = 0; j < i; j++) {
                if (chosen.numberAt(i) == chosen.numberAt(j)) {
                    return SIZE;
                }
            }
        }
        return n > MOST_KEYS ? FULL : 0;
    }

    private static boolean isKey(int key) {
        return isWithin(key, 1, LAST_KEY);
    }

    private static boolean isNeed(int need) {
        return isWithin(need, 1, 3);
    }

    private static boolean isWidth(int bits) {
        return bits == 0 || bits == 8 || bits == 16 || bits == 32;
    }

    private static boolean passes(int need, int yes, int no) {
        switch (need) {
            case 1: return yes > no;
            case 2: return yes > 0 && 3 * yes >= 2 * (yes + no);
            default: return yes > 0 && no == 0;
        }
    }

    private static int greatestDivisor(int a, int b) {
        int big = a;
        int small = b;
        // Euclid needs fewer than 50 rounds for any two ints.
        for (int round = 0; round < 100 && small != 0; round++) {
            int rest = big % small;
            big = small;
            small = rest;
        }
        return big;
    }

    private static boolean isWithin(int v, int least, int most) {
        return v >= least && v <= most;
    }

    // Every row is used through these two, so that no index is used that was not looked at.
    private static int at(int[] row, int i) {
        return i >= 0 && i < row.length ? row[i] : 0;
    }

    private static void set(int[] row, int i, int v) {
        if (i >= 0 && i < row.length) {
            row[i] = v;
        }
    }

    /** Who is a member, of which kind and DELEGATION, and who is PRESENT. */
    private static final class Roster {
        // The kind above each kind; MEMBER, which has none, stands for itself.
        private static final int[] KIND_ABOVE = {0, 0, 0, 1};

        private final int[] kinds = new int[MOST_MEMBERS];
        private final int[] delegations = new int[MOST_MEMBERS];
        private final boolean[] here = new boolean[MOST_MEMBERS];
        private int size = 0;

        int size() {
            return size;
        }

        boolean has(int member) {
            return member >= 0 && member < size;
        }

        int enter(int kind, int delegation) {
            int member = size;
            set(kinds, member, kind);
            set(delegations, member, delegation);
            size++;
            setHere(member, true);
            return member;
        }

        int kindOf(int member) {
            return at(kinds, member);
        }

        int delegationOf(int member) {
            return at(delegations, member);
        }

        boolean isHere(int member) {
            return member >= 0 && member < here.length && here[member];
        }

        void setHere(int member, boolean is) {
            if (member >= 0 && member < here.length) {
                here[member] = is;
            }
        }

        boolean isOfKind(int member, int kind) {
            int its = at(kinds, member);
            for (int step = 0; step < KINDS && its != kind; step++) {
                its = at(KIND_ABOVE, its);
            }
            return its == kind;
        }

        boolean mayVote(int member) {
            return isHere(member) && !isOfKind(member, GUEST);
        }

        boolean isPeopled(int delegation) {
            for (int m = 0; m < size; m++) {
                if (delegationOf(m) == delegation) {
                    return true;
                }
            }
            return false;
        }
    }

    /** All that THE RULE looks at and that speaking changes; WAIT plays it through on a second one. */
    private static final class Standing {
        private final Roster roster;
        private final int[] askers = new int[MOST_ASKINGS];
        private final int[] sorts = new int[MOST_ASKINGS];
        private final int[] times = new int[MOST_MEMBERS];
        private final int[] speeches = new int[MOST_MEMBERS];
        private final int[] delegationTimes = new int[DELEGATIONS];
        private int size = 0;
        // Of who TOOK THE FLOOR latest; before anybody did it is like no DELEGATION, so that KEY 7 finds all alike.
        private int latestDelegation = NOBODY;

        Standing(Roster roster) {
            this.roster = roster;
        }

        void become(Standing other) {
            refill(askers, other.askers);
            refill(sorts, other.sorts);
            refill(times, other.times);
            refill(speeches, other.speeches);
            refill(delegationTimes, other.delegationTimes);
            size = other.size;
            latestDelegation = other.latestDelegation;
        }

        private static void refill(int[] row, int[] from) {
            for (int i = 0; i < row.length; i++) {
                row[i] = at(from, i);
            }
        }

        int size() {
            return size;
        }

        int memberAt(int asking) {
            return at(askers, asking);
        }

        int sortAt(int asking) {
            return at(sorts, asking);
        }

        int timeOf(int member) {
            return at(times, member);
        }

        int speechesOf(int member) {
            return at(speeches, member);
        }

        int delegationTime(int delegation) {
            return at(delegationTimes, delegation);
        }

        int latestDelegation() {
            return latestDelegation;
        }

        int find(int member, int sort) {
            for (int i = 0; i < size; i++) {
                if (memberAt(i) == member && sortAt(i) == sort) {
                    return i;
                }
            }
            return NOBODY;
        }

        void append(int member, int sort) {
            if (size < MOST_ASKINGS) {
                set(askers, size, member);
                set(sorts, size, sort);
                size++;
            }
        }

        void drop(int asking) {
            if (asking < 0 || asking >= size) {
                return;
            }
            for (int i = asking; i + 1 < size; i++) {
                set(askers, i, memberAt(i + 1));
                set(sorts, i, sortAt(i + 1));
            }
            size--;
        }

        void take(int asking) {
            int member = memberAt(asking);
            if (sortAt(asking) == SPEECH) {
                set(speeches, member, speechesOf(member) + 1);
            }
            latestDelegation = roster.delegationOf(member);
            drop(asking);
        }

        void addTime(int member, int ticks) {
            int delegation = roster.delegationOf(member);
            set(times, member, timeOf(member) + ticks);
            set(delegationTimes, delegation, delegationTime(delegation) + ticks);
        }
    }

    /** THE RULE: its KEYS, and which of two ASKINGS they put AHEAD. */
    private static final class Rule {
        private final Roster roster;
        private final int[] keys = new int[MOST_KEYS];
        private int size = 0;

        Rule(Roster roster) {
            this.roster = roster;
        }

        int size() {
            return size;
        }

        boolean has(int key) {
            for (int i = 0; i < size; i++) {
                if (at(keys, i) == key) {
                    return true;
                }
            }
            return false;
        }

        void append(int key) {
            if (size < MOST_KEYS) {
                set(keys, size, key);
                size++;
            }
        }

        void clear() {
            size = 0;
        }

        int firstOf(Standing state, int sort) {
            int first = NOBODY;
            for (int i = 0; i < state.size(); i++) {
                boolean counts = (sort == ANY_SORT || state.sortAt(i) == sort) && roster.isHere(state.memberAt(i));
                if (counts && (first == NOBODY || isAhead(state, i, first))) {
                    first = i;
                }
            }
            return first;
        }

        boolean isAhead(Standing state, int asking, int other) {
            for (int i = 0; i < size; i++) {
                int key = at(keys, i);
                int rank = rankBy(key, state, asking);
                int otherRank = rankBy(key, state, other);
                if (rank != otherRank) {
                    return rank < otherRank;
                }
            }
            return asking < other;
        }

        // The lower rank is AHEAD.
        private int rankBy(int key, Standing state, int asking) {
            int member = state.memberAt(asking);
            switch (key) {
                case 1: return state.sortAt(asking) == POINT ? 0 : 1;
                case 2: return state.sortAt(asking) == REPLY ? 0 : 1;
                case 3: return state.speechesOf(member) == 0 ? 0 : 1;
                case 4: return state.speechesOf(member);
                case 5: return state.timeOf(member);
                case 6: return state.delegationTime(roster.delegationOf(member));
                case 7: return state.latestDelegation() == roster.delegationOf(member) ? 1 : 0;
                case 8: return roster.isOfKind(member, GUEST) ? 1 : 0;
                case 9: return roster.isOfKind(member, CHAIR) ? 0 : 1;
                default: return 0;
            }
        }
    }

    /** THE LIST, laid out anew for each call that looks at its places. */
    private static final class Listing {
        private final Roster roster;
        private final Rule rule;
        private final Standing standing;
        private final int[] order = new int[MOST_ASKINGS];
        private int size = 0;

        Listing(Roster roster, Rule rule, Standing standing) {
            this.roster = roster;
            this.rule = rule;
            this.standing = standing;
        }

        int size() {
            return size;
        }

        int askingAt(int place) {
            return at(order, place);
        }

        int placeOf(int asking) {
            for (int place = 0; place < size; place++) {
                if (askingAt(place) == asking) {
                    return place;
                }
            }
            return NOBODY;
        }

        void lay() {
            size = 0;
            for (int asking = 0; asking < standing.size(); asking++) {
                if (roster.isHere(standing.memberAt(asking))) {
                    int place = size;
                    for (; place > 0 && rule.isAhead(standing, asking, askingAt(place - 1)); place--) {
                        set(order, place, askingAt(place - 1));
                    }
                    set(order, place, asking);
                    size++;
                }
            }
        }
    }

    /** Who has THE FLOOR, who is BEHIND, and the LIMITS of the SORTS. */
    private static final class Floor {
        // The last one of these rows has THE FLOOR; the ones ahead of it are BEHIND.
        private final int[] holders = new int[MOST_BEHIND + 1];
        private final int[] sorts = new int[MOST_BEHIND + 1];
        private final int[] left = new int[MOST_BEHIND + 1];
        private final int[] had = new int[MOST_BEHIND + 1];
        private final int[] limits = {10, 4, 2};
        private int depth = 0;

        boolean isHeld() {
            return depth > 0;
        }

        int behind() {
            return Math.max(0, depth - 1);
        }

        int holder() {
            return isHeld() ? at(holders, depth - 1) : NOBODY;
        }

        int sortHeld() {
            return at(sorts, depth - 1);
        }

        int ticksLeft() {
            return at(left, depth - 1);
        }

        int ticksHad() {
            return at(had, depth - 1);
        }

        int limitOf(int sort) {
            return at(limits, sort);
        }

        void setLimit(int sort, int v) {
            set(limits, sort, v);
        }

        void push(int member, int sort, int ticks) {
            if (depth <= MOST_BEHIND) {
                set(holders, depth, member);
                set(sorts, depth, sort);
                set(left, depth, ticks);
                set(had, depth, 0);
                depth++;
            }
        }

        void pop() {
            if (depth > 0) {
                depth--;
            }
        }

        void spendTick() {
            set(left, depth - 1, ticksLeft() - 1);
            set(had, depth - 1, ticksHad() + 1);
        }
    }

    /** THE VOTE: whether it is open, and what each member says in it. */
    private static final class Ballot {
        private final Roster roster;
        private final int[] said = new int[MOST_MEMBERS];
        private boolean open = false;

        Ballot(Roster roster) {
            this.roster = roster;
        }

        boolean isOpen() {
            return open;
        }

        void open() {
            for (int m = 0; m < said.length; m++) {
                said[m] = NEITHER;
            }
            open = true;
        }

        void shut() {
            open = false;
        }

        int saidBy(int member) {
            return at(said, member);
        }

        void mark(int member, int v) {
            set(said, member, v);
        }

        int count(int v) {
            int n = 0;
            for (int m = 0; m < roster.size(); m++) {
                if (roster.mayVote(m) && saidBy(m) == v) {
                    n++;
                }
            }
            return n;
        }
    }

    /** MINUTES: the newest rows with their first TICKS, and beside them each time one was PUT RIGHT. */
    private static final class Minutes {
        private final int[] members = new int[MOST_ROWS];
        private final int[] sorts = new int[MOST_ROWS];
        private final int[] firstTicks = new int[MOST_ROWS];
        // What is PUT RIGHT names its row by how many were written ahead of it, which stays when the oldest go.
        private final int[] rightRows = new int[MOST_RIGHTS];
        private final int[] rightTicks = new int[MOST_RIGHTS];
        private int written = 0;
        private int rights = 0;

        int size() {
            return Math.min(written, MOST_ROWS);
        }

        boolean has(int i) {
            return i >= 0 && i < size();
        }

        int latestCount() {
            return rights;
        }

        void write(int member, int sort, int ticks) {
            int slot = written % MOST_ROWS;
            set(members, slot, member);
            set(sorts, slot, sort);
            set(firstTicks, slot, ticks);
            written++;
        }

        int memberAt(int i) {
            return at(members, slotOf(i));
        }

        int sortAt(int i) {
            return at(sorts, slotOf(i));
        }

        int firstTicksAt(int i) {
            return at(firstTicks, slotOf(i));
        }

        int ticksAsOf(int i, int count) {
            int row = rowWritten(i);
            for (int c = Math.min(count, rights); c > 0; c--) {
                if (at(rightRows, c - 1) == row) {
                    return at(rightTicks, c - 1);
                }
            }
            return firstTicksAt(i);
        }

        void correct(int i, int ticks) {
            if (rights < MOST_RIGHTS) {
                set(rightRows, rights, rowWritten(i));
                set(rightTicks, rights, ticks);
                rights++;
            }
        }

        int ticksOfMember(int member, int count) {
            int all = 0;
            for (int i = 0; i < size(); i++) {
                if (memberAt(i) == member) {
                    all += ticksAsOf(i, count);
                }
            }
            return all;
        }

        private int rowWritten(int i) {
            return written - size() + i;
        }

        private int slotOf(int i) {
            return rowWritten(i) % MOST_ROWS;
        }
    }

    /** A row of numbers of some bits; with 0 bits it is MISSING. */
    private static final class Sheet {
        private final int[] numbers = new int[MOST_NUMBERS];
        private int bits = 0;
        private int size = 0;

        boolean isMissing() {
            return bits == 0;
        }

        int width() {
            return bits;
        }

        int size() {
            return size;
        }

        int numberAt(int i) {
            return at(numbers, i);
        }

        void lay(int width, int n) {
            bits = width;
            size = width == 0 ? 0 : n;
            for (int i = 0; i < numbers.length; i++) {
                numbers[i] = 0;
            }
        }

        void store(int i, int v) {
            set(numbers, i, lowestBits(v));
        }

        private int lowestBits(int v) {
            switch (bits) {
                case 8: return v & 0xFF;
                case 16: return v & 0xFFFF;
                default: return v;
            }
        }

        boolean spans(int from, int n) {
            return from >= 0 && n >= 0 && from <= size - n;
        }

        // Both may be the same sheet: the order of the steps keeps a number from being lost ahead of its own step.
        void take(int to, Sheet source, int from, int n) {
            if (from < to) {
                for (int i = n - 1; i >= 0; i--) {
                    set(numbers, to + i, source.numberAt(from + i));
                }
            } else {
                for (int i = 0; i < n; i++) {
                    set(numbers, to + i, source.numberAt(from + i));
                }
            }
        }

        int lengthToZero() {
            for (int i = 0; i < size; i++) {
                if (numberAt(i) == 0) {
                    return i;
                }
            }
            return size;
        }
    }
}
