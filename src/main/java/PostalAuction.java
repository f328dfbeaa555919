/** An auction of stamps by mail; README.md tells how it is used. */
public final class PostalAuction {
    public static final int UNKNOWN = -1;
    public static final int BAD_VALUE = -2;
    public static final int FULL = -3;
    public static final int NOT_POSSIBLE = -4;
    public static final int NONE = -5;
    public static final long NO_VALUE = Long.MIN_VALUE;

    private static final int MOST_BANDS = 8;
    private static final int MOST_STEP = 100000;
    private static final int FIRST_STEP = 5;
    private static final int MOST_LOTS = 20;
    private static final int SELLERS = 5;
    private static final int MOST_BIDDERS = 8;
    private static final int MOST_LIMIT = 10000000;
    private static final int MOST_BIDS = 60;
    private static final int MOST_AMOUNT = 1000000;
    private static final int MOST_ASKED = 2000000;
    private static final int MOST_POSTMARK = 100000;
    private static final int MOST_GROUP = 1000000;

    private static final int SETTINGS = 4;
    private static final int DEADLINE = 0;
    private static final int PREMIUM_RATE = 1;
    private static final int COMMISSION_RATE = 2;
    private static final int FEE = 3;
    private static final int MOST_RATE = 500;
    private static final int MOST_FEE = 1000;

    private static final int MOST_STATES = 4;
    private static final int MOST_SIGNS = 80;
    private static final int MOST_LETTER_BIDS = 20;
    private static final int NO_FAULT = -1;
    private static final int FAULT_AT_0 = -100;

    private static final int SOLD = 0;
    private static final int NO_BIDS = 1;
    private static final int RESERVE_MISSED = 2;
    private static final int LEFT_OUT = 3;

    private static final int BUYS = 0;
    private static final int BID_WITHDRAWN = 1;
    private static final int BID_LATE = 2;
    private static final int LOT_WITHDRAWN = 3;
    private static final int ALTERNATIVE_BOUGHT = 4;
    private static final int WORTH_TOO_SMALL = 5;
    private static final int OTHER_BID_COUNTS = 6;
    private static final int NOT_FIRST = 7;
    private static final int FIRST_BELOW_RESERVE = 8;

    private static final int PRICES = 0;
    private static final int PREMIUMS = 1;
    private static final int COMMISSIONS = 2;
    private static final int FEES = 3;
    private static final int ALL_SELLERS = -1;

    private final State now;
    private final History history;
    private final Sale outcome;
    private final Money money;
    private final Letter text;

    public PostalAuction() {
        now = new State();
        history = new History();
        outcome = new Sale(now);
        money = new Money(now, outcome);
        text = new Letter();
    }

    // ---- steps, lots, bidders

    public int setBand(int beginning, int step) {
        if (isOutside(beginning, 0, MOST_AMOUNT) || isOutside(step, 1, MOST_STEP)) {
            return BAD_VALUE;
        }
        if (!now.steps.hasRoomFor(beginning)) {
            return FULL;
        }
        beginAct();
        now.steps.putBand(beginning, step);
        return now.steps.size;
    }

    public int removeBand(int beginning) {
        if (beginning == 0 || !now.steps.hasBand(beginning)) {
            return NOT_POSSIBLE;
        }
        beginAct();
        now.steps.dropBand(beginning);
        return now.steps.size;
    }

    public int valid(int amount, int what) {
        if (isOutside(amount, 0, MOST_ASKED)) {
            return BAD_VALUE;
        }
        switch (what) {
            case 0: return now.steps.floor(amount);
            case 1: return now.steps.ceiling(amount);
            case 2: return now.steps.next(amount);
            default: return BAD_VALUE;
        }
    }

    public int addLot(int seller, int start, int reserve) {
        if (isOutside(seller, 0, SELLERS - 1)) {
            return UNKNOWN;
        }
        if (isOutside(start, 0, MOST_AMOUNT) || isOutside(reserve, 0, MOST_AMOUNT)) {
            return BAD_VALUE;
        }
        if (now.lots.size >= MOST_LOTS) {
            return FULL;
        }
        beginAct();
        return now.lots.add(seller, start, reserve);
    }

    public int setReserve(int lot, int reserve) {
        if (!isLot(lot)) {
            return UNKNOWN;
        }
        if (isOutside(reserve, 0, MOST_AMOUNT)) {
            return BAD_VALUE;
        }
        beginAct();
        int previous = now.lots.reserves.get(lot);
        now.lots.reserves.put(lot, reserve);
        return previous;
    }

    public int withdrawLot(int lot, boolean withdrawn) {
        if (!isLot(lot)) {
            return UNKNOWN;
        }
        int mark = withdrawn ? 1 : 0;
        if (now.lots.withdrawn.get(lot) == mark) {
            return NOT_POSSIBLE;
        }
        beginAct();
        now.lots.withdrawn.put(lot, mark);
        return now.lots.withdrawn.sum(now.lots.size);
    }

    public int addBidder(int limit) {
        if (isOutside(limit, 0, MOST_LIMIT)) {
            return BAD_VALUE;
        }
        if (now.bidders >= MOST_BIDDERS) {
            return FULL;
        }
        beginAct();
        now.limits.put(now.bidders, limit);
        now.bidders++;
        return now.bidders - 1;
    }

    public int setLimit(int bidder, int limit) {
        if (!isBidder(bidder)) {
            return UNKNOWN;
        }
        if (isOutside(limit, 0, MOST_LIMIT)) {
            return BAD_VALUE;
        }
        beginAct();
        int previous = now.limits.get(bidder);
        now.limits.put(bidder, limit);
        return previous;
    }

    public int set(int what, int value) {
        if (isOutside(what, 0, SETTINGS - 1)) {
            return UNKNOWN;
        }
        if (isOutside(value, 0, mostOfSetting(what))) {
            return BAD_VALUE;
        }
        beginAct();
        int previous = now.settings.get(what);
        now.settings.put(what, value);
        return previous;
    }

    // ---- bids

    public int bid(int bidder, int lot, int amount, int postmark, int group) {
        if (!isBidder(bidder) || !isLot(lot)) {
            return UNKNOWN;
        }
        if (isOutside(amount, 1, MOST_AMOUNT) || isOutside(postmark, 0, MOST_POSTMARK)
                || isOutside(group, 0, MOST_GROUP)) {
            return BAD_VALUE;
        }
        if (now.bids.size >= MOST_BIDS) {
            return FULL;
        }
        beginAct();
        return now.bids.add(bidder, lot, amount, postmark, group);
    }

    public int withdrawBid(int bid) {
        if (!isBid(bid)) {
            return UNKNOWN;
        }
        if (now.bids.withdrawn.get(bid) == 1) {
            return NOT_POSSIBLE;
        }
        beginAct();
        now.bids.withdrawn.put(bid, 1);
        return now.bids.lots.get(bid);
    }

    public int type(char character) {
        return text.append(character) ? text.length : FULL;
    }

    public int clearText() {
        int length = text.length;
        text.length = 0;
        return length;
    }

    public int letter(int bidder, int postmark) {
        if (!isBidder(bidder)) {
            return UNKNOWN;
        }
        if (isOutside(postmark, 0, MOST_POSTMARK)) {
            return BAD_VALUE;
        }
        int fault = text.read(now.lots.size);
        if (fault != NO_FAULT) {
            return FAULT_AT_0 - fault;
        }
        if (now.bids.size + text.told > MOST_BIDS) {
            return FULL;
        }
        beginAct();
        int group = 0;
        for (int i = 0; i < text.told; i++) {
            if (!text.isInOneWish(i - 1, i)) {
                group = text.isInOneWish(i, i + 1) ? now.bids.freeGroup(bidder) : 0;
            }
            now.bids.add(bidder, text.lots.get(i), text.amounts.get(i), postmark, group);
        }
        return text.told;
    }

    public int undo() {
        if (history.size <= 0) {
            return NONE;
        }
        history.restore(now);
        outcome.isHeld = false;
        return history.size;
    }

    // ---- the sale

    public int sale(int lot, int what) {
        if (!isLot(lot)) {
            return UNKNOWN;
        }
        outcome.hold();
        switch (what) {
            case 0: return outcome.buyers.get(lot);
            case 1: return outcome.prices.get(lot);
            case 2: return outcome.states.get(lot);
            case 3: return outcome.counts.get(lot);
            case 4: return outcome.bidAt(lot, 0);
            case 5: return outcome.bidAt(lot, 1);
            default: return BAD_VALUE;
        }
    }

    public int ranked(int lot, int place) {
        if (!isLot(lot)) {
            return UNKNOWN;
        }
        if (place < 0) {
            return BAD_VALUE;
        }
        outcome.hold();
        return outcome.bidAt(lot, place);
    }

    public int fate(int bid) {
        if (!isBid(bid)) {
            return UNKNOWN;
        }
        outcome.hold();
        return outcome.fates.get(bid);
    }

    public int needed(int bidder, int lot, int postmark) {
        if (!isBidder(bidder) || !isLot(lot)) {
            return UNKNOWN;
        }
        if (isOutside(postmark, 0, MOST_POSTMARK)) {
            return BAD_VALUE;
        }
        if (now.bids.size >= MOST_BIDS || now.lots.withdrawn.get(lot) == 1
                || postmark > now.settings.get(DEADLINE)) {
            return NONE;
        }
        outcome.hold();
        return outcome.leastAmount(bidder, lot, postmark);
    }

    // ---- what is told

    public int lot(int lot, int what) {
        if (!isLot(lot)) {
            return UNKNOWN;
        }
        switch (what) {
            case 0: return now.lots.sellers.get(lot);
            case 1: return now.lots.starts.get(lot);
            case 2: return now.lots.reserves.get(lot);
            case 3: return now.lots.withdrawn.get(lot);
            case 4: return now.askingPrice(lot);
            case 5: return now.bids.lots.countOf(lot, now.bids.size);
            default: return BAD_VALUE;
        }
    }

    public int bidOf(int bid, int what) {
        if (!isBid(bid)) {
            return UNKNOWN;
        }
        outcome.hold();
        switch (what) {
            case 0: return now.bids.lots.get(bid);
            case 1: return now.bids.bidders.get(bid);
            case 2: return now.bids.amounts.get(bid);
            case 3: return now.bids.postmarks.get(bid);
            case 4: return now.bids.groups.get(bid);
            case 5: return now.bids.withdrawn.get(bid);
            case 6: return outcome.worths.get(bid);
            default: return BAD_VALUE;
        }
    }

    public int bidder(int bidder, int what) {
        if (!isBidder(bidder)) {
            return UNKNOWN;
        }
        outcome.hold();
        switch (what) {
            case 0: return now.limits.get(bidder);
            case 1: return outcome.leftBefore(now.lots.size, bidder);
            case 2: return outcome.buyers.countOf(bidder, now.lots.size);
            case 3: return money.paidBy(bidder);
            default: return BAD_VALUE;
        }
    }

    public long seller(int seller, int what) {
        if (isOutside(seller, 0, SELLERS - 1)) {
            return NO_VALUE;
        }
        outcome.hold();
        switch (what) {
            case 0: return now.lots.sellers.countOf(seller, now.lots.size);
            case 1: return outcome.soldLots(seller);
            case 2: return money.total(PRICES, seller);
            case 3: return money.receipts(seller);
            default: return NO_VALUE;
        }
    }

    public long account(int what) {
        outcome.hold();
        switch (what) {
            case 0: return money.total(PRICES, ALL_SELLERS);
            case 1: return money.total(PREMIUMS, ALL_SELLERS);
            case 2: return money.total(COMMISSIONS, ALL_SELLERS);
            case 3: return money.total(FEES, ALL_SELLERS);
            case 4: return money.payments();
            case 5: return money.receipts(ALL_SELLERS);
            case 6: return money.payments() - money.receipts(ALL_SELLERS);
            default: return NO_VALUE;
        }
    }

    public int count(int what) {
        switch (what) {
            case 0: return now.lots.size;
            case 1: return now.bidders;
            case 2: return now.bids.size;
            case 3:
                outcome.hold();
                return outcome.soldLots(ALL_SELLERS);
            case 4: return now.lots.withdrawn.sum(now.lots.size);
            case 5: return now.lateBids();
            case 6: return now.bids.withdrawn.sum(now.bids.size);
            case 7: return now.steps.size;
            case 8: return now.settings.get(DEADLINE);
            case 9: return now.settings.get(PREMIUM_RATE);
            case 10: return now.settings.get(COMMISSION_RATE);
            case 11: return now.settings.get(FEE);
            case 12: return history.size;
            case 13: return text.length;
            default: return BAD_VALUE;
        }
    }

    // ---- shared by the calls above

    private static boolean isOutside(int value, int least, int most) {
        return value < least || value > most;
    }

    private static int mostOfSetting(int what) {
        switch (what) {
            case DEADLINE: return MOST_POSTMARK;
            case FEE: return MOST_FEE;
            default: return MOST_RATE;
        }
    }

    private boolean isLot(int lot) {
        return lot >= 0 && lot < now.lots.size;
    }

    private boolean isBidder(int bidder) {
        return bidder >= 0 && bidder < now.bidders;
    }

    private boolean isBid(int bid) {
        return bid >= 0 && bid < now.bids.size;
    }

    /** Every act passes here before its first change, so the sale is held anew after it. */
    private void beginAct() {
        history.keep(now);
        outcome.isHeld = false;
    }

    /** A row of numbers; its bounds are tested here, in one place, before any index is used. */
    private static final class Row {
        private final int[] cells;

        Row(int length) {
            cells = new int[Math.max(length, 0)];
        }

        int get(int index) {
            return index >= 0 && index < cells.length ? cells[index] : 0;
        }

        void put(int index, int value) {
            if (index >= 0 && index < cells.length) {
                cells[index] = value;
            }
        }

        void copy(Row other) {
            System.arraycopy(other.cells, 0, cells, 0, Math.min(other.cells.length, cells.length));
        }

        int sum(int size) {
            int sum = 0;
            for (int i = 0; i < size && i < cells.length; i++) {
                sum += cells[i];
            }
            return sum;
        }

        int countOf(int value, int size) {
            int found = 0;
            for (int i = 0; i < size && i < cells.length; i++) {
                if (cells[i] == value) {
                    found++;
                }
            }
            return found;
        }
    }

    /** The table of steps. The band at index 0 is the one that begins at 0; the others lie in any order. */
    private static final class Steps {
        private final Row beginnings = new Row(MOST_BANDS);
        private final Row widths = new Row(MOST_BANDS);
        private int size = 1;

        Steps() {
            widths.put(0, FIRST_STEP);
        }

        void copy(Steps other) {
            beginnings.copy(other.beginnings);
            widths.copy(other.widths);
            size = other.size;
        }

        boolean hasBand(int beginning) {
            return placeOf(beginning) < size;
        }

        boolean hasRoomFor(int beginning) {
            return placeOf(beginning) < MOST_BANDS;
        }

        void putBand(int beginning, int width) {
            int place = placeOf(beginning);
            beginnings.put(place, beginning);
            widths.put(place, width);
            size = Math.max(size, place + 1);
        }

        void dropBand(int beginning) {
            int place = placeOf(beginning);
            beginnings.put(place, beginnings.get(size - 1));
            widths.put(place, widths.get(size - 1));
            size--;
        }

        /** The place of the band with this beginning, or the one behind all bands if there is none. */
        private int placeOf(int beginning) {
            for (int i = 0; i < size; i++) {
                if (beginnings.get(i) == beginning) {
                    return i;
                }
            }
            return size;
        }

        private int bandOf(int amount) {
            int band = 0;
            for (int i = 1; i < size; i++) {
                int beginning = beginnings.get(i);
                if (beginning <= amount && beginning > beginnings.get(band)) {
                    band = i;
                }
            }
            return band;
        }

        int floor(int amount) {
            int band = bandOf(amount);
            int beginning = beginnings.get(band);
            int width = widths.get(band);
            return width > 0 ? beginning + (amount - beginning) / width * width : beginning;
        }

        int ceiling(int amount) {
            return floor(amount) == amount ? amount : next(amount);
        }

        /** One step above the floor, unless a further band begins before that. */
        int next(int amount) {
            int band = bandOf(amount);
            int own = beginnings.get(band);
            int width = widths.get(band);
            int next = width > 0 ? own + ((amount - own) / width + 1) * width : MOST_ASKED;
            for (int i = 0; i < size; i++) {
                int beginning = beginnings.get(i);
                if (beginning > amount && beginning < next) {
                    next = beginning;
                }
            }
            return next;
        }
    }

    private static final class Lots {
        private final Row sellers = new Row(MOST_LOTS);
        private final Row starts = new Row(MOST_LOTS);
        private final Row reserves = new Row(MOST_LOTS);
        private final Row withdrawn = new Row(MOST_LOTS);
        private int size;

        void copy(Lots other) {
            sellers.copy(other.sellers);
            starts.copy(other.starts);
            reserves.copy(other.reserves);
            withdrawn.copy(other.withdrawn);
            size = other.size;
        }

        int add(int seller, int start, int reserve) {
            sellers.put(size, seller);
            starts.put(size, start);
            reserves.put(size, reserve);
            withdrawn.put(size, 0);
            size++;
            return size - 1;
        }
    }

    private static final class Bids {
        private final Row bidders = new Row(MOST_BIDS);
        private final Row lots = new Row(MOST_BIDS);
        private final Row amounts = new Row(MOST_BIDS);
        private final Row postmarks = new Row(MOST_BIDS);
        private final Row groups = new Row(MOST_BIDS);
        private final Row withdrawn = new Row(MOST_BIDS);
        private int size;

        void copy(Bids other) {
            bidders.copy(other.bidders);
            lots.copy(other.lots);
            amounts.copy(other.amounts);
            postmarks.copy(other.postmarks);
            groups.copy(other.groups);
            withdrawn.copy(other.withdrawn);
            size = other.size;
        }

        int add(int bidder, int lot, int amount, int postmark, int group) {
            bidders.put(size, bidder);
            lots.put(size, lot);
            amounts.put(size, amount);
            postmarks.put(size, postmark);
            groups.put(size, group);
            withdrawn.put(size, 0);
            size++;
            return size - 1;
        }

        /** The group that a letter gives: above all groups of this bidder so far. */
        int freeGroup(int bidder) {
            int greatest = 0;
            for (int bid = 0; bid < size; bid++) {
                if (bidders.get(bid) == bidder) {
                    greatest = Math.max(greatest, groups.get(bid));
                }
            }
            return greatest + 1;
        }
    }

    /** All that undo() restores. */
    private static final class State {
        private final Steps steps = new Steps();
        private final Lots lots = new Lots();
        private final Row limits = new Row(MOST_BIDDERS);
        private int bidders;
        private final Bids bids = new Bids();
        private final Row settings = new Row(SETTINGS);

        State() {
            settings.put(DEADLINE, 50000);
            settings.put(PREMIUM_RATE, 150);
            settings.put(COMMISSION_RATE, 100);
            settings.put(FEE, 2);
        }

        void copy(State other) {
            steps.copy(other.steps);
            lots.copy(other.lots);
            limits.copy(other.limits);
            bidders = other.bidders;
            bids.copy(other.bids);
            settings.copy(other.settings);
        }

        int askingPrice(int lot) {
            return steps.ceiling(Math.max(lots.starts.get(lot), lots.reserves.get(lot)));
        }

        boolean isLate(int bid) {
            return bids.postmarks.get(bid) > settings.get(DEADLINE);
        }

        int lateBids() {
            int late = 0;
            for (int bid = 0; bid < bids.size; bid++) {
                if (isLate(bid)) {
                    late++;
                }
            }
            return late;
        }
    }

    /** The latest states, the oldest one first; the states beyond the size are kept for use again. */
    private static final class History {
        private final State[] states = new State[MOST_STATES];
        private int size;

        History() {
            for (int i = 0; i < states.length; i++) {
                states[i] = new State();
            }
        }

        void keep(State now) {
            if (size >= states.length) {
                dropOldest();
            }
            State free = size >= 0 && size < states.length ? states[size] : null;
            if (free != null) {
                free.copy(now);
                size++;
            }
        }

        void restore(State now) {
            State latest = size > 0 && size <= states.length ? states[size - 1] : null;
            if (latest != null) {
                now.copy(latest);
                size--;
            }
        }

        private void dropOldest() {
            if (states.length == 0) {
                return;
            }
            State oldest = states[0];
            for (int i = 1; i < states.length; i++) {
                states[i - 1] = states[i];
            }
            states[states.length - 1] = oldest;
            size = states.length - 1;
        }
    }

    /** What the sale brings; held when something of it is told and the state has changed since. */
    private static final class Sale {
        private final State now;
        private final Row buyers = new Row(MOST_LOTS);
        private final Row prices = new Row(MOST_LOTS);
        private final Row states = new Row(MOST_LOTS);
        private final Row counts = new Row(MOST_LOTS);
        private final Row askingPrices = new Row(MOST_LOTS);
        private final Row order = new Row(MOST_LOTS * MOST_BIDDERS);
        private final Row worths = new Row(MOST_BIDS);
        private final Row fates = new Row(MOST_BIDS);
        private final Row bestBids = new Row(MOST_BIDDERS);
        private boolean isHeld;

        Sale(State now) {
            this.now = now;
        }

        void hold() {
            if (isHeld) {
                return;
            }
            for (int lot = 0; lot < now.lots.size; lot++) {
                askingPrices.put(lot, now.askingPrice(lot));
                judgeBids(lot);
                orderBids(lot);
                sell(lot);
            }
            isHeld = true;
        }

        /** The bid at this place in the order of the bids that count. */
        int bidAt(int lot, int place) {
            return place >= 0 && place < counts.get(lot) ? order.get(lot * MOST_BIDDERS + place) : NONE;
        }

        /** What is left of the limit of a bidder when it is this lot's turn. */
        int leftBefore(int lot, int bidder) {
            int left = now.limits.get(bidder);
            for (int earlier = 0; earlier < lot; earlier++) {
                if (buyers.get(earlier) == bidder) {
                    left -= prices.get(earlier);
                }
            }
            return left;
        }

        int soldLots(int seller) {
            int sold = 0;
            for (int lot = 0; lot < now.lots.size; lot++) {
                boolean isAsked = seller == ALL_SELLERS || seller == now.lots.sellers.get(lot);
                if (isAsked && states.get(lot) == SOLD) {
                    sold++;
                }
            }
            return sold;
        }

        private void judgeBids(int lot) {
            for (int bidder = 0; bidder < now.bidders; bidder++) {
                bestBids.put(bidder, NONE);
            }
            for (int bid = 0; bid < now.bids.size; bid++) {
                if (now.bids.lots.get(bid) == lot) {
                    judge(bid, lot);
                }
            }
        }

        private void judge(int bid, int lot) {
            int bidder = now.bids.bidders.get(bid);
            int left = leftBefore(lot, bidder);
            worths.put(bid, now.steps.floor(Math.min(now.bids.amounts.get(bid), left)));
            int reason = reasonAgainst(bid, lot);
            fates.put(bid, reason);
            if (reason == BUYS) {
                chooseBetween(bestBids.get(bidder), bid);
            }
        }

        private int reasonAgainst(int bid, int lot) {
            if (now.bids.withdrawn.get(bid) == 1) {
                return BID_WITHDRAWN;
            }
            if (now.isLate(bid)) {
                return BID_LATE;
            }
            if (now.lots.withdrawn.get(lot) == 1) {
                return LOT_WITHDRAWN;
            }
            if (hasAlternativeBought(bid, lot)) {
                return ALTERNATIVE_BOUGHT;
            }
            // a worth is a valid amount: one below the ceiling of the start is below the start
            return worths.get(bid) < now.lots.starts.get(lot) ? WORTH_TOO_SMALL : BUYS;
        }

        private boolean hasAlternativeBought(int bid, int lot) {
            int group = now.bids.groups.get(bid);
            int bidder = now.bids.bidders.get(bid);
            if (group == 0) {
                return false;
            }
            for (int earlier = 0; earlier < lot; earlier++) {
                int winner = order.get(earlier * MOST_BIDDERS);
                if (buyers.get(earlier) == bidder && now.bids.groups.get(winner) == group) {
                    return true;
                }
            }
            return false;
        }

        /** The earlier bid, if there is one, stays unless the later one is worth more. */
        private void chooseBetween(int earlier, int later) {
            if (earlier != NONE && worths.get(earlier) >= worths.get(later)) {
                fates.put(later, OTHER_BID_COUNTS);
                return;
            }
            if (earlier != NONE) {
                fates.put(earlier, OTHER_BID_COUNTS);
            }
            bestBids.put(now.bids.bidders.get(later), later);
        }

        private void orderBids(int lot) {
            counts.put(lot, 0);
            for (int bidder = 0; bidder < now.bidders; bidder++) {
                int bid = bestBids.get(bidder);
                if (bid != NONE) {
                    insert(lot, bid);
                }
            }
        }

        private void insert(int lot, int bid) {
            int place = counts.get(lot);
            int row = lot * MOST_BIDDERS;
            while (place > 0 && goesBefore(bid, order.get(row + place - 1))) {
                order.put(row + place, order.get(row + place - 1));
                place--;
            }
            order.put(row + place, bid);
            counts.put(lot, counts.get(lot) + 1);
        }

        private boolean goesBefore(int bid, int other) {
            int worth = worths.get(bid);
            int otherWorth = worths.get(other);
            if (worth != otherWorth) {
                return worth > otherWorth;
            }
            int postmark = now.bids.postmarks.get(bid);
            int otherPostmark = now.bids.postmarks.get(other);
            return postmark != otherPostmark ? postmark < otherPostmark : bid < other;
        }

        private void sell(int lot) {
            int first = bidAt(lot, 0);
            int state = stateOf(lot, first);
            states.put(lot, state);
            buyers.put(lot, state == SOLD ? now.bids.bidders.get(first) : NONE);
            prices.put(lot, state == SOLD ? priceOf(lot) : 0);
            if (state == RESERVE_MISSED) {
                fates.put(first, FIRST_BELOW_RESERVE);
            }
            for (int place = 1; place < counts.get(lot); place++) {
                fates.put(bidAt(lot, place), NOT_FIRST);
            }
        }

        private int stateOf(int lot, int first) {
            if (now.lots.withdrawn.get(lot) == 1) {
                return LEFT_OUT;
            }
            if (first == NONE) {
                return NO_BIDS;
            }
            return worths.get(first) < now.lots.reserves.get(lot) ? RESERVE_MISSED : SOLD;
        }

        private int priceOf(int lot) {
            int price = askingPrices.get(lot);
            int second = bidAt(lot, 1);
            if (second != NONE) {
                price = Math.max(price, now.steps.next(worths.get(second)));
            }
            return Math.min(price, worths.get(bidAt(lot, 0)));
        }

        /** A worth above 0 needs an equal amount; a worth of 0 needs any, as an amount is at least 1. */
        int leastAmount(int bidder, int lot, int postmark) {
            int worth = leastWorth(bidder, lot, postmark);
            int amount = worth > 0 ? worth : now.steps.next(0);
            return amount <= MOST_AMOUNT && worth <= leftBefore(lot, bidder) ? amount : NONE;
        }

        /** The new bid arrives last: it wins a tie by an earlier postmark alone, and none with its own bidder. */
        private int leastWorth(int bidder, int lot, int postmark) {
            int least = askingPrices.get(lot);
            for (int place = 0; place < counts.get(lot); place++) {
                int bid = bidAt(lot, place);
                int worth = worths.get(bid);
                boolean winsTie = now.bids.bidders.get(bid) != bidder && postmark < now.bids.postmarks.get(bid);
                least = Math.max(least, winsTie ? worth : now.steps.next(worth));
            }
            return least;
        }
    }

    /** Sums over the lots of the sale that was held. Only sold lots have a price above 0. */
    private static final class Money {
        private final State now;
        private final Sale outcome;

        Money(State now, Sale outcome) {
            this.now = now;
            this.outcome = outcome;
        }

        int paidBy(int bidder) {
            int paid = 0;
            for (int lot = 0; lot < now.lots.size; lot++) {
                if (outcome.buyers.get(lot) == bidder) {
                    paid += part(PRICES, lot) + part(PREMIUMS, lot);
                }
            }
            return paid;
        }

        long total(int kind, int seller) {
            long total = 0;
            for (int lot = 0; lot < now.lots.size; lot++) {
                if (seller == ALL_SELLERS || seller == now.lots.sellers.get(lot)) {
                    total += part(kind, lot);
                }
            }
            return total;
        }

        long payments() {
            return total(PRICES, ALL_SELLERS) + total(PREMIUMS, ALL_SELLERS);
        }

        long receipts(int seller) {
            return total(PRICES, seller) - total(COMMISSIONS, seller) - total(FEES, seller);
        }

        private int part(int kind, int lot) {
            int price = outcome.prices.get(lot);
            switch (kind) {
                case PRICES: return price;
                case PREMIUMS: return price * now.settings.get(PREMIUM_RATE) / 1000;
                case COMMISSIONS: return price * now.settings.get(COMMISSION_RATE) / 1000;
                default: return owesFee(lot) ? now.settings.get(FEE) : 0;
            }
        }

        private boolean owesFee(int lot) {
            int state = outcome.states.get(lot);
            return state == NO_BIDS || state == RESERVE_MISSED;
        }
    }

    /** The text, and the bids that it tells, which read() puts into the rows. */
    private static final class Letter {
        private final char[] signs = new char[MOST_SIGNS];
        private int length;
        private final Row lots = new Row(MOST_LETTER_BIDS);
        private final Row amounts = new Row(MOST_LETTER_BIDS);
        private final Row wishes = new Row(MOST_LETTER_BIDS);
        private int told;
        private int wish;
        private boolean isInAmount;
        private int number;
        private int digits;

        boolean append(char sign) {
            if (length < 0 || length >= signs.length) {
                return false;
            }
            signs[length] = sign;
            length++;
            return true;
        }

        /** Whether two of the bids that are told stand in the same wish. */
        boolean isInOneWish(int bid, int other) {
            return bid >= 0 && other < told && wishes.get(bid) == wishes.get(other);
        }

        /** Answers the fault of the text, or NO_FAULT. */
        int read(int lotCount) {
            told = 0;
            wish = 0;
            isInAmount = false;
            startNumber();
            for (int i = 0; i < length && i < signs.length; i++) {
                char sign = signs[i];
                boolean isDigit = sign >= '0' && sign <= '9';
                int fault = isDigit ? readDigit(sign - '0', i) : readMark(sign, i, lotCount);
                if (fault != NO_FAULT) {
                    return fault;
                }
            }
            return readEnd(lotCount);
        }

        private void startNumber() {
            number = 0;
            digits = 0;
        }

        private int readDigit(int digit, int index) {
            // an amount can't begin with 0; a lot can, but then ends with it
            boolean hasZeroInFront = isInAmount ? digits == 0 && digit == 0 : digits == 1 && number == 0;
            if (hasZeroInFront || digits >= (isInAmount ? 7 : 2)) {
                return index;
            }
            number = number * 10 + digit;
            digits++;
            return NO_FAULT;
        }

        private int readMark(char mark, int index, int lotCount) {
            if (digits == 0) {
                return index;
            }
            if (isTooGreat(lotCount)) {
                return index - digits;
            }
            boolean isAllowed = isInAmount ? mark == ',' || mark == '/' : mark == '=';
            if (!isAllowed) {
                return index;
            }
            takeNumber();
            if (mark == ',') {
                wish++;
            }
            return NO_FAULT;
        }

        private int readEnd(int lotCount) {
            if (digits > 0 && isTooGreat(lotCount)) {
                return length - digits;
            }
            if (!isInAmount || digits == 0) {
                return length;
            }
            takeNumber();
            return NO_FAULT;
        }

        private boolean isTooGreat(int lotCount) {
            return isInAmount ? number > MOST_AMOUNT : number >= lotCount;
        }

        private void takeNumber() {
            if (isInAmount) {
                amounts.put(told, number);
                wishes.put(told, wish);
                told++;
            } else {
                lots.put(told, number);
            }
            isInAmount = !isInAmount;
            startNumber();
        }
    }
}
